/-! what the Statement gives of the start: the surroundings -/
theorem k_mem {F : List Cond} {args : Array Value} {s : State} (hs : ∀ w ∈ F, w.before args s = true) {N : Nat} {P : Nat → Cond} (h : ∀ i, i < N → P i ∈ F) : ∀ i, i < N → (P i).before args s = true := fun i hi => hs _ (h i hi)
theorem k_mem2 {F : List Cond} {args : Array Value} {s : State} (hs : ∀ w ∈ F, w.before args s = true) {N : Nat} {M : Nat → Nat} {P : Nat → Nat → Cond} (h : ∀ i, i < N → ∀ j, j < M i → P i j ∈ F) : ∀ i, i < N → ∀ j, j < M i → (P i j).before args s = true := fun i hi j hj => hs _ (h i hi j hj)
theorem k_memn {F : List Cond} {args : Array Value} {s : State} (hs : ∀ w ∈ F, w.before args s = true) {N : Nat} {P : Nat → Nat → Cond} (h : ∀ i, i < N → ∀ j, j < N → i < j → P i j ∈ F) : ∀ i j, i < N → j < N → i ≠ j → (P i j).before args s = true ∨ (P j i).before args s = true := fun i j hi hj hn => by
  rcases Nat.lt_or_gt_of_ne hn with g | g
  · exact Or.inl (hs _ (h i hi j hj g))
  · exact Or.inr (hs _ (h j hj i hi g))
theorem vk_S_congr {N : Nat} {len : List Nat} {byt : List (List Int32)} {a b a2 b2 : Nat → Nat} {A : Nat → Prop} {U : State} {H : Heap} (h : vk_S N len byt a b A U H) (ha : ∀ i, i < N → a2 i = a i) (hb : ∀ i, i < N → b2 i = b i) : vk_S N len byt a2 b2 A U H := by
  refine ⟨fun i hi => ?_, fun i j hi hj e => h.2 i j hi hj (by rw [← ha i hi, ← ha j hj]; exact e)⟩
  rw [ha i hi, hb i hi]
  exact h.1 i hi
theorem k_eval {t : Term} {args : Array Value} {s : State} {C : String} (h : (Cond.exactly t C).before args s = true) : ∃ a, t.eval args s none [] s = some (.ref a) := by
  obtain ⟨a, c, cA, kA, q1, -⟩ := Cond.exactly_spec (args := args) (first := s) (o := none) (s := s) (idx := []) (t := t) (cls := C) h
  exact ⟨a, q1⟩
abbrev tmS : Nat → Term := fun i => .string RX1 (85 + 2 * i)
theorem k_E_start {args : Array Value} {s : State} (hts : ∀ w ∈ lw_tbl, w.before args s = true) (hgv : (Jvm.Cond.and given_1 narrow_1).before args s = true) : (∃ ad : Nat → Nat, k_E ad (fun q : Nat => s.heap.size ≤ q) s s.heap) ∧ k_N s ∧ k_C s := by
  have hs := flat_of_before _ hgv
  have hA : ∀ a : Nat, a < s.heap.size → ¬ (fun q : Nat => s.heap.size ≤ q) a := fun a h => Nat.not_le.mpr h
  obtain ⟨adK, adV, hS, hSe⟩ := vk_Sof (args := args) (s := s) (N := 5) (tm := tmS) (len := lenW) (byt := bytW) (A := fun q : Nat => s.heap.size ≤ q) (by decide)
    (k_mem hs (P := fun i => .exactly (tmS i) "java/lang/String") (by decide +kernel))
    (k_mem hs (P := fun i => .eq (.field (tmS i) "java/lang/String" "coder" "B") (.int 0)) (by decide +kernel))
    (k_mem hs (P := fun i => .arrayOf (.field (tmS i) "java/lang/String" "value" "[B") .byte) (by decide +kernel))
    (k_mem hs (P := fun i => .eq (.length (.field (tmS i) "java/lang/String" "value" "[B")) (.int (Int32.ofNat (lenW.getD i 0)))) (by decide +kernel))
    (k_mem2 hs (M := fun i => lenW.getD i 0) (P := fun i j => .eq (.elem (.field (tmS i) "java/lang/String" "value" "[B") (.int (Int32.ofNat j))) (.int ((bytW.getD i []).getD j 0))) (by decide +kernel))
    (k_memn hs (P := fun i j => .not (.eq (tmS i) (tmS j))) (by decide +kernel)) hA
  obtain ⟨b0, hb0⟩ := k_eval (hs (.exactly (.string RX4 202) "java/lang/String") (by decide +kernel))
  obtain ⟨b1, hb1⟩ := k_eval (hs (.exactly (.string RX4 209) "java/lang/String") (by decide +kernel))
  obtain ⟨b2, hb2⟩ := k_eval (hs (.exactly (.string RX4 214) "java/lang/String") (by decide +kernel))
  obtain ⟨t0, ht0, hT0⟩ := va_Tof (args := args) (s := s) (tm := (.static "FuseRows$OrderText" "LOWEST_NUMBER" "[I")) (ty := .int) (N := 5) (f := fun j => .int (lowN j)) (A := fun q : Nat => s.heap.size ≤ q) (by decide) (hs _ (by decide +kernel)) (va_eqt (hs (.eq (.length (.static "FuseRows$OrderText" "LOWEST_NUMBER" "[I")) (.int (Int32.ofNat 5))) (by decide +kernel))) (fun j hj => va_eqt (k_mem hs (N := 5) (P := fun j => .eq (.elem (.static "FuseRows$OrderText" "LOWEST_NUMBER" "[I") (.int (Int32.ofNat j))) (.int (lowN j))) (by decide +kernel) j hj)) hA
  have hZ0 := va_Zof (A := fun q : Nat => s.heap.size ≤ q) (hts _ q236) (hts _ (wA_tbl q74)) ht0 hA
  obtain ⟨t1, ht1, hT1⟩ := va_Tof (args := args) (s := s) (tm := (.static "FuseRows$OrderText" "HIGHEST_NUMBER" "[I")) (ty := .int) (N := 5) (f := fun j => .int (highN j)) (A := fun q : Nat => s.heap.size ≤ q) (by decide) (hs _ (by decide +kernel)) (va_eqt (hs (.eq (.length (.static "FuseRows$OrderText" "HIGHEST_NUMBER" "[I")) (.int (Int32.ofNat 5))) (by decide +kernel))) (fun j hj => va_eqt (k_mem hs (N := 5) (P := fun j => .eq (.elem (.static "FuseRows$OrderText" "HIGHEST_NUMBER" "[I") (.int (Int32.ofNat j))) (.int (highN j))) (by decide +kernel) j hj)) hA
  have hZ1 := va_Zof (A := fun q : Nat => s.heap.size ≤ q) (hts _ q238) (hts _ (wA_tbl q74)) ht1 hA
  obtain ⟨t2, ht2, hT2⟩ := va_Tof (args := args) (s := s) (tm := (.static "FuseRows" "LOWEST_SETTING" "[I")) (ty := .int) (N := 4) (f := fun j => .int (lowS j)) (A := fun q : Nat => s.heap.size ≤ q) (by decide) (hs _ (by decide +kernel)) (va_eqt (hs (.eq (.length (.static "FuseRows" "LOWEST_SETTING" "[I")) (.int (Int32.ofNat 4))) (by decide +kernel))) (fun j hj => va_eqt (k_mem hs (N := 4) (P := fun j => .eq (.elem (.static "FuseRows" "LOWEST_SETTING" "[I") (.int (Int32.ofNat j))) (.int (lowS j))) (by decide +kernel) j hj)) hA
  have hZ2 := va_Zof (A := fun q : Nat => s.heap.size ≤ q) (hts _ q603) (hts _ (wA_tbl q71)) ht2 hA
  obtain ⟨t3, ht3, hT3⟩ := va_Tof (args := args) (s := s) (tm := (.static "FuseRows" "HIGHEST_SETTING" "[I")) (ty := .int) (N := 4) (f := fun j => .int (highS j)) (A := fun q : Nat => s.heap.size ≤ q) (by decide) (hs _ (by decide +kernel)) (va_eqt (hs (.eq (.length (.static "FuseRows" "HIGHEST_SETTING" "[I")) (.int (Int32.ofNat 4))) (by decide +kernel))) (fun j hj => va_eqt (k_mem hs (N := 4) (P := fun j => .eq (.elem (.static "FuseRows" "HIGHEST_SETTING" "[I") (.int (Int32.ofNat j))) (.int (highS j))) (by decide +kernel) j hj)) hA
  have hZ3 := va_Zof (A := fun q : Nat => s.heap.size ≤ q) (hts _ q605) (hts _ (wA_tbl q71)) ht3 hA
  refine ⟨⟨fun k => if k < 5 then adK k else if k < 10 then adV (k - 5) else if k = 11 then t0 else if k = 12 then t1 else if k = 13 then t2 else if k = 14 then t3 else if k = 15 then b0 else if k = 16 then b1 else b2, ⟨⟨?_, ?_, ?_, ?_⟩, ⟨?_, ?_, ?_, hZ0, hT0, hZ1, hT1, hZ2, hT2, hZ3, hT3, ?_, ?_⟩⟩⟩, ?_, ?_⟩
  · exact ⟨vk_R.of (hts _ (by decide +kernel)) (hSe 0 (by decide)), vk_R.of (hts _ (by decide +kernel)) (hSe 1 (by decide)), vk_R.of (hts _ (by decide +kernel)) (hSe 2 (by decide)), vk_R.of (hts _ (by decide +kernel)) (hSe 3 (by decide)), vk_R.of (hts _ (by decide +kernel)) (hSe 4 (by decide))⟩
  · exact ⟨vk_R.of (hts _ (by decide +kernel)) hb0, vk_R.of (hts _ (by decide +kernel)) hb1, vk_R.of (hts _ (by decide +kernel)) hb2⟩
  · exact va_Nw.of rfl (hts _ q242)
  · intro w hw
    refine va_Nw.of ?_ (hts w ?_)
    · simp only [k_wN, List.mem_cons, List.not_mem_nil, or_false] at hw
      rcases hw with rfl | rfl | rfl | rfl | rfl | rfl <;> rfl
    · exact (by decide +kernel : ∀ w ∈ k_wN, w ∈ lw_tbl) w hw
  · refine vk_S_congr hS (fun i hi => ?_) (fun i hi => ?_)
    · simp only [hi, if_true]
    · simp only [show ¬ i + 5 < 5 by omega, show i + 5 < 10 by omega, if_true, if_false, Nat.add_sub_cancel]
  · exact va_Zof (hts _ q193) (hts _ (wA_tbl q86)) (va_eqi (hs _ (by decide +kernel))) hA
  · exact va_Zqof (hts _ q209) (hts _ (by decide +kernel)) (hs _ (by decide +kernel)) hA
  · exact vx_Zqof (hts _ q485) (hts _ (wA_tbl q76)) (hs _ (by decide +kernel)) hA
  · exact vx_Zqof (hts _ q487) (hts _ (wA_tbl q76)) (hs _ (by decide +kernel)) hA
  · exact ⟨va_Nc.of (hs _ (by decide +kernel)), va_Nc.of (hs _ (by decide +kernel)), va_Nc.of (hs _ (by decide +kernel))⟩
  · exact ⟨va_Nw.of rfl (hts _ q100), va_Nw.of rfl (hts _ q124), va_Nw.of rfl (hts _ q131), va_AO.of (hts _ (by decide +kernel))⟩
