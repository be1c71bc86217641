/-! what the Statement gives of the start: the surroundings -/
theorem k_mem {F : List Cond} {args : Array Value} {s : State} (hs : ∀ w ∈ F, w.before args s = true) {N : Nat} {P : Nat → Cond} (h : ∀ i, i < N → P i ∈ F) : ∀ i, i < N → (P i).before args s = true := fun i hi => hs _ (h i hi)
theorem k_E_start {args : Array Value} {s : State} (hts : ∀ w ∈ lw_tbl, w.before args s = true) (hgv : (Jvm.Cond.and given_1 narrow_1).before args s = true) : (∃ ad : Nat → Nat, k_E ad (fun q : Nat => s.heap.size ≤ q) s s.heap) ∧ k_C s := by
  have hs := flat_of_before _ hgv
  have hA : ∀ a : Nat, a < s.heap.size → ¬ (fun q : Nat => s.heap.size ≤ q) a := fun a h => Nat.not_le.mpr h
  obtain ⟨t0, ht0, hT0⟩ := va_Tof (args := args) (s := s) (tm := (.static "FuseRows" "LOWEST_SETTING" "[I")) (ty := .int) (N := 4) (f := fun j => .int (lowS j)) (A := fun q : Nat => s.heap.size ≤ q) (by decide) (hs _ (by decide +kernel)) (va_eqt (hs (.eq (.length (.static "FuseRows" "LOWEST_SETTING" "[I")) (.int (Int32.ofNat 4))) (by decide +kernel))) (fun j hj => va_eqt (k_mem hs (N := 4) (P := fun j => .eq (.elem (.static "FuseRows" "LOWEST_SETTING" "[I") (.int (Int32.ofNat j))) (.int (lowS j))) (by decide +kernel) j hj)) hA
  have hZ0 := va_Zof (A := fun q : Nat => s.heap.size ≤ q) (hts _ q228) (hts _ (wA_tbl q8)) ht0 hA
  obtain ⟨t1, ht1, hT1⟩ := va_Tof (args := args) (s := s) (tm := (.static "FuseRows" "HIGHEST_SETTING" "[I")) (ty := .int) (N := 4) (f := fun j => .int (highS j)) (A := fun q : Nat => s.heap.size ≤ q) (by decide) (hs _ (by decide +kernel)) (va_eqt (hs (.eq (.length (.static "FuseRows" "HIGHEST_SETTING" "[I")) (.int (Int32.ofNat 4))) (by decide +kernel))) (fun j hj => va_eqt (k_mem hs (N := 4) (P := fun j => .eq (.elem (.static "FuseRows" "HIGHEST_SETTING" "[I") (.int (Int32.ofNat j))) (.int (highS j))) (by decide +kernel) j hj)) hA
  have hZ1 := va_Zof (A := fun q : Nat => s.heap.size ≤ q) (hts _ q230) (hts _ (wA_tbl q8)) ht1 hA
  refine ⟨⟨fun k => if k = 13 then t0 else t1, hZ0, hT0, hZ1, hT1⟩, ?_⟩
  exact ⟨va_Nw.of rfl (hts _ q32), va_Nw.of rfl (hts _ q56), va_Nw.of rfl (hts _ q63), va_AO.of (hts _ (by decide +kernel))⟩
