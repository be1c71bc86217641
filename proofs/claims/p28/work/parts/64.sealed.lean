/-! entries are sealed: a mask with one more fuse of key, value or check is no entry -/
theorem or_chk (m x : Nat) : (m ||| x) / 1024 % 16 = m / 1024 % 16 ||| x / 1024 % 16 := by
  rw [show (1024 : Nat) = 2 ^ 10 by rfl, show (16 : Nat) = 2 ^ 4 by rfl, Nat.or_div_two_pow, Nat.or_mod_two_pow]
theorem or_low (m x : Nat) : (m ||| x) % 16384 = m % 16384 ||| x % 16384 := by
  rw [show (16384 : Nat) = 2 ^ 14 by rfl, Nat.or_mod_two_pow]
theorem mark_bit (m : Nat) : m / 16384 % 2 = if m.testBit 14 then 1 else 0 := bit_of (m := m) (f := 14)
theorem zer_e (m : Nat) : zer m = 10 - cnt m.testBit 10 := by
  unfold zer pc
  congr 1
  refine cnt_congr (fun j hj => ?_)
  rw [show (1024 : Nat) = 2 ^ 10 by rfl, Nat.testBit_mod_two_pow]
  simp [hj]
theorem kd_4 {m : Nat} : kd m = 4 ↔ (m % 16384 ≠ 0 ∧ m / 16384 % 2 = 0 ∧ m / 1024 % 16 = zer m) := by
  unfold kd
  by_cases h0 : m = 0
  · subst h0; simp
  · rw [if_neg h0]
    by_cases h1 : m % 16384 = 0
    · rw [if_pos h1]; simp [h1]
    · rw [if_neg h1]
      by_cases h2 : m / 16384 % 2 = 1
      · rw [if_pos h2]; constructor
        · intro q; omega
        · intro q; omega
      · rw [if_neg h2]
        by_cases h3 : m / 1024 % 16 = zer m
        · rw [if_pos h3]; exact ⟨fun _ => ⟨h1, by omega, h3⟩, fun _ => rfl⟩
        · rw [if_neg h3]; exact ⟨fun q => by omega, fun q => absurd q.2.2 h3⟩
theorem kd_3 {m : Nat} (h1 : m % 16384 ≠ 0) (h2 : m / 16384 % 2 = 0) (h3 : m / 1024 % 16 ≠ zer m) : kd m = 3 := by
  unfold kd
  rw [if_neg (by rintro rfl; exact h1 rfl), if_neg h1, if_neg (by omega), if_neg h3]
theorem kd_or {m x : Nat} (h : kd m = 4) (hx : x < 16384) (hne : m ||| x ≠ m) : kd (m ||| x) = 3 := by
  obtain ⟨a1, a2, a3⟩ := kd_4.mp h
  have xb : ∀ j, 14 ≤ j → x.testBit j = false := fun j hj => Nat.testBit_lt_two_pow (Nat.lt_of_lt_of_le hx (by rw [show (16384 : Nat) = 2 ^ 14 by rfl]; exact Nat.pow_le_pow_right (by decide) hj))
  obtain ⟨j, hj⟩ := Nat.exists_testBit_ne_of_ne hne
  rw [Nat.testBit_or] at hj
  have jm : m.testBit j = false := by
    cases e : m.testBit j
    · rfl
    · rw [e] at hj; simp at hj
  have jx : x.testBit j = true := by
    cases e : x.testBit j
    · rw [e, jm] at hj; simp at hj
    · rfl
  have j14 : j < 14 := by
    rcases Nat.lt_or_ge j 14 with q | q
    · exact q
    · rw [xb j q] at jx; cases jx
  have b1 : m % 16384 ≤ m % 16384 ||| x % 16384 := Nat.left_le_or
  have b2 : m / 1024 % 16 ≤ m / 1024 % 16 ||| x / 1024 % 16 := Nat.left_le_or
  have z1 : cnt m.testBit 10 ≤ cnt (m ||| x).testBit 10 := cnt_mono' 10 (fun i _ q => by rw [Nat.testBit_or, q]; rfl)
  have z2 : cnt (m ||| x).testBit 10 ≤ 10 := cnt_le _ _
  have hm : (m ||| x).testBit 14 = m.testBit 14 := by rw [Nat.testBit_or, xb 14 (Nat.le_refl _), Bool.or_false]
  refine kd_3 (by rw [or_low]; omega) (by rw [mark_bit, hm, ← mark_bit]; exact a2) ?_
  rw [or_chk, zer_e]
  rw [zer_e] at a3
  by_cases j10 : j < 10
  · have z3 : cnt m.testBit 10 < cnt (m ||| x).testBit 10 := cnt_lt (fun i _ q => by rw [Nat.testBit_or, q]; rfl) j10 jm (by rw [Nat.testBit_or, jx]; simp)
    omega
  · have c : m / 1024 % 16 ≠ m / 1024 % 16 ||| x / 1024 % 16 := by
      intro q
      have e := congrArg (fun z => Nat.testBit z (j - 10)) q
      simp only [Nat.testBit_or] at e
      rw [show (1024 : Nat) = 2 ^ 10 by rfl, show (16 : Nat) = 2 ^ 4 by rfl, Nat.testBit_mod_two_pow, Nat.testBit_mod_two_pow, Nat.testBit_div_two_pow, Nat.testBit_div_two_pow, show j - 10 + 10 = j by omega, jm, jx] at e
      simp at e
      omega
    omega
theorem kd_mark4 (m : Nat) : kd (m ||| 16384) ≠ 4 := by
  intro h
  have := (kd_4.mp h).2.1
  rw [mark_bit, Nat.testBit_or] at this
  simp [show Nat.testBit 16384 14 = true by decide] at this
theorem kd_mark {m : Nat} (h : kd m = 4) : kd (m ||| 16384) = 2 := by
  obtain ⟨a1, a2, a3⟩ := kd_4.mp h
  have b1 : m % 16384 ≤ m % 16384 ||| 16384 % 16384 := Nat.left_le_or
  have hb : (m ||| 16384) / 16384 % 2 = 1 := by rw [mark_bit, Nat.testBit_or]; simp [show Nat.testBit 16384 14 = true by decide]
  have hl : (m ||| 16384) % 16384 ≠ 0 := by rw [or_low]; omega
  unfold kd
  rw [if_neg (by intro q; rw [q] at hl; exact hl rfl), if_neg hl, if_pos hb]
theorem or_has {m f : Nat} (h : m.testBit f = true) : m ||| 2 ^ f = m := by
  apply Nat.eq_of_testBit_eq
  intro j
  rw [Nat.testBit_or, Nat.testBit_two_pow]
  by_cases e : f = j
  · subst e; simp [h]
  · simp [e]
theorem or_hasn {m f x : Nat} (h : m.testBit f = false) (hx : x.testBit f = true) : m ||| x ≠ m := by
  intro q
  have := congrArg (fun z => Nat.testBit z f) q
  simp only [Nat.testBit_or] at this
  rw [h, hx] at this
  simp at this
theorem kd_one {m f : Nat} (h : kd m = 4) (hf : f < 14) : kd (m ||| 2 ^ f) = if m.testBit f = true then 4 else 3 := by
  by_cases e : m.testBit f = true
  · rw [if_pos e, or_has e, h]
  · rw [if_neg e]
    have hp : 2 ^ f < 16384 := by rw [show (16384 : Nat) = 2 ^ 14 by rfl]; exact Nat.pow_lt_pow_right (by decide) hf
    exact kd_or h hp (or_hasn (by simpa using e) Nat.testBit_two_pow_self)
theorem kd_two {m f o : Nat} (h : kd m = 4) (hf : f < 14) (ho : o < 14) : kd ((m ||| 2 ^ f) ||| 2 ^ o) = if m.testBit f = true ∧ m.testBit o = true then 4 else 3 := by
  by_cases e : m.testBit f = true
  · rw [or_has e, kd_one h ho]
    by_cases e2 : m.testBit o = true
    · rw [if_pos e2, if_pos ⟨e, e2⟩]
    · rw [if_neg e2, if_neg (fun q => e2 q.2)]
  · rw [if_neg (fun q => e q.1), Nat.or_assoc]
    have p1 : 2 ^ f < 2 ^ 14 := Nat.pow_lt_pow_right (by decide) hf
    have p2 : 2 ^ o < 2 ^ 14 := Nat.pow_lt_pow_right (by decide) ho
    have hp : 2 ^ f ||| 2 ^ o < 16384 := Nat.or_lt_two_pow (n := 14) p1 p2
    exact kd_or h hp (or_hasn (by simpa using e) (by rw [Nat.testBit_or, Nat.testBit_two_pow_self]; rfl))
/-- a full blow reads at once, read once or thrice -/
theorem mkN_bl (g : Nat → Nat → Nat) (t : Nat) (th : Bool) (r : Nat) {f : Nat} (hf : f < 16) : mkN (blG g r f 3) t th r = mkN g t th r ||| 2 ^ f := by
  have hp : 2 ^ f < 2 ^ 16 := Nat.pow_lt_pow_right (by decide) hf
  refine bm_ext (n := 16) (mkN_lt _ _ _ _) (Nat.or_lt_two_pow (mkN_lt _ _ _ _) hp) (fun j hj => ?_)
  rw [mkN_bit _ _ _ _ hj, Nat.testBit_or, mkN_bit _ _ _ _ hj, Nat.testBit_two_pow]
  unfold rdB blG upG
  by_cases e : j = f
  · subst e
    have h3 : (t + r + j) % 3 < max (g r j) 3 := by omega
    cases th <;> simp [h3] <;> omega
  · have e2 : ¬ f = j := fun q => e q.symm
    simp [e, e2]
theorem any_nI (v : Int32) : ∃ a, v = nI a := ⟨v.toBitVec.toNat, by
  apply Int32.toBitVec_inj.mp
  show v.toBitVec = BitVec.ofNat 32 v.toBitVec.toNat
  simp⟩
/-- low: below its bound whatever the number -/
theorem low_lt (v : Int32) {k : Nat} (h0 : 0 < k) (hk : k < 2 ^ 31) : ∃ j, j < k ∧ fL_low v (nI k) = some (nI j) := by
  obtain ⟨a, rfl⟩ := any_nI v
  refine ⟨a % 2 ^ 31 % k, Nat.mod_lt _ h0, ?_⟩
  have e : nI a &&& nI 2147483647 = nI (a % 2 ^ 31) := nI_modAnd (k := 31) rfl
  have hk0 : ¬ nI k = nI 0 := by rw [nI_eq hk (by decide)]; omega
  have hm : a % 2 ^ 31 < 2 ^ 31 := Nat.mod_lt _ (by decide)
  unfold fL_low
  simp only [kE_let, kE_if, L0, show (2147483647 : Int32) = nI 2147483647 by decide, e, hk0, if_false, pk_rem hm h0 hk]
section SE
variable {g : Nat → Nat → Nat} {tk : Nat} {en pu : Int32} {se : Nat → Nat} {St : Nat → ST} {m old : Nat} {no nt ns : Nat → Int32} {ni ne np : Int32} {sr : Nat → SV} {so sc : Int32}
/-- undo behind one change, and behind two -/
theorem oc_undo1 {S S' : ST} (hm : m ≤ 6) (hc : OC S' (saveF St m S) (saveM m) old no nt ns ni ne np sr so sc) : ∃ m' no' nt' ns' ni' ne' np', m' ≤ 6 ∧ fX4_undo no nt ns ni ne np sr so sc = some (nI m', no', nt', ns', ni', ne', np', nI m') ∧ OC S (saveF St m S) m' old no' nt' ns' ni' ne' np' sr so (nI m') := by
  obtain ⟨no', nt', ns', ni', ne', np', h1, h2⟩ := oc_undo hc (saveM_pos m)
  rw [saveF_top St m S hm] at h2
  have := saveM_le hm
  exact ⟨_, no', nt', ns', ni', ne', np', by omega, h1, h2⟩
theorem oc_undo2 {S S1 S' : ST} (hm : m ≤ 6) (hc : OC S' (saveF (saveF St m S) (saveM m) S1) (saveM (saveM m)) old no nt ns ni ne np sr so sc) : ∃ m1' a1 a2 a3 a4 a5 a6 m' no' nt' ns' ni' ne' np' St', m1' ≤ 6 ∧ m' ≤ 6 ∧ fX4_undo no nt ns ni ne np sr so sc = some (nI m1', a1, a2, a3, a4, a5, a6, nI m1') ∧ fX4_undo a1 a2 a3 a4 a5 a6 sr so (nI m1') = some (nI m', no', nt', ns', ni', ne', np', nI m') ∧ OC S St' m' old no' nt' ns' ni' ne' np' sr so (nI m') := by
  have hm1 := saveM_le hm
  have hp := saveM_pos m
  have hm2 := saveM_le hm1
  obtain ⟨a1, a2, a3, a4, a5, a6, h1, h2⟩ := oc_undo hc (saveM_pos _)
  have h0 : 0 < saveM (saveM m) - 1 := by unfold saveM; repeat (first | omega | split)
  obtain ⟨no', nt', ns', ni', ne', np', h3, h4⟩ := oc_undo h2 h0
  rw [saveF_below _ _ _ hm1 hp, saveF_top St m S hm] at h4
  exact ⟨_, a1, a2, a3, a4, a5, a6, _, no', nt', ns', ni', ne', np', _, by omega, by omega, h1, h3, h4⟩
theorem blG_15 (g : Nat → Nat → Nat) {r f : Nat} (hf : f < 14) (c : Nat) : blG g r f c r 15 = g r 15 := by
  unfold blG upG
  rw [if_neg (by omega)]
theorem max3 {a : Nat} (h : a ≤ 3) : max a 3 = 3 := by omega
set_option maxHeartbeats 2000000 in
theorem se_step (hc : OC (g, tk, en, pu, se) St m old no nt ns ni ne np sr so sc) {r i : Nat} (hr : r < 20) (hi : i < 14) (hk : kd (mkN g tk (decide (se 0 = 1)) r) = 4) (hl : ¬ 2 ≤ g r 15) (p2 : Int32) (K : (Nat → Int32) → (Nat → Int32) → (Nat → Int32) → Int32 → Int32 → Int32 → (Nat → SV) → Int32 → Int32 → Option (Int32 × (Nat → Int32) × (Nat → Int32) × (Nat → Int32) × Int32 × Int32 × Int32 × (Nat → SV) × Int32 × Int32)) : ∃ St' m' old' no' nt' ns' ni' ne' np' sr', OC (g, tk, en, pu, se) St' m' old' no' nt' ns' ni' ne' np' sr' (nI old') (nI m') ∧ ∀ rec, fL_isSealed_s53 K p2 (nI (mkN g tk (decide (se 0 = 1)) r)) (nI r) rec (nI i) no nt ns ni ne np sr so sc = rec (nI (i + 1)) no' nt' ns' ni' ne' np' sr' (nI old') (nI m') := by
  have hg : ∀ r f, g r f ≤ 3 := hc.1.1
  have hm6 : m ≤ 6 := hc.2.2.1
  have hM := mkN_lt g tk (decide (se 0 = 1)) r
  obtain ⟨j, hj, hlow⟩ := low_lt (p2 >>> nI i) (k := 13) (by decide) (by decide)
  have ho : (i + 1 + j) % 14 < 14 := Nat.mod_lt _ (by decide)
  obtain ⟨no1, nt1, ne1, sr1, old1, e1, f1⟩ := oc_blow hc hr (show i < 16 by omega) (c := 3) (by decide) (by decide) hl
  have hl1 : ¬ 2 ≤ blG g r i 3 r 15 := by rw [blG_15 g hi]; exact hl
  have hg1 : ∀ r' f', blG g r i 3 r' f' ≤ 3 := f1.1.1
  obtain ⟨no2, nt2, ne2, sr2, old2, e2, f2⟩ := oc_blow f1 hr (show (i + 1 + j) % 14 < 16 by omega) (c := 3) (by decide) (by decide) hl1
  rw [max3 (hg r i)] at e1
  rw [max3 (hg1 r _)] at e2
  have y1 := oc_row f1 hr (show 1 < 9 by decide)
  have y2 := oc_row f2 hr (show 1 < 9 by decide)
  rw [tr_1, mkN_bl g tk _ r (show i < 16 by omega), kd_one hk hi] at y1
  rw [tr_1, mkN_bl _ tk _ r (show (i + 1 + j) % 14 < 16 by omega), mkN_bl g tk _ r (show i < 16 by omega), kd_two hk hi ho] at y2
  have x8 := oc_cnt hc (show 8 < 13 by decide)
  have y8 := oc_cnt f1 (show 8 < 13 by decide)
  rw [ct_8] at x8 y8
  obtain ⟨m1', a1, a2, a3, a4, a5, a6, m', no', nt', ns', ni', ne', np', St', q1, q2, q3, q4, q5⟩ := oc_undo2 hm6 f2
  refine ⟨St', m', old2, no', nt', ns', ni', ne', np', sr2, q5, fun rec => ?_⟩
  have h14 : ¬ nI 14 ≤ nI i := by rw [nI_leI (by decide) (by omega)]; omega
  have w1 : ¬ nI m1' < nI 0 := nI_nlt0 (by omega)
  have w2 : nI 0 ≤ nI m' := by rw [nI_leI (by decide) (by omega)]; omega
  have n43 : ¬ nI 4 = nI 3 := by decide
  have n34 : ¬ nI 3 = nI 4 := by decide
  generalize hMM : mkN g tk (decide (se 0 = 1)) r = M at hM y1 y2
  unfold fL_isSealed_s53
  have hsh1 : nI M >>> nI i &&& nI 1 = nI (if M.testBit i = true then 1 else 0) := by
    rw [nI_shr (by omega) (by omega), nI_a1, bit_of]
  have hsh2 : nI M >>> nI ((i + 1 + j) % 14) &&& nI 1 = nI (if M.testBit ((i + 1 + j) % 14) = true then 1 else 0) := by
    rw [nI_shr (by omega) (by omega), nI_a1, bit_of]
  simp only [↓LM1, kE_let, kE_if, kE_b1, kE_b2, kE_b3, kE_b4, kE_b5, kE_b6, kE_b7, kE_b8, kE_b9, kE_j0, kE_j1, kE_j2, kE_j3, kE_j4, L0, L1, L2, L3, L4, L5, L6, L9, L15, L16, L19, L20, L63, L99, L9999, L12, L13, L64, L8, L14, n10, n01, le00, le10, le20, le30, ne20, ne30, ne21, if_true, if_false, not_true_eq_false, not_false_eq_true, L31, h14, nI_31 (show i < 32 by omega), nI_31 (show (i + 1 + j) % 14 < 32 by omega), nI_add, hlow, pk_rem (show i + 1 + j < 2 ^ 31 by omega) (show 0 < 14 by decide) (show 14 < 2 ^ 31 by decide), hsh1, hsh2]
  by_cases b1 : M.testBit i = true
  · by_cases b2 : M.testBit ((i + 1 + j) % 14) = true
    · rw [if_pos b1] at y1
      rw [if_pos ⟨b1, b2⟩] at y2
      simp only [↓LM1, kE_let, kE_if, kE_b1, kE_b2, kE_b3, kE_b4, kE_b5, kE_b6, kE_b7, kE_b8, kE_b9, kE_j0, kE_j1, kE_j2, kE_j3, kE_j4, L0, L1, L2, L3, L4, L5, L6, L9, L15, L16, L19, L20, L63, L99, L9999, L12, L13, L64, L8, L14, n10, n01, le00, le10, le20, le30, ne20, ne30, ne21, if_true, if_false, not_true_eq_false, not_false_eq_true, Bool.false_eq_true, n43, n34, b1, b2, x8, y8, e1, e2, y1, y2, q3, q4, w1, w2, nI_add]
    · rw [if_pos b1] at y1
      rw [if_neg (fun q => b2 q.2)] at y2
      simp only [↓LM1, kE_let, kE_if, kE_b1, kE_b2, kE_b3, kE_b4, kE_b5, kE_b6, kE_b7, kE_b8, kE_b9, kE_j0, kE_j1, kE_j2, kE_j3, kE_j4, L0, L1, L2, L3, L4, L5, L6, L9, L15, L16, L19, L20, L63, L99, L9999, L12, L13, L64, L8, L14, n10, n01, le00, le10, le20, le30, ne20, ne30, ne21, if_true, if_false, not_true_eq_false, not_false_eq_true, Bool.false_eq_true, n43, n34, b1, b2, x8, y8, e1, e2, y1, y2, q3, q4, w1, w2, nI_add]
  · rw [if_neg b1] at y1
    rw [if_neg (fun q => b1 q.1)] at y2
    by_cases b2 : M.testBit ((i + 1 + j) % 14) = true
    · simp only [↓LM1, kE_let, kE_if, kE_b1, kE_b2, kE_b3, kE_b4, kE_b5, kE_b6, kE_b7, kE_b8, kE_b9, kE_j0, kE_j1, kE_j2, kE_j3, kE_j4, L0, L1, L2, L3, L4, L5, L6, L9, L15, L16, L19, L20, L63, L99, L9999, L12, L13, L64, L8, L14, n10, n01, le00, le10, le20, le30, ne20, ne30, ne21, if_true, if_false, not_true_eq_false, not_false_eq_true, Bool.false_eq_true, n43, n34, b1, b2, x8, y8, e1, e2, y1, y2, q3, q4, w1, w2, nI_add]
    · simp only [↓LM1, kE_let, kE_if, kE_b1, kE_b2, kE_b3, kE_b4, kE_b5, kE_b6, kE_b7, kE_b8, kE_b9, kE_j0, kE_j1, kE_j2, kE_j3, kE_j4, L0, L1, L2, L3, L4, L5, L6, L9, L15, L16, L19, L20, L63, L99, L9999, L12, L13, L64, L8, L14, n10, n01, le00, le10, le20, le30, ne20, ne30, ne21, if_true, if_false, not_true_eq_false, not_false_eq_true, Bool.false_eq_true, n43, n34, b1, b2, x8, y8, e1, e2, y1, y2, q3, q4, w1, w2, nI_add]
theorem se_loop (p2 : Int32) {r : Nat} (hr : r < 20) (hk : kd (mkN g tk (decide (se 0 = 1)) r) = 4) (hl : ¬ 2 ≤ g r 15) (K : (Nat → Int32) → (Nat → Int32) → (Nat → Int32) → Int32 → Int32 → Int32 → (Nat → SV) → Int32 → Int32 → Option (Int32 × (Nat → Int32) × (Nat → Int32) × (Nat → Int32) × Int32 × Int32 × Int32 × (Nat → SV) × Int32 × Int32)) : ∀ (n i fu : Nat) (St : Nat → ST) (m old : Nat) (no nt ns : Nat → Int32) (ni ne np : Int32) (sr : Nat → SV) (so sc : Int32), i + n = 14 → n < fu → OC (g, tk, en, pu, se) St m old no nt ns ni ne np sr so sc → ∃ St' m' old' no' nt' ns' ni' ne' np' sr' so' sc', OC (g, tk, en, pu, se) St' m' old' no' nt' ns' ni' ne' np' sr' so' sc' ∧ k_l10 (fL_isSealed_s53 K p2 (nI (mkN g tk (decide (se 0 = 1)) r)) (nI r)) fu (nI i) no nt ns ni ne np sr so sc = K no' nt' ns' ni' ne' np' sr' so' sc' := by
  intro n
  induction n with
  | zero =>
    intro i fu St m old no nt ns ni ne np sr so sc hi hf hc
    obtain rfl : i = 14 := by omega
    obtain ⟨fu, rfl⟩ : ∃ x, fu = x + 1 := ⟨fu - 1, by omega⟩
    refine ⟨St, m, old, no, nt, ns, ni, ne, np, sr, so, sc, hc, ?_⟩
    show fL_isSealed_s53 K p2 _ _ (k_l10 _ fu) (nI 14) no nt ns ni ne np sr so sc = _
    have h14 : nI 14 ≤ nI 14 := Int32.le_refl _
    unfold fL_isSealed_s53
    simp only [L14, kE_if, h14, if_true]
  | succ n ih =>
    intro i fu St m old no nt ns ni ne np sr so sc hi hf hc
    obtain ⟨fu, rfl⟩ : ∃ x, fu = x + 1 := ⟨fu - 1, by omega⟩
    obtain ⟨St1, m1', old1, no1, nt1, ns1, ni1, ne1, np1, sr1, c1, e1⟩ := se_step hc hr (show i < 14 by omega) hk hl p2 K
    obtain ⟨St2, m2, old2, no2, nt2, ns2, ni2, ne2, np2, sr2, so2, sc2, c2, e2⟩ := ih (i + 1) fu St1 m1' old1 no1 nt1 ns1 ni1 ne1 np1 sr1 _ _ (by omega) (by omega) c1
    exact ⟨St2, m2, old2, no2, nt2, ns2, ni2, ne2, np2, sr2, so2, sc2, c2, (e1 _).trans e2⟩
theorem oc_Lsealed (hc : OC (g, tk, en, pu, se) St m old no nt ns ni ne np sr so sc) {r : Nat} (hr : r < 20) (p2 : Int32) : ∃ St' m' old' no' nt' ns' ni' ne' np' sr' so' sc', fL_isSealed no nt ns ni ne np sr so sc (nI r) p2 = some (nI 1, no', nt', ns', ni', ne', np', sr', so', sc') ∧ OC (g, tk, en, pu, se) St' m' old' no' nt' ns' ni' ne' np' sr' so' sc' := by
  have x1 := oc_row hc hr (show 1 < 9 by decide)
  have x6 := oc_row hc hr (show 6 < 9 by decide)
  have x7 := oc_row hc hr (show 7 < 9 by decide)
  have x0 := oc_row hc hr (show 0 < 9 by decide)
  rw [tr_1] at x1
  rw [tr_6] at x6
  rw [tr_7] at x7
  rw [tr_0] at x0
  have kl := kd_le (mkN g tk (decide (se 0 = 1)) r)
  have dl := dbtN_le (g r)
  have hg : ∀ r f, g r f ≤ 3 := hc.1.1
  unfold fL_isSealed
  by_cases hk : kd (mkN g tk (decide (se 0 = 1)) r) = 4
  · by_cases hd : dbtN (g r) = 0
    · by_cases hl : 2 ≤ g r 15
      · rw [hk] at x1
        rw [hd] at x6
        rw [bI_t hl] at x7
        refine ⟨St, m, old, no, nt, ns, ni, ne, np, sr, so, sc, ?_, hc⟩
        simp only [↓LM1, kE_let, kE_if, kE_b1, kE_b2, kE_b3, kE_b4, kE_b5, kE_b6, kE_b7, kE_b8, kE_b9, kE_j0, kE_j1, kE_j2, kE_j3, kE_j4, L0, L1, L2, L3, L4, L5, L6, L9, L15, L16, L19, L20, L63, L99, L9999, L12, L13, L64, L8, L14, n10, n01, le00, le10, le20, le30, ne20, ne30, ne21, if_true, if_false, not_true_eq_false, not_false_eq_true, L7, x1, x6, x7]
      · rw [hk] at x1
        rw [hd] at x6
        rw [bI_f hl] at x7
        have lp := fun K => se_loop p2 hr hk hl K 14 0 5000 St m old no nt ns ni ne np sr so sc (by decide) (by decide) hc
        generalize hK : (fun (c4 : Nat → Int32) (c5 : Nat → Int32) (c6 : Nat → Int32) (c7 : Int32) (c8 : Int32) (c9 : Int32) (c10 : Nat → SV) (c11 : Int32) (c12 : Int32) => k_b7 (fX4_blow c4 c5 c6 c7 c8 c9 c10 c11 c12 (nI r) (nI 14) (nI 3)) fun (z13 : Int32) (c14 : Nat → Int32) (c15 : Nat → Int32) (c16 : Int32) (c17 : Nat → SV) (c18 : Int32) (c19 : Int32) =>
          k_if (z13 = nI 3)
          (
            k_b1 (fX4_row c14 c15 c6 c7 (nI r) (nI 1)) fun (z20 : Int32) =>
            k_if (z20 = nI 2)
            (
              k_b8 (fX4_undo c14 c15 c6 c7 c16 c9 c17 c18 c19) fun (z21 : Int32) (c22 : Nat → Int32) (c23 : Nat → Int32) (c24 : Nat → Int32) (c25 : Int32) (c26 : Int32) (c27 : Int32) (c28 : Int32) =>
              k_if (z21 < nI 0)
              (
                some (nI 0, c22, c23, c24, c25, c26, c27, c17, c18, c28))
              (
                k_b1 (fX4_row c22 c23 c24 c25 (nI r) (nI 0)) fun (z29 : Int32) =>
                k_if (z29 = nI (mkN g tk (decide (se 0 = 1)) r))
                (
                  some (nI 1, c22, c23, c24, c25, c26, c27, c17, c18, c28))
                (
                  some (nI 0, c22, c23, c24, c25, c26, c27, c17, c18, c28))))
            (
              some (nI 0, c14, c15, c6, c7, c16, c9, c17, c18, c19)))
          (
            some (nI 0, c14, c15, c6, c7, c16, c9, c17, c18, c19))) = KK
        obtain ⟨St2, m2, old2, no2, nt2, ns2, ni2, ne2, np2, sr2, so2, sc2, c2, e2⟩ := lp KK
        have h6 : m2 ≤ 6 := c2.2.2.1
        obtain ⟨no3, nt3, ne3, sr3, old3, b1, f3⟩ := oc_blow c2 hr (show 14 < 16 by decide) (c := 3) (by decide) (by decide) hl
        rw [max3 (hg r 14)] at b1
        have y1 := oc_row f3 hr (show 1 < 9 by decide)
        rw [tr_1, mkN_bl g tk _ r (show 14 < 16 by decide), show 2 ^ 14 = 16384 by rfl, kd_mark hk] at y1
        obtain ⟨m4, no4, nt4, ns4, ni4, ne4, np4, q1, q2, q3⟩ := oc_undo1 h6 f3
        have y0 := oc_row q3 hr (show 0 < 9 by decide)
        rw [tr_0] at y0
        have w1 : ¬ nI m4 < nI 0 := nI_nlt0 (by omega)
        refine ⟨_, m4, old3, no4, nt4, ns4, ni4, ne4, np4, sr3, _, _, ?_, q3⟩
        have fin : k_l10 (fL_isSealed_s53 KK p2 (nI (mkN g tk (decide (se 0 = 1)) r)) (nI r)) 5000 (nI 0) no nt ns ni ne np sr so sc = some (nI 1, no4, nt4, ns4, ni4, ne4, np4, sr3, nI old3, nI m4) := by
          rw [e2, ← hK]
          simp only [kE_b7, kE_if, kE_b1, kE_b8, b1, y1, q2, y0, w1, if_true, if_false]
        rw [← hK] at fin
        simp only [kE_b7, kE_if, kE_b1, kE_b8] at fin
        simp only [↓LM1, kE_let, kE_if, kE_b1, kE_b2, kE_b3, kE_b4, kE_b5, kE_b6, kE_b7, kE_b8, kE_b9, kE_j0, kE_j1, kE_j2, kE_j3, kE_j4, L0, L1, L2, L3, L4, L5, L6, L9, L15, L16, L19, L20, L63, L99, L9999, L12, L13, L64, L8, L14, n10, n01, le00, le10, le20, le30, ne20, ne30, ne21, if_true, if_false, not_true_eq_false, not_false_eq_true, L7, x1, x6, x7, x0, kE_j9]
        exact fin
    · have d0 : ¬ nI (dbtN (g r)) = nI 0 := by rw [nI_eq (by omega) (by decide)]; exact hd
      rw [hk] at x1
      refine ⟨St, m, old, no, nt, ns, ni, ne, np, sr, so, sc, ?_, hc⟩
      simp only [↓LM1, kE_let, kE_if, kE_b1, kE_b2, kE_b3, kE_b4, kE_b5, kE_b6, kE_b7, kE_b8, kE_b9, kE_j0, kE_j1, kE_j2, kE_j3, kE_j4, L0, L1, L2, L3, L4, L5, L6, L9, L15, L16, L19, L20, L63, L99, L9999, L12, L13, L64, L8, L14, n10, n01, le00, le10, le20, le30, ne20, ne30, ne21, if_true, if_false, not_true_eq_false, not_false_eq_true, L7, x1, x6, x7, d0]
  · have k0 : ¬ nI (kd (mkN g tk (decide (se 0 = 1)) r)) = nI 4 := by rw [nI_eq (by omega) (by decide)]; exact hk
    refine ⟨St, m, old, no, nt, ns, ni, ne, np, sr, so, sc, ?_, hc⟩
    simp only [↓LM1, kE_let, kE_if, kE_b1, kE_b2, kE_b3, kE_b4, kE_b5, kE_b6, kE_b7, kE_b8, kE_b9, kE_j0, kE_j1, kE_j2, kE_j3, kE_j4, L0, L1, L2, L3, L4, L5, L6, L9, L15, L16, L19, L20, L63, L99, L9999, L12, L13, L64, L8, L14, n10, n01, le00, le10, le20, le30, ne20, ne30, ne21, if_true, if_false, not_true_eq_false, not_false_eq_true, L7, x1, x6, x7, k0]
end SE
