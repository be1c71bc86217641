/-! orders carried out -/
theorem nE_01 : (nI 0 = nI 1) = False := eq_false (by decide)
theorem nE_02 : (nI 0 = nI 2) = False := eq_false (by decide)
theorem nE_03 : (nI 0 = nI 3) = False := eq_false (by decide)
theorem nE_04 : (nI 0 = nI 4) = False := eq_false (by decide)
theorem nE_10 : (nI 1 = nI 0) = False := eq_false (by decide)
theorem nE_12 : (nI 1 = nI 2) = False := eq_false (by decide)
theorem nE_13 : (nI 1 = nI 3) = False := eq_false (by decide)
theorem nE_14 : (nI 1 = nI 4) = False := eq_false (by decide)
theorem nE_20 : (nI 2 = nI 0) = False := eq_false (by decide)
theorem nE_21 : (nI 2 = nI 1) = False := eq_false (by decide)
theorem nE_23 : (nI 2 = nI 3) = False := eq_false (by decide)
theorem nE_24 : (nI 2 = nI 4) = False := eq_false (by decide)
theorem nE_30 : (nI 3 = nI 0) = False := eq_false (by decide)
theorem nE_31 : (nI 3 = nI 1) = False := eq_false (by decide)
theorem nE_32 : (nI 3 = nI 2) = False := eq_false (by decide)
theorem nE_34 : (nI 3 = nI 4) = False := eq_false (by decide)
theorem nE_40 : (nI 4 = nI 0) = False := eq_false (by decide)
theorem nE_41 : (nI 4 = nI 1) = False := eq_false (by decide)
theorem nE_42 : (nI 4 = nI 2) = False := eq_false (by decide)
theorem nE_43 : (nI 4 = nI 3) = False := eq_false (by decide)
def doS (S : ST) (o : Nat × Nat × Nat) : Option ST :=
  if o.1 = 0 then (if nextN S.1 S.2.1 (decide (S.2.2.2.2 0 = 1)) = m1 then none else some ((wpM S.1 S.2.1 S.2.2.1 S.2.2.2.2 o.2.1 o.2.2).1, S.2.1, (wpM S.1 S.2.1 S.2.2.1 S.2.2.2.2 o.2.1 o.2.2).2.1, S.2.2.2.1 + nI 1, S.2.2.2.2))
  else if o.1 = 1 then (if 2 ≤ S.1 o.2.1 15 then none else some (blG S.1 o.2.1 15 3, S.2.1, S.2.2.1 + nI 3, S.2.2.2.1, S.2.2.2.2))
  else if o.1 = 2 then some (htG S.1 o.2.1, S.2.1, S.2.2.1, S.2.2.2.1, S.2.2.2.2)
  else if o.1 = 3 then (if 9999 < S.2.1 + o.2.1 then none else some (S.1, S.2.1 + o.2.1, S.2.2.1, S.2.2.2.1, S.2.2.2.2))
  else (if 2 ≤ S.1 o.2.1 15 then none else some (blP S.1 o.2.1 (rfP S.1 o.2.1) (fun _ => 3) 16, S.2.1, enS (rfP S.1 o.2.1) (fun _ => 3) S.2.2.1 16, S.2.2.2.1, S.2.2.2.2))
def okO (o : Nat × Nat × Nat) : Prop := o.1 < 5 ∧ loK o.1 ≤ o.2.1 ∧ o.2.1 ≤ hiK o.1 ∧ o.2.2 < 64
theorem hiK_e : hiK 0 = 15 ∧ hiK 1 = 19 ∧ hiK 2 = 9 ∧ hiK 3 = 99 ∧ hiK 4 = 19 := by decide
theorem doS_wf {S S' : ST} {o : Nat × Nat × Nat} (hS : WFs S) (ho : okO o) (h : doS S o = some S') : WFs S' := by
  obtain ⟨g, tk, en, pu, se⟩ := S
  have hw : WF g tk se := hS
  unfold doS at h
  split at h
  · split at h
    · cases h
    · cases h
      exact hw.wG (mk1_le (wrN_le hw _ _ _ _).1 hw.2.2.2.2.1 _ _)
  · split at h
    · split at h
      · cases h
      · cases h
        exact hw.wG (blG_le hw.1 (by decide))
    · split at h
      · cases h
        exact hw.wG (htG_le hw.1 _)
      · split at h
        · split at h
          · cases h
          · rename_i h1
            cases h
            exact ⟨hw.1, Nat.not_lt.mp h1, hw.2.2⟩
        · split at h
          · cases h
          · cases h
            exact hw.wG (blP_le hw.1 (fun _ _ => Nat.le_refl 3) 16)
section DO
variable {S : ST} {no nt ns : Nat → Int32} {ni ne np : Int32} {z : Nat → Int32}
theorem pX4_carryOut (hS : WFs S) (hR : RSs S (no, nt, ns, ni, ne, np)) {o : Nat × Nat × Nat} (ho : okO o) {i L : Nat} (hi : i < L) (hL : L ≤ 10) {ks nn vs : Nat → Int32} (hk : ks i = nI o.1) (hn : nn i = nI o.2.1) (hv : vs i = nI o.2.2) :
    (doS S o = none ∧ fX4_carryOut no nt ns ni ne np (nI L) ks nn vs (nI i) = some (nI 0, no, nt, ni, ne, np)) ∨ ∃ S' no' nt' ni' ne' np', doS S o = some S' ∧ fX4_carryOut no nt ns ni ne np (nI L) ks nn vs (nI i) = some (nI 1, no', nt', ni', ne', np') ∧ RSs S' (no', nt', ns, ni', ne', np') := by
  obtain ⟨g, tk, en, pu, se⟩ := S
  obtain ⟨k, v, w⟩ := o
  obtain ⟨q1, q2, q3, q4⟩ := ho
  have hw : WF g tk se := hS
  have hR' : RS g tk en pu se no nt ns ni ne np := hR
  have hti : ni = nI tk := hR'.2.2.1
  obtain rfl : ne = en := hR'.2.2.2.1
  obtain rfl : np = pu := hR'.2.2.2.2
  obtain ⟨e0, e1, e2, e3, e4⟩ := hiK_e
  have h2t := hw.2.1
  simp only at q1 q2 q3 q4 hk hn hv
  unfold fX4_carryOut fX4_isRefused doS
  rw [ix_in hi (by omega)]
  simp (config := { maxSteps := 2000000 }) (disch := omega) only [kE_b1, kE_if, ↓LM1, L0, L1, L2, L3, L15, n10, if_false, kE_ck, nI_clamp, kE_let, hk, hn, hv]
  rcases (show k = 0 ∨ k = 1 ∨ k = 2 ∨ k = 3 ∨ k = 4 by omega) with rfl | rfl | rfl | rfl | rfl <;> simp only [nE_01, nE_02, nE_03, nE_04, nE_10, nE_12, nE_13, nE_14, nE_20, nE_21, nE_23, nE_24, nE_30, nE_31, nE_32, nE_34, nE_40, nE_41, nE_42, nE_43, if_true, if_false, ite_true, ite_false, L0, L1, L2, L3, Nat.reduceEqDiff, reduceCtorEq]
  · rw [pX3_nextRow hw hR']
    by_cases hN : nextN g tk (decide (se 0 = 1)) = m1
    · left
      rw [if_pos hN]
      refine ⟨rfl, ?_⟩
      simp only [kE_b1, if_pos hN, nE_01, nE_02, nE_03, nE_04, nE_10, nE_12, nE_13, nE_14, nE_20, nE_21, nE_23, nE_24, nE_30, nE_31, nE_32, nE_34, nE_40, nE_41, nE_42, nE_43, if_true, if_false, ite_true, ite_false, L0, L1, L2, L3]
    · right
      obtain ⟨o', t', p1, p2⟩ := pX3_putNext hw hR' (k := v) (v := w) (by omega) q4 hN
      rw [if_neg hN]
      refine ⟨_, o', t', ni, (wpM g tk ne se v w).2.1, np + nI 1, rfl, ?_, ?_⟩
      · simp only [kE_b1, if_neg hN, nE_01, nE_02, nE_03, nE_04, nE_10, nE_12, nE_13, nE_14, nE_20, nE_21, nE_23, nE_24, nE_30, nE_31, nE_32, nE_34, nE_40, nE_41, nE_42, nE_43, if_true, if_false, ite_true, ite_false, L0, L1, L2, L3, p1, kE_b5]
      · exact ⟨p2, hR'.2.1, hti, rfl, rfl⟩
  · rw [pX3_isLocked hw hR' (by omega)]
    by_cases hN : 2 ≤ g v 15
    · left
      rw [if_pos hN]
      refine ⟨rfl, ?_⟩
      rw [bI_t hN]
      simp only [kE_b1, kE_bz1, nE_01, nE_02, nE_03, nE_04, nE_10, nE_12, nE_13, nE_14, nE_20, nE_21, nE_23, nE_24, nE_30, nE_31, nE_32, nE_34, nE_40, nE_41, nE_42, nE_43, if_true, if_false, ite_true, ite_false, L0, L1, L2, L3]
    · right
      obtain ⟨o', t', p1, p2⟩ := pX3_blowFuse (ey := ne) hw.1 hR'.1 (r := v) (f := 15) (c := 3) (by omega) (by decide) (by decide)
      rw [if_neg hN]
      refine ⟨_, o', t', ni, ne + nI 3, np, rfl, ?_, ?_⟩
      · rw [bI_f hN]
        simp only [kE_b1, kE_bz0, nE_01, nE_02, nE_03, nE_04, nE_10, nE_12, nE_13, nE_14, nE_20, nE_21, nE_23, nE_24, nE_30, nE_31, nE_32, nE_34, nE_40, nE_41, nE_42, nE_43, if_true, if_false, ite_true, ite_false, L0, L1, L2, L3, p1, kE_b3]
      · exact ⟨p2, hR'.2.1, hti, rfl, rfl⟩
  · right
    obtain ⟨o', t', p1, p2⟩ := pX3_heatRows hw.1 hR'.1 (d := v) (by omega)
    refine ⟨_, o', t', ni, ne, np, rfl, ?_, ?_⟩
    · simp only [kE_b1, nE_01, nE_02, nE_03, nE_04, nE_10, nE_12, nE_13, nE_14, nE_20, nE_21, nE_23, nE_24, nE_30, nE_31, nE_32, nE_34, nE_40, nE_41, nE_42, nE_43, if_true, if_false, ite_true, ite_false, L0, L1, L2, L3, p1, kE_b3]
    · exact ⟨p2, hR'.2.1, hti, rfl, rfl⟩
  · rw [hti]
    simp (disch := omega) only [nI_add, L9999, nI_leI]
    by_cases hN : 9999 < tk + v
    · left
      rw [if_pos hN]
      refine ⟨rfl, ?_⟩
      simp only [if_neg (show ¬ tk + v ≤ 9999 by omega), kE_b1, nE_01, nE_02, nE_03, nE_04, nE_10, nE_12, nE_13, nE_14, nE_20, nE_21, nE_23, nE_24, nE_30, nE_31, nE_32, nE_34, nE_40, nE_41, nE_42, nE_43, if_true, if_false, ite_true, ite_false, L0, L1, L2, L3]
    · right
      rw [if_neg hN]
      refine ⟨_, no, nt, nI (tk + v), ne, np, rfl, ?_, ?_⟩
      · simp only [if_pos (show tk + v ≤ 9999 by omega), kE_b1, nE_01, nE_02, nE_03, nE_04, nE_10, nE_12, nE_13, nE_14, nE_20, nE_21, nE_23, nE_24, nE_30, nE_31, nE_32, nE_34, nE_40, nE_41, nE_42, nE_43, if_true, if_false, ite_true, ite_false, L0, L1, L2, L3]
      · exact ⟨hR'.1, hR'.2.1, rfl, rfl, rfl⟩
  · rw [pX3_isLocked hw hR' (by omega)]
    by_cases hN : 2 ≤ g v 15
    · left
      rw [if_pos hN]
      refine ⟨rfl, ?_⟩
      rw [bI_t hN]
      simp only [kE_b1, kE_bz1, nE_01, nE_02, nE_03, nE_04, nE_10, nE_12, nE_13, nE_14, nE_20, nE_21, nE_23, nE_24, nE_30, nE_31, nE_32, nE_34, nE_40, nE_41, nE_42, nE_43, if_true, if_false, ite_true, ite_false, L0, L1, L2, L3]
    · right
      obtain ⟨o', t', p1, p2⟩ := pX3_refreshRow hw hR' (r := v) (by omega)
      rw [if_neg hN]
      refine ⟨_, o', t', ni, enS (rfP g v) (fun _ => 3) ne 16, np, rfl, ?_, ?_⟩
      · rw [bI_f hN]
        simp only [kE_b1, kE_bz0, nE_01, nE_02, nE_03, nE_04, nE_10, nE_12, nE_13, nE_14, nE_20, nE_21, nE_23, nE_24, nE_30, nE_31, nE_32, nE_34, nE_40, nE_41, nE_42, nE_43, if_true, if_false, ite_true, ite_false, L0, L1, L2, L3, p1, kE_b4]
      · exact ⟨p2, hR'.2.1, hti, rfl, rfl⟩
theorem pX5_isKeyT {j : Nat} (h : j < 16) : fX5_isKey (nI j) = some (nI 1) := by
  unfold fX5_isKey
  rw [L0, L15, in_in (Nat.zero_le j) (by omega) (by decide), kE_b1, kE_bz1]
theorem pX5_isRowT {j : Nat} (h : j < 20) : fX5_isRow (nI j) = some (nI 1) := by
  unfold fX5_isRow
  rw [L0, L19, in_in (Nat.zero_le j) (by omega) (by decide), kE_b1, kE_bz1]
theorem pX5_whyNotPut {g : Nat → Nat → Nat} {tk : Nat} {en pu : Int32} {se : Nat → Nat} (hw : WF g tk se) (hZ : RZ g tk en pu se z) {k v : Nat} (hk : k < 16) (hv : v < 64) : fX5_whyNotPut z (nI k) (nI v) = some (if nextN g tk (decide (se 0 = 1)) = m1 then nI 2 else nI 0) := by
  unfold fX5_whyNotPut
  rw [pX5_isKeyT hk, L0, L63, in_in (Nat.zero_le v) (by omega) (by decide), pX5_nextRow hw hZ]
  simp only [↓LM1, kE_let, kE_if, kE_b1, kE_b2, kE_b3, kE_b4, kE_b5, kE_b6, kE_b7, kE_b8, kE_b9, kE_j0, kE_j1, kE_j2, kE_j3, kE_j4, n10, if_false, L2]
  by_cases h : nextN g tk (decide (se 0 = 1)) = m1
  · rw [if_pos h, if_pos h]
  · rw [if_neg h, if_neg h]
theorem pX5_whyNotChange {g : Nat → Nat → Nat} {tk : Nat} {en pu : Int32} {se : Nat → Nat} (hw : WF g tk se) (hZ : RZ g tk en pu se z) {r : Nat} (hr : r < 20) : fX5_whyNotChange z (nI r) = some (if 2 ≤ g r 15 then nI 2 else nI 0) := by
  unfold fX5_whyNotChange
  rw [pX5_isRowT hr, pX5_isLocked hw hZ hr]
  simp only [↓LM1, kE_let, kE_if, kE_b1, kE_b2, kE_b3, kE_b4, kE_b5, kE_b6, kE_b7, kE_b8, kE_b9, kE_j0, kE_j1, kE_j2, kE_j3, kE_j4, L0, n10, if_false, L2, bI_eq0]
  by_cases h : 2 ≤ g r 15
  · rw [if_neg (fun z => z h), if_pos h]
  · rw [if_pos h, if_neg h]
theorem pX5_does (hS : WFs S) (hZ : RZs S z) {o : Nat × Nat × Nat} (ho : okO o) {i : Nat} (hi : i < 10) {od : Nat → Int32} (mb : Int32) (hk : od (3 * i) = nI o.1) (hn : od (3 * i + 1) = nI o.2.1) (hv : o.1 = 0 → od (3 * i + 2) = nI o.2.2) :
    (doS S o = none ∧ fX5_does z mb od (nI i) = some (nI 0, z, mb)) ∨ ∃ S' z' mb', doS S o = some S' ∧ fX5_does z mb od (nI i) = some (nI 1, z', mb') ∧ RZs S' z' := by
  obtain ⟨g, tk, en, pu, se⟩ := S
  obtain ⟨k, v, w⟩ := o
  obtain ⟨q1, q2, q3, q4⟩ := ho
  have hw : WF g tk se := hS
  have hZ' : RZ g tk en pu se z := hZ
  obtain ⟨e0, e1, e2, e3, e4⟩ := hiK_e
  have h2t := hw.2.1
  simp only at q1 q2 q3 q4 hk hn hv
  unfold fX5_does doS
  simp (config := { maxSteps := 2000000 }) (disch := omega) only [kE_b1, kE_if, ↓LM1, L0, L1, L2, L3, L15, kE_ck, nI_clamp, kE_let, pk_mul, nI_add, hk, hn]
  rcases (show k = 0 ∨ k = 1 ∨ k = 2 ∨ k = 3 ∨ k = 4 by omega) with rfl | rfl | rfl | rfl | rfl <;> simp only [nE_01, nE_02, nE_03, nE_04, nE_10, nE_12, nE_13, nE_14, nE_20, nE_21, nE_23, nE_24, nE_30, nE_31, nE_32, nE_34, nE_40, nE_41, nE_42, nE_43, if_true, if_false, ite_true, ite_false, L0, L1, L2, L3, Nat.reduceEqDiff, reduceCtorEq]
  · rw [hv rfl, pX5_whyNotPut hw hZ' (by omega) q4, pX5_nextRow hw hZ']
    by_cases hN : nextN g tk (decide (se 0 = 1)) = m1
    · left
      rw [if_pos hN]
      refine ⟨rfl, ?_⟩
      rw [if_pos hN, kE_b1, if_neg (by decide)]
    · right
      rw [if_neg hN, if_neg hN]
      rcases nextN_or g tk (decide (se 0 = 1)) with hh | ⟨h1, h2, h3⟩
      · exact absurd hh hN
      obtain ⟨z', p1, p2⟩ := pX5_putInto hw hZ' mb h1 (k := v) (v := w) (by omega) q4
      refine ⟨_, z', nI (wpM g tk en se v w).2.2, rfl, ?_, p2⟩
      rw [kE_b1, if_pos (by decide), kE_b1, h3, p1, kE_b3]; rfl
  · rw [pX5_whyNotChange hw hZ' (by omega)]
    by_cases hN : 2 ≤ g v 15
    · left
      rw [if_pos hN]
      refine ⟨rfl, ?_⟩
      rw [if_pos hN, kE_b1, if_neg (by decide)]
    · right
      rw [if_neg hN, if_neg hN]
      obtain ⟨z', p1, p2⟩ := pX5_blowOne hZ' (r := v) (f := 15) (c := 3) (by omega) (by decide) (hw.1 _ _) (by decide)
      refine ⟨_, z', mb, rfl, ?_, p2⟩
      rw [kE_b1, if_pos (by decide), p1, kE_b1]
  · right
    obtain ⟨z', p1, p2⟩ := pX5_heatAll hw.1 hZ' (d := v) (by omega)
    refine ⟨_, z', mb, rfl, ?_, p2⟩
    rw [p1, kE_b2]
  · simp (disch := omega) only [hZ'.1, nI_add, L9999, nI_leI]
    by_cases hN : 9999 < tk + v
    · left
      rw [if_pos hN]
      refine ⟨rfl, ?_⟩
      rw [if_neg (by omega)]
    · right
      rw [if_neg hN]
      refine ⟨_, _, mb, rfl, ?_, hZ'.wTk (tk + v)⟩
      rw [if_pos (by omega)]
  · rw [pX5_whyNotChange hw hZ' (by omega)]
    by_cases hN : 2 ≤ g v 15
    · left
      rw [if_pos hN]
      refine ⟨rfl, ?_⟩
      rw [if_pos hN, kE_b1, if_neg (by decide)]
    · right
      rw [if_neg hN, if_neg hN]
      obtain ⟨z', p1, p2⟩ := pX5_refreshAll hw hZ' (r := v) (by omega)
      refine ⟨_, z', mb, rfl, ?_, p2⟩
      rw [kE_b1, if_pos (by decide), p1, kE_b2]
end DO
def runS : List (Nat × Nat × Nat) → ST → Nat × ST
  | [], S => (0, S)
  | o :: l, S => match doS S o with
    | none => (0, S)
    | some S' => ((runS l S').1 + 1, (runS l S').2)
theorem runS_wf : ∀ (l : List (Nat × Nat × Nat)) (S : ST), WFs S → (∀ o ∈ l, okO o) → WFs (runS l S).2 := by
  intro l
  induction l with
  | nil => intro S h _; exact h
  | cons o l ih =>
    intro S h hl
    unfold runS
    rcases e : doS S o with _ | S'
    · exact h
    · exact ih S' (doS_wf h (hl o List.mem_cons_self) e) (fun o ho => hl o (List.mem_cons_of_mem _ ho))
theorem scS_ok (T : Nat → Nat) (n : Nat) : ∀ f q, q ≤ n → ∀ o ∈ (scS T n f q).1, okO o := by
  intro f
  induction f with
  | zero => intro q _ o h; cases h
  | succ f ih =>
    intro q hq o h
    have ho := odS_le T hq
    rw [scS] at h
    rcases e : odS T n q with ⟨o1, s⟩
    rw [e] at h ho
    cases o1 with
    | none => cases h
    | some o1 =>
      obtain ⟨k, v, w⟩ := o1
      have h5 := ho.2 k v w rfl
      have hs : s ≤ n := ho.1
      have hok : okO (k, v, w) := ⟨h5.1, h5.2.2.1, h5.2.2.2.1, h5.2.2.2.2⟩
      simp only at h
      by_cases q1 : s = n
      · rw [if_pos q1] at h
        rw [List.mem_singleton.mp h]; exact hok
      · rw [if_neg q1] at h
        by_cases q2 : T s = 59
        · rw [if_pos q2] at h
          rcases List.mem_cons.mp h with rfl | h
          · exact hok
          · exact ih (s + 1) (by omega) o h
        · rw [if_neg q2] at h
          rw [List.mem_singleton.mp h]; exact hok
theorem scS_lt (T : Nat → Nat) (n : Nat) : ∀ f p, p ≤ n → (scS T n f p).2.2 = true → 6 * (scS T n f p).1.length ≤ n - p + 1 := by
  intro f
  induction f with
  | zero => intro p hp h; cases h
  | succ f ih =>
    intro p hp h
    have ho := odS_le T hp
    rw [scS] at h ⊢
    rcases e : odS T n p with ⟨o, s⟩
    rw [e] at ho h
    cases o with
    | none => cases h
    | some o =>
      obtain ⟨k, v, w⟩ := o
      have h5 := (ho.2 k v w rfl).2.1
      have hs : s ≤ n := ho.1
      simp only at h5 h ⊢
      by_cases h1 : s = n
      · rw [if_pos h1]; show 6 * 1 ≤ _; omega
      · rw [if_neg h1] at h ⊢
        by_cases h2 : T s = 59
        · rw [if_pos h2] at h ⊢
          have := ih (s + 1) (by omega) h
          show 6 * ((scS T n f (s + 1)).1.length + 1) ≤ _
          omega
        · rw [if_neg h2] at h; cases h
section RU
variable {no nt ns : Nat → Int32} {ni ne np : Int32} {z : Nat → Int32}
theorem pX4_runL {L : Nat} (hL : L ≤ 10) {ks nn vs : Nat → Int32} (K55 : Int32 → (Nat → Int32) → (Nat → Int32) → Int32 → Int32 → Int32 → Option (Nat × Int32 × (Nat → Int32) × (Nat → Int32) × Int32 × Int32 × Int32 × (Nat → SV) × Int32 × Int32 × Int32 × Int32 × Int32 × Int32 × (Nat → Int32) × (Nat → Int32) × (Nat → Int32))) (ns : Nat → Int32) : ∀ (l : List (Nat × Nat × Nat)) (S : ST) (i fu : Nat) (no nt : Nat → Int32) (ni ne np : Int32), WFs S → RSs S (no, nt, ns, ni, ne, np) → (∀ o ∈ l, okO o) → i + l.length = L → hold3 l i ks nn vs → l.length < fu →
    ∃ no' nt' ni' ne' np', k_l6 (fX4_run_s30 (nI L) K55 ns ks nn vs) fu (nI i) no nt ni ne np = K55 (nI (i + (runS l S).1)) no' nt' ni' ne' np' ∧ RSs (runS l S).2 (no', nt', ns, ni', ne', np') := by
  intro l
  induction l with
  | nil =>
    intro S i fu no nt ni ne np hS hR hl hi hh hf
    obtain ⟨fu, rfl⟩ : ∃ x, fu = x + 1 := ⟨fu - 1, by omega⟩
    refine ⟨no, nt, ni, ne, np, ?_, hR⟩
    show fX4_run_s30 _ _ _ _ _ _ _ _ _ _ _ _ _ = _
    unfold fX4_run_s30
    have hi' : L = i := by rw [← hi]; rfl
    rw [kE_if, if_pos (by rw [hi']; exact Int32.le_refl _)]; rfl
  | cons o l ih =>
    intro S i fu no nt ni ne np hS hR hl hi hh hf
    obtain ⟨fu, rfl⟩ : ∃ x, fu = x + 1 := ⟨fu - 1, by omega⟩
    have hlen : (o :: l).length = l.length + 1 := rfl
    have ho := hl o List.mem_cons_self
    obtain ⟨h1, h2, h3⟩ := hh 0 o rfl
    rw [Nat.add_zero] at h1 h2 h3
    have ih' := fun S no nt ni ne np a b => ih S (i + 1) fu no nt ni ne np a b (fun o ho => hl o (List.mem_cons_of_mem _ ho)) (by omega) (fun j o hj => by
      have := hh (j + 1) o hj
      rw [show i + (j + 1) = i + 1 + j by omega] at this
      exact this) (by omega)
    refine (show ∃ no' nt' ni' ne' np', fX4_run_s30 (nI L) K55 ns ks nn vs (k_l6 (fX4_run_s30 (nI L) K55 ns ks nn vs) fu) (nI i) no nt ni ne np = _ ∧ _ from ?_)
    generalize k_l6 (fX4_run_s30 (nI L) K55 ns ks nn vs) fu = KK at ih' ⊢
    unfold fX4_run_s30
    rw [kE_if, if_neg (by rw [nI_leI (by omega) (by omega)]; omega)]
    rcases pX4_carryOut hS hR ho (show i < L by omega) hL h1 h2 h3 with ⟨e1, e2⟩ | ⟨S', no', nt', ni', ne', np', e1, e2, e3⟩
    · rw [e2, kE_b6, kE_if, if_pos L0.symm]
      have er : runS (o :: l) S = (0, S) := by unfold runS; rw [e1]
      rw [er]
      exact ⟨_, _, _, _, _, rfl, hR⟩
    · rw [e2, kE_b6, kE_if, if_neg (by rw [L0]; exact n10), kE_let, L1, nI_add]
      have er : runS (o :: l) S = ((runS l S').1 + 1, (runS l S').2) := by rw [runS, e1]
      rw [er]
      obtain ⟨a, b, c, d, e, f1, f2⟩ := ih' S' no' nt' ni' ne' np' (doS_wf hS ho e1) e3
      refine ⟨a, b, c, d, e, ?_, f2⟩
      rw [f1, show i + 1 + (runS l S').1 = i + ((runS l S').1 + 1) by omega]
theorem pX5_runL {L : Nat} (hL : L ≤ 10) {od : Nat → Int32} (K57 : Int32 → (Nat → Int32) → Int32 → Option (Int32 × Int32 × (Nat → Int32) × (Nat → Int32) × Int32 × Int32 × Int32 × (Nat → Int32) × Int32 × Int32 × Int32 × Int32)) : ∀ (l : List (Nat × Nat × Nat)) (S : ST) (i fu : Nat) (z : Nat → Int32) (mb : Int32), WFs S → RZs S z → (∀ o ∈ l, okO o) → i + l.length = L → (∀ j o, l[j]? = some o → od (3 * (i + j)) = nI o.1 ∧ od (3 * (i + j) + 1) = nI o.2.1 ∧ (o.1 = 0 → od (3 * (i + j) + 2) = nI o.2.2)) → l.length < fu →
    ∃ z' mb', k_l3 (fX5_run_s35 (nI L) K57 od) fu (nI i) z mb = K57 (nI (i + (runS l S).1)) z' mb' ∧ RZs (runS l S).2 z' := by
  intro l
  induction l with
  | nil =>
    intro S i fu z mb hS hR hl hi hh hf
    obtain ⟨fu, rfl⟩ : ∃ x, fu = x + 1 := ⟨fu - 1, by omega⟩
    refine ⟨z, mb, ?_, hR⟩
    show fX5_run_s35 _ _ _ _ _ _ _ = _
    unfold fX5_run_s35
    have hi' : L = i := by rw [← hi]; rfl
    rw [kE_if, if_pos (by rw [hi']; exact Int32.le_refl _)]; rfl
  | cons o l ih =>
    intro S i fu z mb hS hR hl hi hh hf
    obtain ⟨fu, rfl⟩ : ∃ x, fu = x + 1 := ⟨fu - 1, by omega⟩
    have hlen : (o :: l).length = l.length + 1 := rfl
    have ho := hl o List.mem_cons_self
    obtain ⟨h1, h2, h3⟩ := hh 0 o rfl
    rw [Nat.add_zero] at h1 h2 h3
    have ih' := fun S z mb a b => ih S (i + 1) fu z mb a b (fun o ho => hl o (List.mem_cons_of_mem _ ho)) (by omega) (fun j o hj => by
      have := hh (j + 1) o hj
      rw [show i + (j + 1) = i + 1 + j by omega] at this
      exact this) (by omega)
    refine (show ∃ z' mb', fX5_run_s35 (nI L) K57 od (k_l3 (fX5_run_s35 (nI L) K57 od) fu) (nI i) z mb = _ ∧ _ from ?_)
    generalize k_l3 (fX5_run_s35 (nI L) K57 od) fu = KK at ih' ⊢
    unfold fX5_run_s35
    rw [kE_if, if_neg (by rw [nI_leI (by omega) (by omega)]; omega)]
    rcases pX5_does hS hR ho (show i < 10 by omega) mb h1 h2 h3 with ⟨e1, e2⟩ | ⟨S', z', mb', e1, e2, e3⟩
    · rw [e2, kE_b3, kE_if, if_pos L0.symm]
      have er : runS (o :: l) S = (0, S) := by unfold runS; rw [e1]
      rw [er]
      exact ⟨_, _, rfl, hR⟩
    · rw [e2, kE_b3, kE_if, if_neg (by rw [L0]; exact n10), kE_let, L1, nI_add]
      have er : runS (o :: l) S = ((runS l S').1 + 1, (runS l S').2) := by rw [runS, e1]
      rw [er]
      obtain ⟨a, b, f1, f2⟩ := ih' S' z' mb' (doS_wf hS ho e1) e3
      refine ⟨a, b, ?_, f2⟩
      rw [f1, show i + 1 + (runS l S').1 = i + ((runS l S').1 + 1) by omega]
end RU
section RV
variable {S : ST} {St : Nat → ST} {m old : Nat} {no nt ns : Nat → Int32} {ni ne np : Int32} {sr : Nat → SV} {so sc : Int32} {z sv : Nat → Int32} {sm : Int32} {T : Nat → Nat} {n : Nat} {sg bf : Nat → Int32}
theorem RLc.eqs (hc : RLc S St m old no nt ns ni ne np sr so sc) : so = nI old ∧ sc = nI m := ⟨hc.2.2.2.2.1, hc.2.2.2.2.2.1⟩
theorem pr_run (hc : RLc S St m old no nt ns ni ne np sr so sc) (hm : RLm S St m z sv sm) (hs : TX T n sg) (hb : TX T n bf) (a b c : Int32) (ks nn vs : Nat → Int32) (th mb : Int32) (od : Nat → Int32) (om sp wr sh : Int32) :
    ∃ (k : Nat) (r w : Int32) (S' : ST) (St' : Nat → ST) (m' old' n' : Nat) (no' nt' : Nat → Int32) (ni' ne' np' : Int32) (sr' : Nat → SV) (a' b' c' : Int32) (ks' nn' vs' z' sv' : Nat → Int32) (mb' : Int32) (od' : Nat → Int32) (om' sp' wr' sh' : Int32),
      fX4_run no nt ns ni ne np sr so sc sg (nI n) a b c ks nn vs = some (k, r, no', nt', ni', ne', np', sr', nI old', nI m', nI n', a', b', c', ks', nn', vs') ∧ fX5_run th z sv sm bf (nI n) mb mr0 mb0 od om sp wr sh = some (r, w, z', sv', nI m', nI n', mb', od', om', sp', wr', sh') ∧ ((k = 0 ∧ w = nI 0) ∨ (k = 2 ∧ w = nI 1)) ∧ RLc S' St' m' old' no' nt' ns ni' ne' np' sr' (nI old') (nI m') ∧ RLm S' St' m' z' sv' (nI m') ∧ n' ≤ n := by
  have hn := hs.1
  obtain ⟨ks', nn', vs', e1, hh⟩ := pX1_scan hs a b c ks nn vs
  obtain ⟨od', many, sp', wr', sh', e2, f2, g2⟩ := pX5_readBuffer hb od om sp wr sh
  have hlen := scS_lt T n 11 0 (Nat.zero_le n)
  have hok := scS_ok T n 11 0 (Nat.zero_le n)
  unfold fX4_run fX5_run
  rw [e1, e2, kE_b6, kE_b5]
  generalize hsc : scS T n 11 0 = sc0 at e1 hh f2 g2 hlen hok
  obtain ⟨l, p, cm⟩ := sc0
  cases cm with
  | false =>
    have f2' : FS n (false, p) sp' wr' sh' := f2
    have hst : MSt n p wr' sh' := by
      rcases f2' with ⟨q, -⟩ | ⟨-, q⟩
      · cases q
      · exact q
    have hso := hc.eqs
    have hsm := hm.2.2
    refine ⟨2, 0, nI 1, S, St, m, old, n, no, nt, ni, ne, np, sr, nI p, bI (false = true), nI l.length, ks', nn', vs', z, sv, mb, od', many, sp', wr', sh', ?_, ?_, Or.inr ⟨rfl, rfl⟩, ?_, ?_, Nat.le_refl n⟩
    · rw [kE_if, if_pos (show bI (((l, p, false) : List (Nat × Nat × Nat) × Nat × Bool).2.2 = true) = 0 by rw [L0]; exact bI_f (by simp)), hso.1, hso.2]
    · rw [pX5_fineF hn hst, kE_b1, kE_j1, kE_if, if_pos L0.symm]
      show k_if ((1 : Int32) ≤ 0) _ _ = _
      rw [kE_if, if_neg (by decide), hsm, L1]
    · rw [← hso.1, ← hso.2]; exact hc
    · rw [← hsm]; exact hm
  | true =>
    have f2' : FS n (true, p) sp' wr' sh' := f2
    obtain ⟨-, hw1, hw2⟩ : sp' = nI p ∧ wr' = m1 ∧ sh' = nI 0 := by
      rcases f2' with ⟨-, -, q1, q2, q3⟩ | ⟨q, -⟩
      · exact ⟨q1, q2, q3⟩
      · cases q
    obtain ⟨g3, g4⟩ := g2 rfl
    have hL : l.length ≤ 10 := by
      have h1 : 6 * l.length ≤ n - 0 + 1 := hlen rfl
      omega
    obtain ⟨sr', old', sv', s1, s2, s3⟩ := RL_save hc hm
    obtain ⟨no', nt', ni', ne', np', r1, r2⟩ := pX4_runL hL (fun (z10 : Int32) (c11 : Nat → Int32) (c12 : Nat → Int32) (c13 : Int32) (c14 : Int32) (c15 : Int32) =>
    k_b1 (fX1_empty (nI n)) fun (c16 : Int32) =>
    some (0, z10, c11, c12, c13, c14, c15, sr', nI old', nI (saveM m), c16, nI p, bI (true = true), nI l.length, ks', nn', vs')) ns l S 0 5000 no nt ni ne np hc.1 hc.2.1 hok (Nat.zero_add _) hh (by omega)
    obtain ⟨z', mb', t1, t2⟩ := pX5_runL hL (od := od') (fun (x10 : Int32) (c11 : Nat → Int32) (c12 : Int32) =>
        some (x10, 0, c11, sv', nI (saveM m), 0, c12, od', many, sp', wr', sh')) l S 0 5000 z mb hc.1 hm.1 hok (Nat.zero_add _) (fun j o hj => by rw [Nat.zero_add]; exact g4 j o hj) (by omega)
    obtain ⟨u1, u2⟩ := s3 (runS l S).2 no' nt' ns ni' ne' np' z' (runS_wf l S hc.1 hok) r2 t2
    refine ⟨0, nI (0 + (runS l S).1), nI 0, _, _, _, old', 0, no', nt', ni', ne', np', sr', nI p, bI (true = true), nI l.length, ks', nn', vs', z', sv', mb', od', many, sp', wr', sh', ?_, ?_, Or.inl ⟨rfl, rfl⟩, u1, u2, Nat.zero_le n⟩
    · rw [kE_if, if_neg (show ¬ bI (((l, p, true) : List (Nat × Nat × Nat) × Nat × Bool).2.2 = true) = 0 by rw [L0]; rw [bI_t rfl]; exact n10), s1, kE_b3]
      refine (show k_l6 _ 5000 (0 : Int32) no nt ni ne np = _ from ?_)
      rw [L0]
      refine r1.trans ?_
      rfl
    · rw [hw1, hw2] at t1 ⊢
      rw [pX5_fineT, kE_b1, kE_j1, kE_if, if_neg (by decide)]
      show k_if ((0 : Int32) ≤ 0) _ _ = _
      rw [kE_if, if_pos (Int32.le_refl 0), s2, kE_b2, kE_j3, g3]
      rw [g3] at t1
      simp only [L0] at t1 ⊢
      exact t1
end RV
