/-! the class's looks -/
section QC
variable {g : Nat → Nat → Nat} {tk : Nat} {en pu : Int32} {se : Nat → Nat} {o t st : Nat → Int32} {ti ey pt : Int32}
theorem pX0_kindM {t r : Nat} {th : Bool} : fX0_kindOf (nI (mkN g t th r)) = some (nI (kd (mkN g t th r))) := pX0_kindOf (mkN_lt _ _ _ _)
theorem pX0_valM {t r : Nat} {th : Bool} : fX0_valueOf (nI (mkN g t th r)) = some (nI (vl (mkN g t th r))) := pX0_valueOf (mkN_lt _ _ _ _)
theorem pX3_entryRow (hg : ∀ r f, g r f ≤ 3) (hC : RC g o t) {k q : Nat} {th : Bool} (hk : k < 16) (hq : q < 90000) : fX3_entryRow o t (nI k) (nI q) (bI th) = some (rowN g q th k) := by
  unfold fX3_entryRow rowN
  refine dn_l1 20 5000 (fun n => nI n + m1) (fun n => some (lastV (entB g q th k) nI n)) (fun K => ?_) (fun n K hn hK => ?_) (by decide)
  · unfold fX3_entryRow_s4
    simp only [dn_st0, ↓LM1, kE_let, kE_if, kE_b1, kE_b2, kE_b3, kE_b4, kE_b5, kE_b6, kE_b7, kE_b8, kE_b9, kE_j0, kE_j1, kE_j2, kE_j3, kE_j4, L0, m1_lt0, if_true]; rfl
  · unfold fX3_entryRow_s4
    simp (disch := omega) only [dn_st, ↓LM1, kE_let, kE_if, kE_b1, kE_b2, kE_b3, kE_b4, kE_b5, kE_b6, kE_b7, kE_b8, kE_b9, kE_j0, kE_j1, kE_j2, kE_j3, kE_j4, L0, nI_nlt0, if_neg, pX3_readAt hg hC hn, pX0_keyOf, pX0_kindM, L4, nI_kdE, nI_kyE, hK]
    by_cases h4 : kd (mkN g q th n) = 4 <;> by_cases h5 : ky (mkN g q th n) = k <;> simp [lastV, entB, h4, h5]
theorem pX3_valueAt (hg : ∀ r f, g r f ≤ 3) (hC : RC g o t) {k q : Nat} {th : Bool} (hk : k < 16) (hq : q < 90000) : fX3_valueAt o t (nI k) (nI q) (bI th) = some (valN g q th k) := by
  unfold fX3_valueAt
  simp only [↓LM1, kE_let, kE_if, kE_b1, kE_b2, kE_b3, kE_b4, kE_b5, kE_b6, kE_b7, kE_b8, kE_b9, kE_j0, kE_j1, kE_j2, kE_j3, kE_j4, pX3_entryRow hg hC hk hq, rowN, valN]
  rcases lastV_or (entB g q th k) nI 20 with ⟨a, b⟩ | ⟨r, a, b, c⟩
  · rw [b, b, if_pos rfl]
  · rw [c, c, if_neg (nI_nm1 (by omega))]
    simp (disch := omega) only [↓LM1, kE_let, kE_if, kE_b1, kE_b2, kE_b3, kE_b4, kE_b5, kE_b6, kE_b7, kE_b8, kE_b9, kE_j0, kE_j1, kE_j2, kE_j3, kE_j4, pX3_readAt hg hC a, pX0_valM, vlV]
theorem pX3_valueOfKey (hw : WF g tk se) (hS : RS g tk en pu se o t st ti ey pt) {k : Nat} (hk : k < 16) : fX3_valueOfKey o t st ti (nI k) = some (valN g tk (decide (se 0 = 1)) k) := by
  unfold fX3_valueOfKey
  have h2 := hw.2.1
  simp (disch := omega) only [↓LM1, kE_let, kE_if, kE_b1, kE_b2, kE_b3, kE_b4, kE_b5, kE_b6, kE_b7, kE_b8, kE_b9, kE_j0, kE_j1, kE_j2, kE_j3, kE_j4, pX3_readsThrice hS hw.2.2.1, hS.2.2.1, pX3_valueAt hw.1 hS.1]
theorem pX3_nextRow (hw : WF g tk se) (hS : RS g tk en pu se o t st ti ey pt) : fX3_nextRow o t st ti = some (nextN g tk (decide (se 0 = 1))) := by
  unfold fX3_nextRow
  simp only [↓LM1, kE_let, kE_if, kE_b1, kE_b2, kE_b3, kE_b4, kE_b5, kE_b6, kE_b7, kE_b8, kE_b9, kE_j0, kE_j1, kE_j2, kE_j3, kE_j4]
  have hfin : ∀ x : Nat, x ≤ 20 → (if nI x = nI 20 then some m1 else k_b1 (fX3_isLocked o t ti (nI x)) fun x2 => k_if (x2 = nI 0) (some (nI x)) (some m1)) = some (if x = 20 ∨ 2 ≤ g x 15 then m1 else nI x) := by
    intro x hx
    by_cases h : x = 20
    · rw [if_pos (by rw [h]), if_pos (Or.inl h)]
    · rw [if_neg (by rw [nI_eq (by omega) (by decide)]; exact h)]
      simp (disch := omega) only [pX3_isLocked hw hS, ↓LM1, kE_let, kE_if, kE_b1, kE_b2, kE_b3, kE_b4, kE_b5, kE_b6, kE_b7, kE_b8, kE_b9, kE_j0, kE_j1, kE_j2, kE_j3, kE_j4, bI_eq0]
      by_cases h2 : 2 ≤ g x 15
      · rw [if_neg (by simpa using h2), if_pos (Or.inr h2)]
      · rw [if_pos (by simpa using h2), if_neg (by rintro (q | q); exact h q; exact h2 q)]
  simp only [L20, L0]
  simp only [kE_if, kE_b1] at hfin
  refine dn_l1 20 5000 nI (fun n => some (if nxtN (mkN g tk (decide (se 0 = 1))) n = 20 ∨ 2 ≤ g (nxtN (mkN g tk (decide (se 0 = 1))) n) 15 then m1 else nI (nxtN (mkN g tk (decide (se 0 = 1))) n))) (fun K => ?_) (fun n K hn hK => ?_) (by decide)
  · unfold fX3_nextRow_s3
    simp only [kE_if, L0, Int32.le_refl, if_true]
    exact hfin 0 (by decide)
  · unfold fX3_nextRow_s3
    have hm := mkN_lt g tk (decide (se 0 = 1)) n
    simp (disch := omega) only [↓LM1, kE_let, kE_if, kE_b1, kE_b2, kE_b3, kE_b4, kE_b5, kE_b6, kE_b7, kE_b8, kE_b9, kE_j0, kE_j1, kE_j2, kE_j3, kE_j4, L0, nI_leI, if_neg, L1, nI_sub, Nat.add_sub_cancel, pX3_kind hw hS hn, nI_kdE, dn_st, hK]
    by_cases h : mkN g tk (decide (se 0 = 1)) n = 0
    · rw [if_pos (by rw [h]; rfl)]
      simp only [nxtN, h, if_true]
    · have hkd : ¬ kd (mkN g tk (decide (se 0 = 1)) n) = 0 := by
        unfold kd
        rw [if_neg h]
        repeat (first | omega | split)
      rw [if_neg hkd]
      simp only [nxtN, h, if_false]
      exact hfin (n + 1) (by omega)
theorem pX3_isRowOf (hw : WF g tk se) (hS : RS g tk en pu se o t st ti ey pt) {k r : Nat} (hk : k < 16) (hr : r < 20) : fX3_isRowOf o t st ti (nI r) (nI k) = some (bI (rofB g tk (decide (se 0 = 1)) k r = true)) := by
  unfold fX3_isRowOf
  simp (disch := omega) only [↓LM1, kE_let, kE_if, kE_b1, kE_b2, kE_b3, kE_b4, kE_b5, kE_b6, kE_b7, kE_b8, kE_b9, kE_j0, kE_j1, kE_j2, kE_j3, kE_j4, pX3_read hw hS hr, pX0_kindM, pX0_keyOf, L4, L2, nI_kdE, nI_kyE, L1, L0]
  by_cases h4 : kd (mkN g tk (decide (se 0 = 1)) r) = 4 <;> by_cases h2 : kd (mkN g tk (decide (se 0 = 1)) r) = 2 <;> by_cases h5 : ky (mkN g tk (decide (se 0 = 1)) r) = k <;> simp [rofB, h4, h2, h5, bI_T, bI_F]
theorem pX3_entriesOf (hw : WF g tk se) (hS : RS g tk en pu se o t st ti ey pt) {k : Nat} (hk : k < 16) : fX3_entriesOf o t st ti (nI k) = some (nI (cnt (entB g tk (decide (se 0 = 1)) k) 20)) := by
  unfold fX3_entriesOf
  rw [L0]
  refine kE_l2 20 5000 (fun i => nI (cnt (entB g tk (decide (se 0 = 1)) k) i)) nI (fun i K hi => ?_) (fun K => ?_) (by decide)
  · unfold fX3_entriesOf_s4
    simp (disch := omega) only [↓LM1, kE_let, kE_if, kE_b1, kE_b2, kE_b3, kE_b4, kE_b5, kE_b6, kE_b7, kE_b8, kE_b9, kE_j0, kE_j1, kE_j2, kE_j3, kE_j4, L20, nI_leI, if_neg, pX3_read hw hS hi, pX0_kindM, pX0_keyOf, L4, nI_kdE, nI_kyE, L1, L0, nI_add]
    by_cases h4 : kd (mkN g tk (decide (se 0 = 1)) i) = 4 <;> by_cases h5 : ky (mkN g tk (decide (se 0 = 1)) i) = k <;> simp [cnt, entB, h4, h5]
  · unfold fX3_entriesOf_s4
    simp only [↓LM1, kE_let, kE_if, kE_b1, kE_b2, kE_b3, kE_b4, kE_b5, kE_b6, kE_b7, kE_b8, kE_b9, kE_j0, kE_j1, kE_j2, kE_j3, kE_j4, L20, Int32.le_refl, if_true]
theorem pX3_rowsOf (hw : WF g tk se) (hS : RS g tk en pu se o t st ti ey pt) {k : Nat} (hk : k < 16) : fX3_rowsOf o t st ti (nI k) = some (nI (cnt (rofB g tk (decide (se 0 = 1)) k) 20)) := by
  unfold fX3_rowsOf
  rw [L0]
  refine kE_l2 20 5000 (fun i => nI (cnt (rofB g tk (decide (se 0 = 1)) k) i)) nI (fun i K hi => ?_) (fun K => ?_) (by decide)
  · unfold fX3_rowsOf_s4
    simp (disch := omega) only [↓LM1, kE_let, kE_if, kE_b1, kE_b2, kE_b3, kE_b4, kE_b5, kE_b6, kE_b7, kE_b8, kE_b9, kE_j0, kE_j1, kE_j2, kE_j3, kE_j4, L20, nI_leI, if_neg, pX3_isRowOf hw hS hk hi, bI_eq0, L1, L0, nI_add]
    by_cases h : rofB g tk (decide (se 0 = 1)) k i = true <;> simp [cnt, h]
  · unfold fX3_rowsOf_s4
    simp only [↓LM1, kE_let, kE_if, kE_b1, kE_b2, kE_b3, kE_b4, kE_b5, kE_b6, kE_b7, kE_b8, kE_b9, kE_j0, kE_j1, kE_j2, kE_j3, kE_j4, L20, Int32.le_refl, if_true]
theorem pX3_greatestValue (hw : WF g tk se) (hS : RS g tk en pu se o t st ti ey pt) {k : Nat} (hk : k < 16) : fX3_greatestValue o t st ti (nI k) = some (maxN (rofB g tk (decide (se 0 = 1)) k) (vlV g tk (decide (se 0 = 1))) 20) := by
  unfold fX3_greatestValue
  rw [L0, LM1]
  refine kE_l2 20 5000 (fun i => maxN (rofB g tk (decide (se 0 = 1)) k) (vlV g tk (decide (se 0 = 1))) i) nI (fun i K hi => ?_) (fun K => ?_) (by decide)
  · unfold fX3_greatestValue_s4
    simp (disch := omega) only [↓LM1, kE_let, kE_if, kE_b1, kE_b2, kE_b3, kE_b4, kE_b5, kE_b6, kE_b7, kE_b8, kE_b9, kE_j0, kE_j1, kE_j2, kE_j3, kE_j4, L20, nI_leI, if_neg, pX3_isRowOf hw hS hk hi, bI_eq0, pX3_read hw hS hi, pX0_valM, L1, L0, nI_add]
    by_cases h : rofB g tk (decide (se 0 = 1)) k i = true
    · rw [if_neg (by simpa using h)]
      by_cases h2 : maxN (rofB g tk (decide (se 0 = 1)) k) (vlV g tk (decide (se 0 = 1))) i < nI (vl (mkN g tk (decide (se 0 = 1)) i))
      · simp [maxN, vlV, h, h2]
      · simp [maxN, vlV, h, h2]
    · simp [maxN, h]
  · unfold fX3_greatestValue_s4
    simp only [↓LM1, kE_let, kE_if, kE_b1, kE_b2, kE_b3, kE_b4, kE_b5, kE_b6, kE_b7, kE_b8, kE_b9, kE_j0, kE_j1, kE_j2, kE_j3, kE_j4, L20, Int32.le_refl, if_true]
theorem pX3_steadyReadings (hw : WF g tk se) (hS : RS g tk en pu se o t st ti ey pt) {k : Nat} (hk : k < 16) : fX3_steadyReadings o t ti (nI k) = some (nI (cnt (fun j => decide (valN g (tk + j) false k = valN g tk true k)) 3)) := by
  unfold fX3_steadyReadings
  have h2 := hw.2.1
  have e1 := pX3_valueAt (th := true) (q := tk) hw.1 hS.1 hk (by omega)
  rw [bI_t rfl] at e1
  simp (disch := omega) only [↓LM1, kE_let, kE_if, kE_b1, kE_b2, kE_b3, kE_b4, kE_b5, kE_b6, kE_b7, kE_b8, kE_b9, kE_j0, kE_j1, kE_j2, kE_j3, kE_j4, L0, L1, hS.2.2.1, e1]
  refine kE_l2 3 5000 (fun i => nI (cnt (fun j => decide (valN g (tk + j) false k = valN g tk true k)) i)) nI (fun i K hi => ?_) (fun K => ?_) (by decide)
  · unfold fX3_steadyReadings_s16
    have e0 := pX3_valueAt (th := false) (q := tk + i) hw.1 hS.1 hk (by omega)
    rw [bI_f Bool.false_ne_true] at e0
    simp (disch := omega) only [↓LM1, kE_let, kE_if, kE_b1, kE_b2, kE_b3, kE_b4, kE_b5, kE_b6, kE_b7, kE_b8, kE_b9, kE_j0, kE_j1, kE_j2, kE_j3, kE_j4, L3, L0, L1, nI_leI, if_neg, nI_add, e0]
    by_cases h : valN g (tk + i) false k = valN g tk true k <;> simp [cnt, h]
  · unfold fX3_steadyReadings_s16
    simp only [↓LM1, kE_let, kE_if, kE_b1, kE_b2, kE_b3, kE_b4, kE_b5, kE_b6, kE_b7, kE_b8, kE_b9, kE_j0, kE_j1, kE_j2, kE_j3, kE_j4, L3, Int32.le_refl, if_true]
theorem pX3_earlierValue (hw : WF g tk se) (hS : RS g tk en pu se o t st ti ey pt) {k : Nat} (hk : k < 16) (a : Int32) : fX3_earlierValue o t st ti (nI k) a = some (earN (rofB g tk (decide (se 0 = 1)) k) (vlV g tk (decide (se 0 = 1))) 20 a) := by
  unfold fX3_earlierValue
  simp only [↓LM1, kE_let, kE_if, kE_b1, kE_b2, kE_b3, kE_b4, kE_b5, kE_b6, kE_b7, kE_b8, kE_b9, kE_j0, kE_j1, kE_j2, kE_j3, kE_j4]
  refine dn_l2 20 5000 (fun n => nI n + m1) (fun n a => some (earN (rofB g tk (decide (se 0 = 1)) k) (vlV g tk (decide (se 0 = 1))) n a)) (fun K a => ?_) (fun n K a hn hK => ?_) (by decide) a
  · unfold fX3_earlierValue_s6
    simp only [dn_st0, ↓LM1, kE_let, kE_if, kE_b1, kE_b2, kE_b3, kE_b4, kE_b5, kE_b6, kE_b7, kE_b8, kE_b9, kE_j0, kE_j1, kE_j2, kE_j3, kE_j4, L0, m1_lt0, if_true]; rfl
  · unfold fX3_earlierValue_s6
    simp (disch := omega) only [dn_st, ↓LM1, kE_let, kE_if, kE_b1, kE_b2, kE_b3, kE_b4, kE_b5, kE_b6, kE_b7, kE_b8, kE_b9, kE_j0, kE_j1, kE_j2, kE_j3, kE_j4, L0, nI_nlt0, if_neg, pX3_isRowOf hw hS hk hn, bI_eq0, hK]
    by_cases h : rofB g tk (decide (se 0 = 1)) k n = true
    · simp only [h, not_true_eq_false, if_false]
      by_cases h2 : a = nI 0
      · rw [if_pos h2, pX3_read hw hS hn, kE_b1, pX0_valM, kE_b1]
        simp only [earN, h, if_true, L0, if_pos h2, vlV]
      · rw [if_neg h2]
        simp only [earN, h, if_true, L0, if_neg h2]
    · simp only [h, not_false_eq_true, if_true, earN]; rfl
theorem pX3_rowsOfKind (hw : WF g tk se) (hS : RS g tk en pu se o t st ti ey pt) {k : Nat} (hk : k < 16) : fX3_rowsOfKind o t st ti (nI k) = some (nI (cnt (fun r => decide (kd (mkN g tk (decide (se 0 = 1)) r) = k)) 20)) := by
  unfold fX3_rowsOfKind
  rw [L0]
  refine kE_l2 20 5000 (fun i => nI (cnt (fun r => decide (kd (mkN g tk (decide (se 0 = 1)) r) = k)) i)) nI (fun i K hi => ?_) (fun K => ?_) (by decide)
  · unfold fX3_rowsOfKind_s4
    simp (disch := omega) only [↓LM1, kE_let, kE_if, kE_b1, kE_b2, kE_b3, kE_b4, kE_b5, kE_b6, kE_b7, kE_b8, kE_b9, kE_j0, kE_j1, kE_j2, kE_j3, kE_j4, L20, nI_leI, if_neg, pX3_kind hw hS hi, nI_kdE, L1, L0, nI_add]
    by_cases h : kd (mkN g tk (decide (se 0 = 1)) i) = k <;> simp [cnt, h]
  · unfold fX3_rowsOfKind_s4
    simp only [↓LM1, kE_let, kE_if, kE_b1, kE_b2, kE_b3, kE_b4, kE_b5, kE_b6, kE_b7, kE_b8, kE_b9, kE_j0, kE_j1, kE_j2, kE_j3, kE_j4, L20, Int32.le_refl, if_true]
theorem pX3_lockedRows (hw : WF g tk se) (hS : RS g tk en pu se o t st ti ey pt) : fX3_lockedRows o t ti = some (nI (cnt (fun r => decide (2 ≤ g r 15)) 20)) := by
  unfold fX3_lockedRows
  rw [L0]
  refine kE_l2 20 5000 (fun i => nI (cnt (fun r => decide (2 ≤ g r 15)) i)) nI (fun i K hi => ?_) (fun K => ?_) (by decide)
  · unfold fX3_lockedRows_s4
    simp (disch := omega) only [↓LM1, kE_let, kE_if, kE_b1, kE_b2, kE_b3, kE_b4, kE_b5, kE_b6, kE_b7, kE_b8, kE_b9, kE_j0, kE_j1, kE_j2, kE_j3, kE_j4, L20, nI_leI, if_neg, pX3_isLocked hw hS hi, bI_eq0, L1, L0, nI_add]
    by_cases h : 2 ≤ g i 15 <;> simp [cnt, h]
  · unfold fX3_lockedRows_s4
    simp only [↓LM1, kE_let, kE_if, kE_b1, kE_b2, kE_b3, kE_b4, kE_b5, kE_b6, kE_b7, kE_b8, kE_b9, kE_j0, kE_j1, kE_j2, kE_j3, kE_j4, L20, Int32.le_refl, if_true]
theorem pX3_doubtful (hg : ∀ r f, g r f ≤ 3) (hC : RC g o t) {r : Nat} (hr : r < 20) : fX3_doubtfulFuses o t (nI r) = some (nI (dbtN (g r))) := by
  unfold fX3_doubtfulFuses
  have a := omN_lt (g r)
  have b := tmN_lt (g r)
  simp (disch := omega) only [↓LM1, kE_let, kE_if, kE_b1, kE_b2, kE_b3, kE_b4, kE_b5, kE_b6, kE_b7, kE_b8, kE_b9, kE_j0, kE_j1, kE_j2, kE_j3, kE_j4, kE_ck, nI_clamp, (hC r hr).1, (hC r hr).2, nI_xor]
  rw [pJ6 (Nat.xor_lt_two_pow (n := 16) a b)]
  simp only [kE_b1]
  congr 2
  refine cnt_congr (fun f hf => ?_)
  rw [Nat.testBit_xor, omN_bit _ hf, tmN_bit _ hf]
  have h3 := hg r f
  have hy : g r f = 0 ∨ g r f = 1 ∨ g r f = 2 ∨ g r f = 3 := by omega
  rcases hy with hy | hy | hy | hy <;> simp [hy]
theorem sum_cnt (F : Nat → Nat) (P Q : Nat → Bool) (n : Nat) (h : ∀ i, i < n → F i = (if P i then 1 else 0) + 2 * (if Q i then 1 else 0)) : cnt P n + 2 * cnt Q n = sumN F n := by
  induction n with
  | zero => rfl
  | succ n ih =>
    unfold cnt sumN
    rw [h n (Nat.lt_succ_self n), ← ih (fun i hi => h i (Nat.lt_succ_of_lt hi))]
    omega
theorem pX3_strengthSum (hg : ∀ r f, g r f ≤ 3) (hC : RC g o t) {r : Nat} (hr : r < 20) : fX3_strengthSum o t (nI r) = some (nI (sumN (g r) 16)) := by
  unfold fX3_strengthSum
  have a := omN_lt (g r)
  have b := tmN_lt (g r)
  simp (disch := omega) only [↓LM1, kE_let, kE_if, kE_b1, kE_b2, kE_b3, kE_b4, kE_b5, kE_b6, kE_b7, kE_b8, kE_b9, kE_j0, kE_j1, kE_j2, kE_j3, kE_j4, kE_ck, nI_clamp, (hC r hr).1, (hC r hr).2, pJ6, L2, pk_mul, nI_add]
  congr 2
  refine sum_cnt _ _ _ _ (fun f hf => ?_)
  rw [omN_bit _ hf, tmN_bit _ hf]
  have h3 := hg r f
  have hy : g r f = 0 ∨ g r f = 1 ∨ g r f = 2 ∨ g r f = 3 := by omega
  rcases hy with hy | hy | hy | hy <;> simp [hy]
theorem pX3_allDoubtful (hg : ∀ r f, g r f ≤ 3) (hC : RC g o t) : fX3_allDoubtfulFuses o t = some (nI (sumN (fun r => dbtN (g r)) 20)) := by
  unfold fX3_allDoubtfulFuses
  rw [L0]
  refine kE_l2 20 5000 (fun i => nI (sumN (fun r => dbtN (g r)) i)) nI (fun i K hi => ?_) (fun K => ?_) (by decide)
  · unfold fX3_allDoubtfulFuses_s4
    simp (disch := omega) only [↓LM1, kE_let, kE_if, kE_b1, kE_b2, kE_b3, kE_b4, kE_b5, kE_b6, kE_b7, kE_b8, kE_b9, kE_j0, kE_j1, kE_j2, kE_j3, kE_j4, L20, nI_leI, if_neg, pX3_doubtful hg hC hi, L1, nI_add]; rfl
  · unfold fX3_allDoubtfulFuses_s4
    simp only [↓LM1, kE_let, kE_if, kE_b1, kE_b2, kE_b3, kE_b4, kE_b5, kE_b6, kE_b7, kE_b8, kE_b9, kE_j0, kE_j1, kE_j2, kE_j3, kE_j4, L20, Int32.le_refl, if_true]
theorem pX3_keysWithValue (hw : WF g tk se) (hS : RS g tk en pu se o t st ti ey pt) : fX3_keysWithValue o t st ti = some (nI (cnt (fun k => decide (valN g tk (decide (se 0 = 1)) k ≠ m1)) 16)) := by
  unfold fX3_keysWithValue
  have h2 := hw.2.1
  rw [L0]
  refine kE_l2 16 5000 (fun i => nI (cnt (fun k => decide (valN g tk (decide (se 0 = 1)) k ≠ m1)) i)) nI (fun i K hi => ?_) (fun K => ?_) (by decide)
  · unfold fX3_keysWithValue_s4
    simp (disch := omega) only [↓LM1, kE_let, kE_if, kE_b1, kE_b2, kE_b3, kE_b4, kE_b5, kE_b6, kE_b7, kE_b8, kE_b9, kE_j0, kE_j1, kE_j2, kE_j3, kE_j4, L16, nI_leI, if_neg, pX3_readsThrice hS hw.2.2.1, hS.2.2.1, pX3_entryRow hw.1 hS.1, L0, nI_add]
    have e : (rowN g tk (decide (se 0 = 1)) i = m1) = (valN g tk (decide (se 0 = 1)) i = m1) := by
      unfold rowN valN
      rcases lastV_or (entB g tk (decide (se 0 = 1)) i) nI 20 with ⟨a, b⟩ | ⟨r, a, b, c⟩
      · rw [b, b]
      · rw [c, c]
        have v := vl_lt (mkN g tk (decide (se 0 = 1)) r)
        exact propext ⟨fun q => absurd q (nI_nm1 (by omega)), fun q => absurd q (nI_nm1 (by omega))⟩
    simp only [e]
    by_cases h : valN g tk (decide (se 0 = 1)) i = m1
    · rw [if_pos h, L1, nI_add]; simp [cnt, h]
    · rw [if_neg h, L1, nI_add, nI_add]; simp [cnt, h]
  · unfold fX3_keysWithValue_s4
    simp only [↓LM1, kE_let, kE_if, kE_b1, kE_b2, kE_b3, kE_b4, kE_b5, kE_b6, kE_b7, kE_b8, kE_b9, kE_j0, kE_j1, kE_j2, kE_j3, kE_j4, L16, Int32.le_refl, if_true]
theorem wrsN_le (D : Nat → Nat) {b : Nat} (h : ∀ i, D i ≤ b) (n : Nat) : (wrsN D n).2 ≤ b := by
  induction n with
  | zero => exact Nat.zero_le _
  | succ n ih =>
    unfold wrsN
    split
    · exact h n
    · exact ih
theorem wrsD_le (g : Nat → Nat → Nat) (tk : Nat) (th : Bool) (r : Nat) : wrsD g tk th r ≤ 16 := by
  unfold wrsD
  split
  · exact dbtN_le _
  · exact Nat.zero_le _
theorem pX4_worst (hw : WF g tk se) (hS : RS g tk en pu se o t st ti ey pt) : fX4_worst o t st ti = some (wrsN (wrsD g tk (decide (se 0 = 1))) 20).1 := by
  unfold fX4_worst
  rw [L0, LM1]
  refine kE_l3 20 5000 (fun i => (wrsN (wrsD g tk (decide (se 0 = 1))) i).1) (fun i => nI (wrsN (wrsD g tk (decide (se 0 = 1))) i).2) nI (fun i K hi => ?_) (fun K => ?_) (by decide)
  · have hl := wrsN_le (wrsD g tk (decide (se 0 = 1))) (wrsD_le g tk _) i
    have hd := dbtN_le (g i)
    unfold fX4_worst_s6
    simp (disch := omega) only [↓LM1, kE_let, kE_if, kE_b1, kE_b2, kE_b3, kE_b4, kE_b5, kE_b6, kE_b7, kE_b8, kE_b9, kE_j0, kE_j1, kE_j2, kE_j3, kE_j4, L20, nI_leI, if_neg, pX3_doubtful hw.1 hS.1 hi, pX3_isLocked hw hS hi, pX3_kind hw hS hi, L4, nI_kdE, L0, bI_eq0, L1, nI_add]
    by_cases h5 : 2 ≤ g i 15
    · have e : wrsD g tk (decide (se 0 = 1)) i = 0 := by unfold wrsD; rw [if_neg (fun q => q.2 h5)]
      simp only [h5, not_true_eq_false, if_false, ite_self]
      simp [wrsN, e]
    · by_cases h4 : kd (mkN g tk (decide (se 0 = 1)) i) = 4
      · have e : wrsD g tk (decide (se 0 = 1)) i = dbtN (g i) := by unfold wrsD; rw [if_pos ⟨h4, h5⟩]
        simp only [h4, h5, not_false_eq_true, if_true]
        by_cases h6 : dbtN (g i) ≤ (wrsN (wrsD g tk (decide (se 0 = 1))) i).2
        · rw [if_pos h6]; simp only [wrsN, e, Nat.not_lt.mpr h6, if_false]
        · rw [if_neg h6]; simp only [wrsN, e, Nat.not_le.mp h6, if_true]
      · have e : wrsD g tk (decide (se 0 = 1)) i = 0 := by unfold wrsD; rw [if_neg (fun q => h4 q.1)]
        simp only [h4, if_false, ite_self]
        simp [wrsN, e]
  · unfold fX4_worst_s6
    simp only [↓LM1, kE_let, kE_if, kE_b1, kE_b2, kE_b3, kE_b4, kE_b5, kE_b6, kE_b7, kE_b8, kE_b9, kE_j0, kE_j1, kE_j2, kE_j3, kE_j4, L20, Int32.le_refl, if_true]
theorem pX4_valuesRead (hw : WF g tk se) (hS : RS g tk en pu se o t st ti ey pt) {a : Nat} {th : Bool} (ha : a < 100) : fX4_valuesReadOtherwise o t st ti (nI a) (bI th) = some (nI (cnt (fun k => decide (valN g tk (decide (se 0 = 1)) k ≠ valN g (tk + a) th k)) 16)) := by
  unfold fX4_valuesReadOtherwise
  have h2 := hw.2.1
  rw [L0]
  refine kE_l2 16 5000 (fun i => nI (cnt (fun k => decide (valN g tk (decide (se 0 = 1)) k ≠ valN g (tk + a) th k)) i)) nI (fun i K hi => ?_) (fun K => ?_) (by decide)
  · unfold fX4_valuesReadOtherwise_s5
    have e := pX3_valueOfKey hw hS hi
    simp (disch := omega) only [hS.2.2.1] at e
    simp (disch := omega) only [↓LM1, kE_let, kE_if, kE_b1, kE_b2, kE_b3, kE_b4, kE_b5, kE_b6, kE_b7, kE_b8, kE_b9, kE_j0, kE_j1, kE_j2, kE_j3, kE_j4, L16, L0, L1, nI_leI, if_neg, hS.2.2.1, nI_add, e, pX3_valueAt hw.1 hS.1 hi]
    by_cases h : valN g tk (decide (se 0 = 1)) i = valN g (tk + a) th i
    · rw [if_pos h.symm]; simp [cnt, h]
    · rw [if_neg (fun q => h q.symm)]; simp [cnt, h]
  · unfold fX4_valuesReadOtherwise_s5
    simp only [↓LM1, kE_let, kE_if, kE_b1, kE_b2, kE_b3, kE_b4, kE_b5, kE_b6, kE_b7, kE_b8, kE_b9, kE_j0, kE_j1, kE_j2, kE_j3, kE_j4, L16, Int32.le_refl, if_true]
end QC
