/-! what would be, by the class; properties of rows and keys, numbers: both alike -/
section WC
variable {g : Nat → Nat → Nat} {tk : Nat} {en pu : Int32} {se : Nat → Nat} {no nt ns : Nat → Int32} {ni ne np : Int32}
theorem pX4_putOutcome (hw : WF g tk se) (hR : RS g tk en pu se no nt ns ni ne np) {k v what : Nat} (hk : k < 16) (hv : v < 64) (hq : what < 5) (a b c : Nat → Int32) (d e f : Int32) : ∃ a' b' c' d' e' f', fX4_putOutcome no nt ns ni ne np a b c d e f (nI k) (nI v) (nI what) = some (wpN g tk en se k v what, a', b', c', d', e', f') := by
  obtain rfl : ne = en := hR.2.2.2.1
  unfold fX4_putOutcome wpN
  rw [pX3_nextRow hw hR, kE_b1, kE_if, LM1]
  rcases nextN_or g tk (decide (se 0 = 1)) with h | ⟨h1, h2, h3⟩
  · rw [if_pos h, if_pos h]; exact ⟨_, _, _, _, _, _, rfl⟩
  · have hne : ¬ nextN g tk (decide (se 0 = 1)) = m1 := by rw [h3]; exact nI_nm1 (by omega)
    rw [if_neg hne, if_neg hne, h3]
    obtain ⟨o1, t1, s1, e1, hS1⟩ := pX3_copyFrom hR a b c d e f
    obtain ⟨o2, t2, e2, hC2⟩ := pX3_writeEntry hw hS1 h1 hk hv
    have hS2 : RS (wpW g tk ne se k v).1 tk (wpW g tk ne se k v).2.1 pu se o2 t2 s1 ni (wpW g tk ne se k v).2.1 np := hS1.mk' hC2
    obtain ⟨o3, t3, e3, hC3⟩ := pX3_markEarlier (w := wpW g tk ne se k v) hw (wrN_le hw _ _ _ _).1 hS2 h1 hk
    have hw3 : WF (wpM g tk ne se k v).1 tk se := hw.wG (mk1_le (wrN_le hw _ _ _ _).1 hw.2.2.2.2.1 _ _)
    have hS3 : RS (wpM g tk ne se k v).1 tk (wpM g tk ne se k v).2.1 pu se o3 t3 s1 ni (wpM g tk ne se k v).2.1 np := hS1.mk' hC3
    rw [e1, kE_b6, e2, kE_b4]
    refine (show ∃ a' b' c' d' e' f', k_b4 (fX3_markEarlier o2 t2 s1 ni (wpW g tk ne se k v).2.1 (nI (nxtN (mkN g tk (decide (se 0 = 1))) 20)) (nI k)) _ = _ from ?_)
    rw [e3, kE_b4]
    simp (disch := omega) only [kE_if, kE_let, kE_b1, L0, L1, L2, L3, nI_eq, pX3_kind hw3 hS3 h1, pX3_valueOfKey hw3 hS3 hk]
    by_cases q0 : what = 0
    · rw [if_pos q0, if_pos q0]; exact ⟨_, _, _, _, _, _, rfl⟩
    · rw [if_neg q0, if_neg q0]
      by_cases q1 : what = 1
      · rw [if_pos q1, if_pos q1]; exact ⟨_, _, _, _, _, _, rfl⟩
      · rw [if_neg q1, if_neg q1]
        by_cases q2 : what = 2
        · rw [if_pos q2, if_pos q2]; exact ⟨_, _, _, _, _, _, rfl⟩
        · rw [if_neg q2, if_neg q2]
          by_cases q3 : what = 3
          · rw [if_pos q3, if_pos q3]; exact ⟨_, _, _, _, _, _, rfl⟩
          · rw [if_neg q3, if_neg q3]; exact ⟨_, _, _, _, _, _, rfl⟩
theorem pX4_heatOutcome (hw : WF g tk se) (hR : RS g tk en pu se no nt ns ni ne np) {d what : Nat} (hd : d < 10) (hq : what < 3) (a b c : Nat → Int32) (a1 a2 a3 : Int32) : ∃ a' b' c' d' e' f', fX4_heatOutcome no nt ns ni ne np a b c a1 a2 a3 (nI d) (nI what) = some (whN g tk se d what, a', b', c', d', e', f') := by
  obtain ⟨o1, t1, s1, e1, hS1⟩ := pX3_copyFrom hR a b c a1 a2 a3
  obtain ⟨o2, t2, e2, hC2⟩ := pX3_heatRows hw.1 hS1.1 hd
  have hw2 : WF (htG g d) tk se := hw.wG (htG_le hw.1 d)
  have hS2 : RS (htG g d) tk ne pu se o2 t2 s1 ni ne np := hS1.mk' hC2
  unfold fX4_heatOutcome whN
  rw [e1, kE_b6, e2, kE_b3]
  simp (disch := omega) only [kE_if, L0, L1, nI_eq]
  refine ⟨o2, t2, s1, ni, ne, np, ?_⟩
  by_cases q0 : what = 0
  · rw [if_pos q0, if_pos q0]
  · rw [if_neg q0, if_neg q0]
    by_cases q1 : what = 1
    · rw [if_pos q1, if_pos q1]
      refine kE_l2 20 5000 (fun i => nI (cnt (fun r => decide (kd (mkN g tk (decide (se 0 = 1)) r) ≠ kd (mkN (htG g d) tk (decide (se 0 = 1)) r))) i)) nI (fun i K hi => ?_) (fun K => ?_) (by decide)
      · unfold fX4_heatOutcome_s37
        have k1 := kd_le (mkN g tk (decide (se 0 = 1)) i)
        have k2 := kd_le (mkN (htG g d) tk (decide (se 0 = 1)) i)
        simp (disch := omega) only [↓LM1, kE_let, kE_if, kE_b1, kE_b2, kE_b3, kE_b4, kE_b5, kE_b6, kE_b7, kE_b8, kE_b9, kE_j0, kE_j1, kE_j2, kE_j3, kE_j4, L20, nI_leI, if_neg, pX3_kind hw2 hS2 hi, pX3_kind hw hR hi, nI_eq, L0, L1, nI_add]
        by_cases h : kd (mkN (htG g d) tk (decide (se 0 = 1)) i) = kd (mkN g tk (decide (se 0 = 1)) i)
        · rw [if_pos h]; simp [cnt, h]
        · rw [if_neg h]; simp [cnt, show ¬ kd (mkN g tk (decide (se 0 = 1)) i) = kd (mkN (htG g d) tk (decide (se 0 = 1)) i) from fun q => h q.symm]
      · unfold fX4_heatOutcome_s37
        simp only [↓LM1, kE_let, kE_if, kE_b1, kE_b2, kE_b3, kE_b4, kE_b5, kE_b6, kE_b7, kE_b8, kE_b9, kE_j0, kE_j1, kE_j2, kE_j3, kE_j4, L20, Int32.le_refl, if_true]
    · rw [if_neg q1, if_neg q1]
      refine kE_l2 16 5000 (fun i => nI (cnt (fun k => decide (valN g tk (decide (se 0 = 1)) k ≠ valN (htG g d) tk (decide (se 0 = 1)) k)) i)) nI (fun i K hi => ?_) (fun K => ?_) (by decide)
      · unfold fX4_heatOutcome_s87
        simp (disch := omega) only [↓LM1, kE_let, kE_if, kE_b1, kE_b2, kE_b3, kE_b4, kE_b5, kE_b6, kE_b7, kE_b8, kE_b9, kE_j0, kE_j1, kE_j2, kE_j3, kE_j4, L16, nI_leI, if_neg, pX3_valueOfKey hw2 hS2 hi, pX3_valueOfKey hw hR hi, L0, L1, nI_add]
        by_cases h : valN (htG g d) tk (decide (se 0 = 1)) i = valN g tk (decide (se 0 = 1)) i
        · rw [if_pos h]; simp [cnt, h]
        · rw [if_neg h]; simp [cnt, show ¬ valN g tk (decide (se 0 = 1)) i = valN (htG g d) tk (decide (se 0 = 1)) i from fun q => h q.symm]
      · unfold fX4_heatOutcome_s87
        simp only [↓LM1, kE_let, kE_if, kE_b1, kE_b2, kE_b3, kE_b4, kE_b5, kE_b6, kE_b7, kE_b8, kE_b9, kE_j0, kE_j1, kE_j2, kE_j3, kE_j4, L16, Int32.le_refl, if_true]
end WC
/-- a row's properties, a key's, the numbers -/
def trN (g : Nat → Nat → Nat) (tk : Nat) (th : Bool) (r what : Nat) : Int32 :=
  if what = 0 then nI (mkN g tk th r) else if what = 1 then nI (kd (mkN g tk th r)) else if what = 2 then nI (ky (mkN g tk th r)) else if what = 3 then nI (vl (mkN g tk th r)) else if what = 4 then nI (mkN g tk th r / 1024 % 16) else if what = 5 then nI (zer (mkN g tk th r)) else if what = 6 then nI (dbtN (g r)) else if what = 7 then bI (2 ≤ g r 15) else nI (sumN (g r) 16)
def tyN (g : Nat → Nat → Nat) (tk : Nat) (th : Bool) (k what : Nat) : Int32 :=
  if what = 0 then valN g tk th k else if what = 1 then rowN g tk th k else if what = 2 then nI (cnt (entB g tk th k) 20) else if what = 3 then nI (cnt (rofB g tk th k) 20) else if what = 4 then maxN (rofB g tk th k) (vlV g tk th) 20 else nI (cnt (fun j => decide (valN g (tk + j) false k = valN g tk true k)) 3)
def rkN (g : Nat → Nat → Nat) (tk : Nat) (th : Bool) (k : Nat) : Int32 := nI (cnt (fun r => decide (kd (mkN g tk th r) = k)) 20)
def ctN (g : Nat → Nat → Nat) (tk : Nat) (th : Bool) (en pu : Int32) (m what : Nat) : Int32 :=
  if what = 0 then nI tk else if what = 1 then rkN g tk th 0 else if what = 2 then rkN g tk th 1 else if what = 3 then rkN g tk th 2 else if what = 4 then rkN g tk th 3 else if what = 5 then rkN g tk th 4 else if what = 6 then nI (cnt (fun r => decide (2 ≤ g r 15)) 20) else if what = 7 then nI (sumN (fun r => dbtN (g r)) 20) else if what = 8 then en else if what = 9 then nI (cnt (fun k => decide (valN g tk th k ≠ m1)) 16) else if what = 10 then nextN g tk th else if what = 11 then pu else nI m
section WL
variable {g : Nat → Nat → Nat} {tk : Nat} {en pu : Int32} {se : Nat → Nat} {no nt ns : Nat → Int32} {ni ne np : Int32} {z : Nat → Int32}
theorem bI_pick {p : Prop} [Decidable p] : (if bI p = nI 0 then some (nI 0) else some (nI 1)) = some (bI p) := by
  by_cases h : p
  · rw [bI_t h, if_neg n10]
  · rw [bI_f h, if_pos rfl]
theorem pX4_rowProperty (hw : WF g tk se) (hR : RS g tk en pu se no nt ns ni ne np) {r what : Nat} (hr : r < 20) (hq : what < 9) : fX4_rowProperty no nt ns ni (nI r) (nI what) = some (trN g tk (decide (se 0 = 1)) r what) := by
  have hm := mkN_lt g tk (decide (se 0 = 1)) r
  unfold fX4_rowProperty trN
  rw [pX3_read hw hR hr, kE_b1]
  rcases (show what = 0 ∨ what = 1 ∨ what = 2 ∨ what = 3 ∨ what = 4 ∨ what = 5 ∨ what = 6 ∨ what = 7 ∨ what = 8 by omega) with rfl | rfl | rfl | rfl | rfl | rfl | rfl | rfl | rfl <;>
  simp (disch := omega) only [kE_if, kE_b1, L0, L1, L2, L3, L4, L5, L6, L7, nI_eq, pX0_kindM, pX0_keyOf, pX0_valM, pX0_checkOf hm, pX0_zerosOf, pX3_doubtful hw.1 hR.1 hr, pX3_isLocked hw hR hr, pX3_strengthSum hw.1 hR.1 hr, bI_pick, if_true, if_false, reduceIte, Nat.reduceEqDiff, reduceCtorEq]
theorem pX4_keyProperty (hw : WF g tk se) (hR : RS g tk en pu se no nt ns ni ne np) {k what : Nat} (hk : k < 16) (hq : what < 6) : fX4_keyProperty no nt ns ni (nI k) (nI what) = some (tyN g tk (decide (se 0 = 1)) k what) := by
  have h2 := hw.2.1
  have hti := hR.2.2.1
  have e1 := pX3_entryRow (th := decide (se 0 = 1)) (q := tk) hw.1 hR.1 hk (by omega)
  rw [← hti] at e1
  unfold fX4_keyProperty tyN
  rcases (show what = 0 ∨ what = 1 ∨ what = 2 ∨ what = 3 ∨ what = 4 ∨ what = 5 by omega) with rfl | rfl | rfl | rfl | rfl | rfl <;>
  simp (disch := omega) only [kE_if, kE_b1, L0, L1, L2, L3, L4, nI_eq, pX3_valueOfKey hw hR hk, pX3_readsThrice hR hw.2.2.1, e1, pX3_entriesOf hw hR hk, pX3_rowsOf hw hR hk, pX3_greatestValue hw hR hk, pX3_steadyReadings hw hR hk, if_true, if_false, reduceIte, Nat.reduceEqDiff, reduceCtorEq]
theorem pX4_countOf (hw : WF g tk se) (hR : RS g tk en pu se no nt ns ni ne np) {m what : Nat} (hq : what < 13) : fX4_countOf no nt ns ni ne np (nI m) (nI what) = some (ctN g tk (decide (se 0 = 1)) en pu m what) := by
  obtain rfl : ne = en := hR.2.2.2.1
  obtain rfl : np = pu := hR.2.2.2.2
  obtain rfl : ni = nI tk := hR.2.2.1
  unfold fX4_countOf ctN rkN
  rcases (show what = 0 ∨ what = 1 ∨ what = 2 ∨ what = 3 ∨ what = 4 ∨ what = 5 ∨ what = 6 ∨ what = 7 ∨ what = 8 ∨ what = 9 ∨ what = 10 ∨ what = 11 ∨ what = 12 by omega) with rfl | rfl | rfl | rfl | rfl | rfl | rfl | rfl | rfl | rfl | rfl | rfl | rfl <;>
  simp (disch := omega) only [kE_if, kE_b1, kE_let, L0, L1, L2, L3, L4, L5, L6, L7, L8, L9, L10, L11, L12, nI_eq, nI_sub, pX3_rowsOfKind hw hR, pX3_lockedRows hw hR, pX3_allDoubtful hw.1 hR.1, pX3_keysWithValue hw hR, pX3_nextRow hw hR, if_true, if_false, reduceIte, Nat.reduceEqDiff, reduceCtorEq]
/-- the shares -/
def surN (g : Nat → Nat → Nat) (n : Nat) : Nat := sumN (fun r => cnt (fun f => decide (g r f = 3)) 16) n
def blwN (g : Nat → Nat → Nat) (n : Nat) : Nat := sumN (fun r => cnt (fun f => decide (0 < g r f)) 16) n
theorem cnt_mono {P Q : Nat → Bool} (n : Nat) (h : ∀ i, P i = true → Q i = true) : cnt P n ≤ cnt Q n := by
  induction n with
  | zero => exact Nat.le_refl _
  | succ n ih =>
    unfold cnt
    by_cases hp : P n = true
    · rw [if_pos hp, if_pos (h n hp)]; omega
    · rw [if_neg hp]; split <;> omega
theorem sumN_mono {F G : Nat → Nat} (n : Nat) (h : ∀ i, F i ≤ G i) : sumN F n ≤ sumN G n := by
  induction n with
  | zero => exact Nat.le_refl _
  | succ n ih => unfold sumN; have := h n; omega
theorem sur_s (g : Nat → Nat → Nat) (n : Nat) : surN g (n + 1) = surN g n + cnt (fun f => decide (g n f = 3)) 16 := Eq.trans rfl rfl
theorem blw_s (g : Nat → Nat → Nat) (n : Nat) : blwN g (n + 1) = blwN g n + cnt (fun f => decide (0 < g n f)) 16 := Eq.trans rfl rfl
theorem sur_le (g : Nat → Nat → Nat) (n : Nat) : surN g n ≤ blwN g n := sumN_mono n (fun r => cnt_mono 16 (fun i h => by simp at h ⊢; omega))
theorem blw_le (g : Nat → Nat → Nat) : blwN g 20 ≤ 320 := by
  have := sumN_le (fun r => cnt (fun f => decide (0 < g r f)) 16) (b := 16) (fun i => cnt_le _ _) 20
  unfold blwN; omega
end WL
