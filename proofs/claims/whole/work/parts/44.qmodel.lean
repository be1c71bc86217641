/-! what the looks answer, and that the model answers so -/
def lastV (P : Nat → Bool) (V : Nat → Int32) : Nat → Int32
  | 0 => m1
  | n + 1 => if P n then V n else lastV P V n
def entB (g : Nat → Nat → Nat) (t : Nat) (th : Bool) (k r : Nat) : Bool := decide (kd (mkN g t th r) = 4 ∧ ky (mkN g t th r) = k)
def rofB (g : Nat → Nat → Nat) (t : Nat) (th : Bool) (k r : Nat) : Bool := decide (ky (mkN g t th r) = k ∧ (kd (mkN g t th r) = 4 ∨ kd (mkN g t th r) = 2))
def vlV (g : Nat → Nat → Nat) (t : Nat) (th : Bool) (r : Nat) : Int32 := nI (vl (mkN g t th r))
def rowN (g : Nat → Nat → Nat) (t : Nat) (th : Bool) (k : Nat) : Int32 := lastV (entB g t th k) nI 20
def valN (g : Nat → Nat → Nat) (t : Nat) (th : Bool) (k : Nat) : Int32 := lastV (entB g t th k) (vlV g t th) 20
def nxtN (m : Nat → Nat) : Nat → Nat
  | 0 => 0
  | n + 1 => if m n = 0 then nxtN m n else n + 1
def nextN (g : Nat → Nat → Nat) (tk : Nat) (th : Bool) : Int32 := if nxtN (mkN g tk th) 20 = 20 ∨ 2 ≤ g (nxtN (mkN g tk th) 20) 15 then m1 else nI (nxtN (mkN g tk th) 20)
def maxN (P : Nat → Bool) (V : Nat → Int32) : Nat → Int32
  | 0 => m1
  | n + 1 => if P n ∧ maxN P V n < V n then V n else maxN P V n
def earN (P : Nat → Bool) (V : Nat → Int32) : Nat → Int32 → Int32
  | 0, _ => m1
  | n + 1, a => if P n then (if a = 0 then V n else earN P V n (a + m1)) else earN P V n a
def sumN (F : Nat → Nat) : Nat → Nat
  | 0 => 0
  | n + 1 => sumN F n + F n
def dbtN (g : Nat → Nat) : Nat := cnt (fun f => decide (g f = 1 ∨ g f = 2)) 16
def wrsN (D : Nat → Nat) : Nat → Int32 × Nat
  | 0 => (m1, 0)
  | n + 1 => if (wrsN D n).2 < D n then (nI n, D n) else wrsN D n
def wrsD (g : Nat → Nat → Nat) (tk : Nat) (th : Bool) (r : Nat) : Nat := if kd (mkN g tk th r) = 4 ∧ ¬ 2 ≤ g r 15 then dbtN (g r) else 0
theorem kd_le (m : Nat) : kd m ≤ 4 := by unfold kd; repeat (first | omega | split)
theorem ky_lt (m : Nat) : ky m < 16 := Nat.mod_lt _ (by decide)
theorem vl_lt (m : Nat) : vl m < 64 := Nat.mod_lt _ (by decide)
theorem zer_le (m : Nat) : zer m ≤ 10 := Nat.sub_le _ _
theorem nI_kdE {m c : Nat} (hc : c < 2 ^ 31) : (nI (kd m) = nI c) = (kd m = c) := propext (nI_eq (by have := kd_le m; omega) hc)
theorem nI_kyE {m c : Nat} (hc : c < 2 ^ 31) : (nI (ky m) = nI c) = (ky m = c) := propext (nI_eq (by have := ky_lt m; omega) hc)
theorem sumN_le (F : Nat → Nat) {b : Nat} (h : ∀ i, F i ≤ b) (n : Nat) : sumN F n ≤ n * b := by
  induction n with
  | zero => exact Nat.zero_le _
  | succ n ih => unfold sumN; have := h n; rw [Nat.succ_mul]; omega
theorem dbtN_le (g : Nat → Nat) : dbtN g ≤ 16 := cnt_le _ _
theorem nxtN_le (m : Nat → Nat) (n : Nat) : nxtN m n ≤ n := by
  induction n with
  | zero => exact Nat.le_refl _
  | succ n ih => unfold nxtN; split <;> omega
theorem lastV_or (P : Nat → Bool) (V : Nat → Int32) (n : Nat) : ((∀ i, i < n → P i = false) ∧ ∀ W, lastV P W n = m1) ∨ ∃ r, r < n ∧ P r = true ∧ ∀ W, lastV P W n = W r := by
  induction n with
  | zero => exact Or.inl ⟨fun i h => absurd h (Nat.not_lt_zero i), fun W => rfl⟩
  | succ n ih =>
    by_cases h : P n = true
    · exact Or.inr ⟨n, Nat.lt_succ_self n, h, fun W => if_pos h⟩
    · rcases ih with ⟨a, b⟩ | ⟨r, a, b, c⟩
      · refine Or.inl ⟨fun i hi => ?_, fun W => (if_neg h).trans (b W)⟩
        by_cases e : i = n
        · subst e; simpa using h
        · exact a i (by omega)
      · exact Or.inr ⟨r, by omega, b, fun W => (if_neg h).trans (c W)⟩
theorem nI_nm1 {a : Nat} (h : a < 2 ^ 31) : ¬ nI a = m1 := nI_m1 h
section QZ
variable {g : Nat → Nat → Nat} {tk : Nat} {en pu : Int32} {se : Nat → Nat} {z : Nat → Int32}
theorem pX5_kindM {t r : Nat} {th : Bool} : fX5_kindOf (nI (mkN g t th r)) = some (nI (kd (mkN g t th r))) := pX5_kindOf (mkN_lt _ _ _ _)
theorem pX5_valM {t r : Nat} {th : Bool} : fX5_valueIn (nI (mkN g t th r)) = some (nI (vl (mkN g t th r))) := pX5_valueIn (mkN_lt _ _ _ _)
theorem pX5_in3 {a b c : Nat} (ha : a < 2 ^ 31) (hb : b < 2 ^ 31) (hc : c < 2 ^ 31) : fX5_in (nI a) (nI b) (nI c) = some (bI (b ≤ a ∧ a ≤ c)) := by
  unfold fX5_in
  simp (disch := omega) only [↓LM1, kE_let, kE_if, kE_b1, kE_b2, kE_b3, kE_b4, kE_b5, kE_b6, kE_b7, kE_b8, kE_b9, kE_j0, kE_j1, kE_j2, kE_j3, kE_j4, nI_ltI, L0, L1]
  by_cases h : a < b
  · rw [if_pos h, bI_f (show ¬ (b ≤ a ∧ a ≤ c) by omega)]
  · rw [if_neg h]
    by_cases h2 : c < a
    · rw [if_pos h2, bI_f (show ¬ (b ≤ a ∧ a ≤ c) by omega)]
    · rw [if_neg h2, bI_t (show (b ≤ a ∧ a ≤ c) by omega)]
theorem pX5_rowOf (hw : WF g tk se) (hZ : RZ g tk en pu se z) {k t : Nat} {th : Bool} (hk : k < 16) (ht : t < 90000) : fX5_rowOf z (nI k) (nI t) (bI th) = some (rowN g t th k) := by
  unfold fX5_rowOf
  rw [L0]
  refine kE_l2 20 5000 (fun i => lastV (entB g t th k) nI i) nI (fun i K hi => ?_) (fun K => ?_) (by decide)
  · unfold fX5_rowOf_s6
    simp (disch := omega) only [↓LM1, kE_let, kE_if, kE_b1, kE_b2, kE_b3, kE_b4, kE_b5, kE_b6, kE_b7, kE_b8, kE_b9, kE_j0, kE_j1, kE_j2, kE_j3, kE_j4, L20, nI_leI, if_neg, pX5_mask hw.1 hZ hi ht, pX5_kindM, pX5_keyIn, L4, nI_kdE, nI_kyE, L1, nI_add]
    by_cases h4 : kd (mkN g t th i) = 4 <;> by_cases h5 : ky (mkN g t th i) = k <;> simp [lastV, entB, h4, h5]
  · unfold fX5_rowOf_s6
    simp only [↓LM1, kE_let, kE_if, kE_b1, kE_b2, kE_b3, kE_b4, kE_b5, kE_b6, kE_b7, kE_b8, kE_b9, kE_j0, kE_j1, kE_j2, kE_j3, kE_j4, L20, Int32.le_refl, if_true]
    rfl
theorem pX5_valueOf (hw : WF g tk se) (hZ : RZ g tk en pu se z) {k t : Nat} {th : Bool} (hk : k < 16) (ht : t < 90000) : fX5_valueOf z (nI k) (nI t) (bI th) = some (valN g t th k) := by
  unfold fX5_valueOf
  simp only [↓LM1, kE_let, kE_if, kE_b1, kE_b2, kE_b3, kE_b4, kE_b5, kE_b6, kE_b7, kE_b8, kE_b9, kE_j0, kE_j1, kE_j2, kE_j3, kE_j4, pX5_rowOf hw hZ hk ht, rowN, valN]
  rcases lastV_or (entB g t th k) nI 20 with ⟨a, b⟩ | ⟨r, a, b, c⟩
  · rw [b, b, if_pos rfl]
  · rw [c, c, if_neg (nI_nm1 (by omega))]
    simp only [↓LM1, kE_let, kE_if, kE_b1, kE_b2, kE_b3, kE_b4, kE_b5, kE_b6, kE_b7, kE_b8, kE_b9, kE_j0, kE_j1, kE_j2, kE_j3, kE_j4, pX5_mask hw.1 hZ a ht, pX5_valM, vlV]
theorem pX5_valueNow (hw : WF g tk se) (hZ : RZ g tk en pu se z) {k : Nat} (hk : k < 16) : fX5_valueNow z (nI k) = some (valN g tk (decide (se 0 = 1)) k) := by
  unfold fX5_valueNow
  have h2 := hw.2.1
  simp (disch := omega) only [↓LM1, kE_let, kE_if, kE_b1, kE_b2, kE_b3, kE_b4, kE_b5, kE_b6, kE_b7, kE_b8, kE_b9, kE_j0, kE_j1, kE_j2, kE_j3, kE_j4, L0, kE_ck, nI_clamp, hZ.1, pX5_isThriceNow hZ hw.2.2.1, pX5_valueOf hw hZ]
theorem pX5_nextRow (hw : WF g tk se) (hZ : RZ g tk en pu se z) : fX5_nextRow z = some (nextN g tk (decide (se 0 = 1))) := by
  unfold fX5_nextRow
  simp only [↓LM1, kE_let, kE_if, kE_b1, kE_b2, kE_b3, kE_b4, kE_b5, kE_b6, kE_b7, kE_b8, kE_b9, kE_j0, kE_j1, kE_j2, kE_j3, kE_j4]
  rw [L0]
  have hn := nxtN_le (mkN g tk (decide (se 0 = 1))) 20
  refine kE_l2 20 5000 (fun i => nI (nxtN (mkN g tk (decide (se 0 = 1))) i)) nI (fun i K hi => ?_) (fun K => ?_) (by decide)
  · unfold fX5_nextRow_s4
    have hm := mkN_lt g tk (decide (se 0 = 1)) i
    simp (disch := omega) only [↓LM1, kE_let, kE_if, kE_b1, kE_b2, kE_b3, kE_b4, kE_b5, kE_b6, kE_b7, kE_b8, kE_b9, kE_j0, kE_j1, kE_j2, kE_j3, kE_j4, L20, nI_leI, if_neg, pX5_maskNow hw hZ hi, nI_eq, L1, L0, nI_add]
    by_cases h : mkN g tk (decide (se 0 = 1)) i = 0
    · simp only [nxtN, h, if_true]
    · simp only [nxtN, h, if_false]
  · unfold fX5_nextRow_s4
    simp only [↓LM1, kE_let, kE_if, kE_b1, kE_b2, kE_b3, kE_b4, kE_b5, kE_b6, kE_b7, kE_b8, kE_b9, kE_j0, kE_j1, kE_j2, kE_j3, kE_j4, L20, Int32.le_refl, if_true]
    unfold nextN
    by_cases h : nxtN (mkN g tk (decide (se 0 = 1))) 20 = 20
    · rw [if_pos (by rw [h]), if_pos (Or.inl h)]
    · rw [if_neg (by rw [nI_eq (by omega) (by decide)]; exact h)]
      simp (disch := omega) only [pX5_isLocked hw hZ, ↓LM1, kE_let, kE_if, kE_b1, kE_b2, kE_b3, kE_b4, kE_b5, kE_b6, kE_b7, kE_b8, kE_b9, kE_j0, kE_j1, kE_j2, kE_j3, kE_j4, bI_eq0]
      by_cases h2 : 2 ≤ g (nxtN (mkN g tk (decide (se 0 = 1))) 20) 15
      · rw [if_neg (by simpa using h2), if_pos (Or.inr h2)]
      · rw [if_pos (by simpa using h2), if_neg (by rintro (q | q); exact h q; exact h2 q)]
theorem pX5_isRowOf (hw : WF g tk se) (hZ : RZ g tk en pu se z) {k r : Nat} (hk : k < 16) (hr : r < 20) : fX5_isRowOf z (nI k) (nI r) = some (bI (rofB g tk (decide (se 0 = 1)) k r = true)) := by
  unfold fX5_isRowOf
  simp (disch := omega) only [↓LM1, kE_let, kE_if, kE_b1, kE_b2, kE_b3, kE_b4, kE_b5, kE_b6, kE_b7, kE_b8, kE_b9, kE_j0, kE_j1, kE_j2, kE_j3, kE_j4, pX5_maskNow hw hZ hr, pX5_kindM, pX5_keyIn, L4, L2, nI_kdE, nI_kyE, L1, L0]
  by_cases h4 : kd (mkN g tk (decide (se 0 = 1)) r) = 4 <;> by_cases h2 : kd (mkN g tk (decide (se 0 = 1)) r) = 2 <;> by_cases h5 : ky (mkN g tk (decide (se 0 = 1)) r) = k <;> simp [rofB, h4, h2, h5, bI_T, bI_F]
theorem pX5_entriesOf (hw : WF g tk se) (hZ : RZ g tk en pu se z) {k : Nat} (hk : k < 16) : fX5_entriesOf z (nI k) = some (nI (cnt (entB g tk (decide (se 0 = 1)) k) 20)) := by
  unfold fX5_entriesOf
  rw [L0]
  refine kE_l2 20 5000 (fun i => nI (cnt (entB g tk (decide (se 0 = 1)) k) i)) nI (fun i K hi => ?_) (fun K => ?_) (by decide)
  · unfold fX5_entriesOf_s4
    simp (disch := omega) only [↓LM1, kE_let, kE_if, kE_b1, kE_b2, kE_b3, kE_b4, kE_b5, kE_b6, kE_b7, kE_b8, kE_b9, kE_j0, kE_j1, kE_j2, kE_j3, kE_j4, L20, nI_leI, if_neg, pX5_isRowOf hw hZ hk hi, bI_eq0, pX5_maskNow hw hZ hi, pX5_kindM, L4, nI_kdE, L1, L0, nI_add]
    by_cases h4 : kd (mkN g tk (decide (se 0 = 1)) i) = 4 <;> by_cases h5 : ky (mkN g tk (decide (se 0 = 1)) i) = k <;> simp [cnt, entB, rofB, h4, h5]
  · unfold fX5_entriesOf_s4
    simp only [↓LM1, kE_let, kE_if, kE_b1, kE_b2, kE_b3, kE_b4, kE_b5, kE_b6, kE_b7, kE_b8, kE_b9, kE_j0, kE_j1, kE_j2, kE_j3, kE_j4, L20, Int32.le_refl, if_true]
theorem pX5_rowsOf (hw : WF g tk se) (hZ : RZ g tk en pu se z) {k : Nat} (hk : k < 16) : fX5_rowsOf z (nI k) = some (nI (cnt (rofB g tk (decide (se 0 = 1)) k) 20)) := by
  unfold fX5_rowsOf
  rw [L0]
  refine kE_l2 20 5000 (fun i => nI (cnt (rofB g tk (decide (se 0 = 1)) k) i)) nI (fun i K hi => ?_) (fun K => ?_) (by decide)
  · unfold fX5_rowsOf_s4
    simp (disch := omega) only [↓LM1, kE_let, kE_if, kE_b1, kE_b2, kE_b3, kE_b4, kE_b5, kE_b6, kE_b7, kE_b8, kE_b9, kE_j0, kE_j1, kE_j2, kE_j3, kE_j4, L20, nI_leI, if_neg, pX5_isRowOf hw hZ hk hi, bI_eq0, L1, L0, nI_add]
    by_cases h : rofB g tk (decide (se 0 = 1)) k i = true <;> simp [cnt, h]
  · unfold fX5_rowsOf_s4
    simp only [↓LM1, kE_let, kE_if, kE_b1, kE_b2, kE_b3, kE_b4, kE_b5, kE_b6, kE_b7, kE_b8, kE_b9, kE_j0, kE_j1, kE_j2, kE_j3, kE_j4, L20, Int32.le_refl, if_true]
theorem pX5_greatestOf (hw : WF g tk se) (hZ : RZ g tk en pu se z) {k : Nat} (hk : k < 16) : fX5_greatestOf z (nI k) = some (maxN (rofB g tk (decide (se 0 = 1)) k) (vlV g tk (decide (se 0 = 1))) 20) := by
  unfold fX5_greatestOf
  rw [L0, LM1]
  refine kE_l2 20 5000 (fun i => maxN (rofB g tk (decide (se 0 = 1)) k) (vlV g tk (decide (se 0 = 1))) i) nI (fun i K hi => ?_) (fun K => ?_) (by decide)
  · unfold fX5_greatestOf_s4
    simp (disch := omega) only [↓LM1, kE_let, kE_if, kE_b1, kE_b2, kE_b3, kE_b4, kE_b5, kE_b6, kE_b7, kE_b8, kE_b9, kE_j0, kE_j1, kE_j2, kE_j3, kE_j4, L20, nI_leI, if_neg, pX5_isRowOf hw hZ hk hi, bI_eq0, pX5_maskNow hw hZ hi, pX5_valM, L1, L0, nI_add]
    by_cases h : rofB g tk (decide (se 0 = 1)) k i = true
    · by_cases h2 : maxN (rofB g tk (decide (se 0 = 1)) k) (vlV g tk (decide (se 0 = 1))) i < nI (vl (mkN g tk (decide (se 0 = 1)) i))
      · rw [if_neg (by simpa using h), if_neg (Int32.not_le.mpr h2)]
        simp [maxN, vlV, h, h2]
      · rw [if_neg (by simpa using h), if_pos (Int32.not_lt.mp h2)]
        simp [maxN, vlV, h, h2]
    · simp [maxN, h]
  · unfold fX5_greatestOf_s4
    simp only [↓LM1, kE_let, kE_if, kE_b1, kE_b2, kE_b3, kE_b4, kE_b5, kE_b6, kE_b7, kE_b8, kE_b9, kE_j0, kE_j1, kE_j2, kE_j3, kE_j4, L20, Int32.le_refl, if_true]
theorem pX5_agreeing (hw : WF g tk se) (hZ : RZ g tk en pu se z) {k : Nat} (hk : k < 16) : fX5_agreeing z (nI k) = some (nI (cnt (fun j => decide (valN g (tk + j) false k = valN g tk true k)) 3)) := by
  unfold fX5_agreeing
  have h2 := hw.2.1
  have e1 := pX5_valueOf (th := true) (t := tk) hw hZ hk (by omega)
  rw [bI_t rfl] at e1
  simp (disch := omega) only [↓LM1, kE_let, kE_if, kE_b1, kE_b2, kE_b3, kE_b4, kE_b5, kE_b6, kE_b7, kE_b8, kE_b9, kE_j0, kE_j1, kE_j2, kE_j3, kE_j4, L0, L1, kE_ck, nI_clamp, hZ.1, e1]
  refine kE_l2 3 5000 (fun i => nI (cnt (fun j => decide (valN g (tk + j) false k = valN g tk true k)) i)) nI (fun i K hi => ?_) (fun K => ?_) (by decide)
  · unfold fX5_agreeing_s18
    have e0 := pX5_valueOf (th := false) (t := tk + i) hw hZ hk (by omega)
    rw [bI_f Bool.false_ne_true] at e0
    simp (disch := omega) only [↓LM1, kE_let, kE_if, kE_b1, kE_b2, kE_b3, kE_b4, kE_b5, kE_b6, kE_b7, kE_b8, kE_b9, kE_j0, kE_j1, kE_j2, kE_j3, kE_j4, L3, L0, L1, nI_leI, if_neg, kE_ck, nI_clamp, hZ.1, nI_add, e0]
    by_cases h : valN g (tk + i) false k = valN g tk true k <;> simp [cnt, h]
  · unfold fX5_agreeing_s18
    simp only [↓LM1, kE_let, kE_if, kE_b1, kE_b2, kE_b3, kE_b4, kE_b5, kE_b6, kE_b7, kE_b8, kE_b9, kE_j0, kE_j1, kE_j2, kE_j3, kE_j4, L3, Int32.le_refl, if_true]
theorem nI_dn {n : Nat} : nI (n + 1) + m1 = nI n := pk_m1 n
theorem dn_l1 {A0 β : Type} {S : (A0 → Option β) → A0 → Option β} (N fuel : Nat) (st : Nat → A0) (F : Nat → Option β) (h0 : ∀ K, S K (st 0) = F 0) (hs : ∀ (n : Nat) (K : A0 → Option β), n < N → K (st n) = F n → S K (st (n + 1)) = F (n + 1)) (hf : N < fuel) : k_l1 S fuel (st N) = F N := by
  have key : ∀ (n fu : Nat), n ≤ N → n < fu → k_l1 S fu (st n) = F n := by
    intro n
    induction n with
    | zero =>
      intro fu _ h
      obtain ⟨fu, rfl⟩ : ∃ x, fu = x + 1 := ⟨fu - 1, by omega⟩
      exact h0 _
    | succ n ih =>
      intro fu hn h
      obtain ⟨fu, rfl⟩ : ∃ x, fu = x + 1 := ⟨fu - 1, by omega⟩
      exact hs n _ (by omega) (ih fu (by omega) (by omega))
  exact key N fuel (Nat.le_refl _) hf
theorem dn_l2 {A0 A1 β : Type} {S : (A0 → A1 → Option β) → A0 → A1 → Option β} (N fuel : Nat) (st : Nat → A1) (F : Nat → A0 → Option β) (h0 : ∀ K a, S K a (st 0) = F 0 a) (hs : ∀ (n : Nat) (K : A0 → A1 → Option β) (a : A0), n < N → (∀ x, K x (st n) = F n x) → S K a (st (n + 1)) = F (n + 1) a) (hf : N < fuel) (a : A0) : k_l2 S fuel a (st N) = F N a := by
  have key : ∀ (n fu : Nat) (a : A0), n ≤ N → n < fu → k_l2 S fu a (st n) = F n a := by
    intro n
    induction n with
    | zero =>
      intro fu a _ h
      obtain ⟨fu, rfl⟩ : ∃ x, fu = x + 1 := ⟨fu - 1, by omega⟩
      exact h0 _ a
    | succ n ih =>
      intro fu a hn h
      obtain ⟨fu, rfl⟩ : ∃ x, fu = x + 1 := ⟨fu - 1, by omega⟩
      exact hs n _ a (by omega) (fun x => ih fu x (by omega) (by omega))
  exact key N fuel a (Nat.le_refl _) hf
theorem dn_st0 : nI 0 + m1 = m1 := by decide
theorem dn_st (n : Nat) : nI (n + 1) + m1 = nI n := pk_m1 n
theorem m1_lt0 : m1 < nI 0 := by decide
theorem nI_nlt0 {n : Nat} (h : n < 2 ^ 31) : ¬ nI n < nI 0 := by rw [nI_ltI h (by decide)]; omega
theorem pX5_earlier (hw : WF g tk se) (hZ : RZ g tk en pu se z) {k : Nat} (hk : k < 16) (a : Int32) : fX5_earlier z (nI k) a = some (earN (rofB g tk (decide (se 0 = 1)) k) (vlV g tk (decide (se 0 = 1))) 20 a) := by
  unfold fX5_earlier
  simp only [↓LM1, kE_let, kE_if, kE_b1, kE_b2, kE_b3, kE_b4, kE_b5, kE_b6, kE_b7, kE_b8, kE_b9, kE_j0, kE_j1, kE_j2, kE_j3, kE_j4]
  refine dn_l2 20 5000 (fun n => nI n + m1) (fun n a => some (earN (rofB g tk (decide (se 0 = 1)) k) (vlV g tk (decide (se 0 = 1))) n a)) (fun K a => ?_) (fun n K a hn hK => ?_) (by decide) a
  · unfold fX5_earlier_s6
    simp only [dn_st0, ↓LM1, kE_let, kE_if, kE_b1, kE_b2, kE_b3, kE_b4, kE_b5, kE_b6, kE_b7, kE_b8, kE_b9, kE_j0, kE_j1, kE_j2, kE_j3, kE_j4, L0, m1_lt0, if_true]; rfl
  · unfold fX5_earlier_s6
    simp (disch := omega) only [dn_st, ↓LM1, kE_let, kE_if, kE_b1, kE_b2, kE_b3, kE_b4, kE_b5, kE_b6, kE_b7, kE_b8, kE_b9, kE_j0, kE_j1, kE_j2, kE_j3, kE_j4, L0, nI_nlt0, if_neg, pX5_isRowOf hw hZ hk hn, bI_eq0, hK]
    by_cases h : rofB g tk (decide (se 0 = 1)) k n = true
    · simp only [h, not_true_eq_false, if_false]
      by_cases h2 : a = nI 0
      · rw [if_pos h2, pX5_maskNow hw hZ hn, kE_b1, pX5_valM, kE_b1]
        simp only [earN, h, if_true, L0, if_pos h2, vlV]
      · rw [if_neg h2]
        simp only [earN, h, if_true, L0, if_neg h2]
    · simp only [h, not_false_eq_true, if_true, earN]; rfl
theorem pX5_rowsOfKind (hw : WF g tk se) (hZ : RZ g tk en pu se z) {k : Nat} (hk : k < 16) : fX5_rowsOfKind z (nI k) = some (nI (cnt (fun r => decide (kd (mkN g tk (decide (se 0 = 1)) r) = k)) 20)) := by
  unfold fX5_rowsOfKind
  rw [L0]
  refine kE_l2 20 5000 (fun i => nI (cnt (fun r => decide (kd (mkN g tk (decide (se 0 = 1)) r) = k)) i)) nI (fun i K hi => ?_) (fun K => ?_) (by decide)
  · unfold fX5_rowsOfKind_s4
    simp (disch := omega) only [↓LM1, kE_let, kE_if, kE_b1, kE_b2, kE_b3, kE_b4, kE_b5, kE_b6, kE_b7, kE_b8, kE_b9, kE_j0, kE_j1, kE_j2, kE_j3, kE_j4, L20, nI_leI, if_neg, pX5_maskNow hw hZ hi, pX5_kindM, nI_kdE, L1, L0, nI_add]
    by_cases h : kd (mkN g tk (decide (se 0 = 1)) i) = k <;> simp [cnt, h]
  · unfold fX5_rowsOfKind_s4
    simp only [↓LM1, kE_let, kE_if, kE_b1, kE_b2, kE_b3, kE_b4, kE_b5, kE_b6, kE_b7, kE_b8, kE_b9, kE_j0, kE_j1, kE_j2, kE_j3, kE_j4, L20, Int32.le_refl, if_true]
theorem pX5_lockedMany (hw : WF g tk se) (hZ : RZ g tk en pu se z) : fX5_lockedMany z = some (nI (cnt (fun r => decide (2 ≤ g r 15)) 20)) := by
  unfold fX5_lockedMany
  rw [L0]
  refine kE_l2 20 5000 (fun i => nI (cnt (fun r => decide (2 ≤ g r 15)) i)) nI (fun i K hi => ?_) (fun K => ?_) (by decide)
  · unfold fX5_lockedMany_s4
    simp (disch := omega) only [↓LM1, kE_let, kE_if, kE_b1, kE_b2, kE_b3, kE_b4, kE_b5, kE_b6, kE_b7, kE_b8, kE_b9, kE_j0, kE_j1, kE_j2, kE_j3, kE_j4, L20, nI_leI, if_neg, pX5_isLocked hw hZ hi, bI_eq0, L1, L0, nI_add]
    by_cases h : 2 ≤ g i 15 <;> simp [cnt, h]
  · unfold fX5_lockedMany_s4
    simp only [↓LM1, kE_let, kE_if, kE_b1, kE_b2, kE_b3, kE_b4, kE_b5, kE_b6, kE_b7, kE_b8, kE_b9, kE_j0, kE_j1, kE_j2, kE_j3, kE_j4, L20, Int32.le_refl, if_true]
theorem pX5_doubtful (hg : ∀ r f, g r f ≤ 3) (hZ : RZ g tk en pu se z) {r : Nat} (hr : r < 20) : fX5_doubtful z (nI r) = some (nI (dbtN (g r))) := by
  unfold fX5_doubtful
  rw [L0]
  refine kE_l2 16 5000 (fun i => nI (cnt (fun f => decide (g r f = 1 ∨ g r f = 2)) i)) nI (fun i K hi => ?_) (fun K => ?_) (by decide)
  · unfold fX5_doubtful_s4
    have h3 := hg r i
    simp (disch := omega) only [↓LM1, kE_let, kE_if, kE_b1, kE_b2, kE_b3, kE_b4, kE_b5, kE_b6, kE_b7, kE_b8, kE_b9, kE_j0, kE_j1, kE_j2, kE_j3, kE_j4, L16, nI_leI, if_neg, pX5_strength hZ hr hi, L1, L2, pX5_in3, bI_eq0, L0, nI_add]
    by_cases h : g r i = 1 ∨ g r i = 2
    · rw [if_neg (by omega)]; simp [cnt, h]
    · rw [if_pos (by omega)]; simp [cnt, h]
  · unfold fX5_doubtful_s4
    simp only [↓LM1, kE_let, kE_if, kE_b1, kE_b2, kE_b3, kE_b4, kE_b5, kE_b6, kE_b7, kE_b8, kE_b9, kE_j0, kE_j1, kE_j2, kE_j3, kE_j4, L16, Int32.le_refl, if_true]; rfl
theorem pX5_strengths (hg : ∀ r f, g r f ≤ 3) (hZ : RZ g tk en pu se z) {r : Nat} (hr : r < 20) : fX5_strengths z (nI r) = some (nI (sumN (g r) 16)) := by
  unfold fX5_strengths
  rw [L0]
  refine kE_l2 16 5000 (fun i => nI (sumN (g r) i)) nI (fun i K hi => ?_) (fun K => ?_) (by decide)
  · unfold fX5_strengths_s4
    simp (disch := omega) only [↓LM1, kE_let, kE_if, kE_b1, kE_b2, kE_b3, kE_b4, kE_b5, kE_b6, kE_b7, kE_b8, kE_b9, kE_j0, kE_j1, kE_j2, kE_j3, kE_j4, L16, nI_leI, if_neg, pX5_strength hZ hr hi, L1, nI_add]; rfl
  · unfold fX5_strengths_s4
    simp only [↓LM1, kE_let, kE_if, kE_b1, kE_b2, kE_b3, kE_b4, kE_b5, kE_b6, kE_b7, kE_b8, kE_b9, kE_j0, kE_j1, kE_j2, kE_j3, kE_j4, L16, Int32.le_refl, if_true]
theorem pX5_doubtfulAll (hg : ∀ r f, g r f ≤ 3) (hZ : RZ g tk en pu se z) : fX5_doubtfulAll z = some (nI (sumN (fun r => dbtN (g r)) 20)) := by
  unfold fX5_doubtfulAll
  rw [L0]
  refine kE_l2 20 5000 (fun i => nI (sumN (fun r => dbtN (g r)) i)) nI (fun i K hi => ?_) (fun K => ?_) (by decide)
  · unfold fX5_doubtfulAll_s4
    simp (disch := omega) only [↓LM1, kE_let, kE_if, kE_b1, kE_b2, kE_b3, kE_b4, kE_b5, kE_b6, kE_b7, kE_b8, kE_b9, kE_j0, kE_j1, kE_j2, kE_j3, kE_j4, L20, nI_leI, if_neg, pX5_doubtful hg hZ hi, L1, nI_add]; rfl
  · unfold fX5_doubtfulAll_s4
    simp only [↓LM1, kE_let, kE_if, kE_b1, kE_b2, kE_b3, kE_b4, kE_b5, kE_b6, kE_b7, kE_b8, kE_b9, kE_j0, kE_j1, kE_j2, kE_j3, kE_j4, L20, Int32.le_refl, if_true]
theorem pX5_keysWithValue (hw : WF g tk se) (hZ : RZ g tk en pu se z) : fX5_keysWithValue z = some (nI (cnt (fun k => decide (valN g tk (decide (se 0 = 1)) k ≠ m1)) 16)) := by
  unfold fX5_keysWithValue
  rw [L0]
  refine kE_l2 16 5000 (fun i => nI (cnt (fun k => decide (valN g tk (decide (se 0 = 1)) k ≠ m1)) i)) nI (fun i K hi => ?_) (fun K => ?_) (by decide)
  · unfold fX5_keysWithValue_s4
    simp (disch := omega) only [↓LM1, kE_let, kE_if, kE_b1, kE_b2, kE_b3, kE_b4, kE_b5, kE_b6, kE_b7, kE_b8, kE_b9, kE_j0, kE_j1, kE_j2, kE_j3, kE_j4, L16, nI_leI, if_neg, pX5_valueNow hw hZ hi, L0, nI_add]
    by_cases h : valN g tk (decide (se 0 = 1)) i = m1
    · rw [if_pos h, L1, nI_add]; simp [cnt, h]
    · rw [if_neg h, L1, nI_add, nI_add]; simp [cnt, h]
  · unfold fX5_keysWithValue_s4
    simp only [↓LM1, kE_let, kE_if, kE_b1, kE_b2, kE_b3, kE_b4, kE_b5, kE_b6, kE_b7, kE_b8, kE_b9, kE_j0, kE_j1, kE_j2, kE_j3, kE_j4, L16, Int32.le_refl, if_true]
theorem pX5_worstNow (hw : WF g tk se) (hZ : RZ g tk en pu se z) : fX5_worstNow z = some (wrsN (wrsD g tk (decide (se 0 = 1))) 20).1 := by
  unfold fX5_worstNow
  rw [L0]
  refine kE_l3 20 5000 (fun i => (wrsN (wrsD g tk (decide (se 0 = 1))) i).1) (fun i => nI (wrsN (wrsD g tk (decide (se 0 = 1))) i).2) nI (fun i K hi => ?_) (fun K => ?_) (by decide)
  · have hl : (wrsN (wrsD g tk (decide (se 0 = 1))) i).2 ≤ 16 := by
      have : ∀ n, (wrsN (wrsD g tk (decide (se 0 = 1))) n).2 ≤ 16 := by
        intro n
        induction n with
        | zero => exact Nat.zero_le _
        | succ n ih =>
          unfold wrsN
          split
          · show wrsD _ _ _ n ≤ 16
            unfold wrsD
            split
            · exact dbtN_le _
            · exact Nat.zero_le _
          · exact ih
      exact this i
    have hd : wrsD g tk (decide (se 0 = 1)) i ≤ 16 := by
      unfold wrsD
      split
      · exact dbtN_le _
      · exact Nat.zero_le _
    have main : ∀ x6 : Nat, x6 = wrsD g tk (decide (se 0 = 1)) i → (k_j1 (fun (x7 : Int32) => k_j1 (fun (x8 : Int32) => k_let (nI i + 1) fun (x9 : Int32) => K x7 x8 x9) (fun K67 => k_if (nI x6 ≤ nI (wrsN (wrsD g tk (decide (se 0 = 1))) i).2) (K67 (nI (wrsN (wrsD g tk (decide (se 0 = 1))) i).2)) (K67 (nI x6)))) (fun K54 => k_if (nI x6 ≤ nI (wrsN (wrsD g tk (decide (se 0 = 1))) i).2) (K54 (wrsN (wrsD g tk (decide (se 0 = 1))) i).1) (K54 (nI i)))) = K (wrsN (wrsD g tk (decide (se 0 = 1))) (i + 1)).1 (nI (wrsN (wrsD g tk (decide (se 0 = 1))) (i + 1)).2) (nI (i + 1)) := by
      intro x6 e6
      simp (disch := omega) only [↓LM1, kE_let, kE_if, kE_b1, kE_b2, kE_b3, kE_b4, kE_b5, kE_b6, kE_b7, kE_b8, kE_b9, kE_j0, kE_j1, kE_j2, kE_j3, kE_j4, nI_leI, L1, nI_add]
      by_cases h : x6 ≤ (wrsN (wrsD g tk (decide (se 0 = 1))) i).2
      · rw [if_pos h, if_pos h]
        simp only [wrsN, ← e6, Nat.not_lt.mpr h, if_false]
      · rw [if_neg h, if_neg h]
        simp only [wrsN, ← e6, Nat.not_le.mp h, if_true]
    unfold fX5_worstNow_s6
    simp (disch := omega) only [kE_if, kE_b1, L20, nI_leI, if_neg, pX5_maskNow hw hZ hi, pX5_kindM, L4, nI_kdE, pX5_isLocked hw hZ hi, L0, bI_eq0, pX5_doubtful hw.1 hZ hi]
    rw [kE_j1]
    by_cases h4 : kd (mkN g tk (decide (se 0 = 1)) i) = 4
    · rw [if_pos h4]
      by_cases h5 : 2 ≤ g i 15
      · rw [if_neg (by simpa using h5)]
        have := main 0 (by unfold wrsD; rw [if_neg (fun q => q.2 h5)])
        rw [← this]; rfl
      · rw [if_pos h5]
        have := main (dbtN (g i)) (by unfold wrsD; rw [if_pos ⟨h4, h5⟩])
        rw [← this]; rfl
    · rw [if_neg h4]
      have := main 0 (by unfold wrsD; rw [if_neg (fun q => h4 q.1)])
      rw [← this]; rfl
  · unfold fX5_worstNow_s6
    simp only [↓LM1, kE_let, kE_if, kE_b1, kE_b2, kE_b3, kE_b4, kE_b5, kE_b6, kE_b7, kE_b8, kE_b9, kE_j0, kE_j1, kE_j2, kE_j3, kE_j4, L20, Int32.le_refl, if_true]
theorem pX5_wouldRead (hw : WF g tk se) (hZ : RZ g tk en pu se z) {a : Nat} {th : Bool} (ha : a < 100) : fX5_wouldRead z (nI a) (bI th) = some (nI (cnt (fun k => decide (valN g tk (decide (se 0 = 1)) k ≠ valN g (tk + a) th k)) 16)) := by
  unfold fX5_wouldRead
  have h2 := hw.2.1
  rw [L0]
  refine kE_l2 16 5000 (fun i => nI (cnt (fun k => decide (valN g tk (decide (se 0 = 1)) k ≠ valN g (tk + a) th k)) i)) nI (fun i K hi => ?_) (fun K => ?_) (by decide)
  · unfold fX5_wouldRead_s5
    simp (disch := omega) only [↓LM1, kE_let, kE_if, kE_b1, kE_b2, kE_b3, kE_b4, kE_b5, kE_b6, kE_b7, kE_b8, kE_b9, kE_j0, kE_j1, kE_j2, kE_j3, kE_j4, L16, L0, L1, nI_leI, if_neg, kE_ck, nI_clamp, hZ.1, nI_add, pX5_valueNow hw hZ hi, pX5_valueOf hw hZ hi]
    by_cases h : valN g tk (decide (se 0 = 1)) i = valN g (tk + a) th i <;> simp [cnt, h]
  · unfold fX5_wouldRead_s5
    simp only [↓LM1, kE_let, kE_if, kE_b1, kE_b2, kE_b3, kE_b4, kE_b5, kE_b6, kE_b7, kE_b8, kE_b9, kE_j0, kE_j1, kE_j2, kE_j3, kE_j4, L16, Int32.le_refl, if_true]
end QZ
