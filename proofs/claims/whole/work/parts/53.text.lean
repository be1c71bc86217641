/-! orders as texts: T: the signs, n: how many -/
def mtc (T : Nat → Nat) (n : Nat) : List Nat → Nat → Nat
  | [], _ => 0
  | c :: L, q => if q < n ∧ T q = c then mtc T n L (q + 1) + 1 else 0
def wrd (w : Nat) : List Nat := [[112, 117, 116, 58], [108, 111, 99, 107, 58], [104, 101, 97, 116, 58], [112, 97, 115, 115, 58], [102, 105, 120, 58]].getD w []
def loK (k : Nat) : Nat := [0, 0, 1, 1, 0].getD k 0
def hiK (k : Nat) : Nat := [15, 19, 9, 99, 19].getD k 0
def num2 (T : Nat → Nat) (n hi v q : Nat) : Nat × Nat := if 0 < v ∧ q < n ∧ 48 ≤ T q ∧ T q ≤ 57 ∧ 10 * v + (T q - 48) ≤ hi then (10 * v + (T q - 48), q + 1) else (v, q)
def numS (T : Nat → Nat) (n lo hi q : Nat) : Option (Nat × Nat) := if q < n ∧ 48 ≤ T q ∧ T q ≤ 57 ∧ lo ≤ T q - 48 ∧ T q - 48 ≤ hi then some (num2 T n hi (T q - 48) (q + 1)) else none
/-- the word at q: its kind, or none; where it stops -/
def wdS (T : Nat → Nat) (n q : Nat) : Option Nat × Nat :=
  if q < n ∧ T q = 112 then
    (if q + 1 < n ∧ T (q + 1) = 117 then (if mtc T n [116, 58] (q + 2) = 2 then (some 0, q + 4) else (none, q + 2 + mtc T n [116, 58] (q + 2)))
     else if q + 1 < n ∧ T (q + 1) = 97 then (if mtc T n [115, 115, 58] (q + 2) = 3 then (some 3, q + 5) else (none, q + 2 + mtc T n [115, 115, 58] (q + 2)))
     else (none, q + 1))
  else if q < n ∧ T q = 108 then (if mtc T n [111, 99, 107, 58] (q + 1) = 4 then (some 1, q + 5) else (none, q + 1 + mtc T n [111, 99, 107, 58] (q + 1)))
  else if q < n ∧ T q = 104 then (if mtc T n [101, 97, 116, 58] (q + 1) = 4 then (some 2, q + 5) else (none, q + 1 + mtc T n [101, 97, 116, 58] (q + 1)))
  else if q < n ∧ T q = 102 then (if mtc T n [105, 120, 58] (q + 1) = 3 then (some 4, q + 4) else (none, q + 1 + mtc T n [105, 120, 58] (q + 1)))
  else (none, q)
/-- an order at q: its kind, number, value; where it ends or stops -/
def odS (T : Nat → Nat) (n q : Nat) : Option (Nat × Nat × Nat) × Nat :=
  match wdS T n q with
  | (none, s) => (none, s)
  | (some k, s) => match numS T n (loK k) (hiK k) s with
    | none => (none, s)
    | some (v, s2) => if k = 0 then (if s2 < n ∧ T s2 = 58 then (match numS T n 0 63 (s2 + 1) with
        | none => (none, s2 + 1)
        | some (v2, s3) => (some (0, v, v2), s3)) else (none, s2)) else (some (k, v, 0), s2)
def scS (T : Nat → Nat) (n : Nat) : Nat → Nat → List (Nat × Nat × Nat) × Nat × Bool
  | 0, p => ([], p, false)
  | f + 1, p => match odS T n p with
    | (none, s) => ([], s, false)
    | (some o, q) => if q = n then ([o], n, true) else if T q = 59 then (o :: (scS T n f (q + 1)).1, (scS T n f (q + 1)).2) else ([o], q, false)
theorem mtc_c (T : Nat → Nat) (n c : Nat) (L : List Nat) (q : Nat) : mtc T n (c :: L) q = if q < n ∧ T q = c then mtc T n L (q + 1) + 1 else 0 := rfl
theorem mtc_le (T : Nat → Nat) (n : Nat) (L : List Nat) : ∀ q, q ≤ n → mtc T n L q ≤ L.length ∧ q + mtc T n L q ≤ n := by
  induction L with
  | nil => intro q h; exact ⟨Nat.le_refl _, h⟩
  | cons c L ih =>
    intro q h
    unfold mtc
    by_cases hc : q < n ∧ T q = c
    · rw [if_pos hc]
      have := ih (q + 1) (by omega)
      simp only [List.length_cons]
      omega
    · rw [if_neg hc]
      exact ⟨Nat.zero_le _, h⟩
def TX (T : Nat → Nat) (n : Nat) (sg : Nat → Int32) : Prop := n ≤ 60 ∧ ∀ j, j < n → sg j = nI (T j) ∧ T j < 128
section TC
variable {T : Nat → Nat} {n : Nat} {sg : Nat → Int32}
/-! the class's scan -/
theorem fW_chE {w k : Nat} (hw : w < 5) (hk : k < (wrd w).length) : fW_ch w (nI k) = nI ((wrd w).getD k 0) :=
  (by decide +kernel : ∀ w, w < 5 → ∀ k, k < (wrd w).length → fW_ch w (nI k) = nI ((wrd w).getD k 0)) w hw k hk
theorem fW_lenE {w : Nat} (hw : w < 5) : fW_len w = nI (wrd w).length ∧ lenW.getD w 0 = (wrd w).length ∧ (wrd w).length ≤ 5 ∧ ∀ k, k < (wrd w).length → (wrd w).getD k 0 < 128 :=
  (by decide +kernel : ∀ w, w < 5 → fW_len w = nI (wrd w).length ∧ lenW.getD w 0 = (wrd w).length ∧ (wrd w).length ≤ 5 ∧ ∀ k, k < (wrd w).length → (wrd w).getD k 0 < 128) w hw
theorem kE_ckw {β : Type} {w : Nat} {b : Option β} (h : w < 5) : k_ckw w b = b := if_pos h
theorem pX1_sameSigns (hT : TX T n sg) {w q : Nat} (hw : w < 5) (hq : q ≤ n) : fX1_sameSigns sg (nI n) (nI q) w = some (nI (mtc T n (wrd w) q)) := by
  obtain ⟨h1, h2, h3, h4⟩ := fW_lenE hw
  have hn := hT.1
  have hm := mtc_le T n (wrd w) q hq
  have key : ∀ (d k fu : Nat), k + d = (wrd w).length → d < fu → mtc T n ((wrd w).drop k) (q + k) + k = mtc T n (wrd w) q → k_l1 (fX1_sameSigns_s2 w (nI q) (nI n) sg) fu (nI k) = some (nI (mtc T n (wrd w) q)) := by
    intro d
    induction d with
    | zero =>
      intro k fu hk hf he
      obtain ⟨fu, rfl⟩ : ∃ x, fu = x + 1 := ⟨fu - 1, by omega⟩
      show fX1_sameSigns_s2 _ _ _ _ _ _ = _
      unfold fX1_sameSigns_s2
      rw [List.drop_of_length_le (by omega)] at he
      simp (disch := omega) only [kE_ckw, kE_if, h1, nI_leI, if_pos]
      rw [← he]; simp [mtc]
    | succ d ih =>
      intro k fu hk hf he
      obtain ⟨fu, rfl⟩ : ∃ x, fu = x + 1 := ⟨fu - 1, by omega⟩
      refine (show k_l1 (fX1_sameSigns_s2 w (nI q) (nI n) sg) (fu + 1) (nI k) = fX1_sameSigns_s2 w (nI q) (nI n) sg (k_l1 (fX1_sameSigns_s2 w (nI q) (nI n) sg) fu) (nI k) from rfl).trans ?_
      have ih' := fun h => ih (k + 1) fu (by omega) (by omega) h
      generalize k_l1 (fX1_sameSigns_s2 w (nI q) (nI n) sg) fu = KK at ih' ⊢
      have hlt : k < (wrd w).length := by omega
      have hc := h4 k hlt
      rw [List.drop_eq_getElem_cons hlt] at he
      have hg : (wrd w)[k] = (wrd w).getD k 0 := by rw [List.getD_eq_getElem?_getD, List.getElem?_eq_getElem hlt]; rfl
      rw [hg] at he
      rw [mtc_c] at he
      unfold fX1_sameSigns_s2
      simp (disch := omega) only [kE_ckw, kE_if, kE_let, h1, h2, nI_leI, if_neg, nI_add]
      by_cases hn2 : n ≤ q + k
      · rw [if_pos hn2]
        rw [if_neg (by omega)] at he
        rw [← he, Nat.zero_add]
      · rw [if_neg hn2]
        have hs := hT.2 (q + k) (by omega)
        simp (disch := omega) only [kE_ck, nI_clamp, hs.1, fW_chE hw hlt, nI_eq, L1, nI_add]
        by_cases e : T (q + k) = (wrd w).getD k 0
        · rw [if_pos e]
          rw [if_pos ⟨by omega, e⟩] at he
          exact ih' (by rw [← he, show q + (k + 1) = q + k + 1 by omega]; omega)
        · rw [if_neg e]
          rw [if_neg (fun z => e z.2)] at he
          rw [← he, Nat.zero_add]
  unfold fX1_sameSigns
  rw [L0]
  exact key (wrd w).length 0 5000 (Nat.zero_add _) (by omega) (by simp)
def FFm (T : Nat → Nat) (n q : Nat) : Nat → Nat
  | 0 => 0
  | i + 1 => max (FFm T n q i) (mtc T n (wrd i) q)
def FDm (T : Nat → Nat) (n q : Nat) : Nat → Int32
  | 0 => m1
  | i + 1 => if mtc T n (wrd i) q = (wrd i).length then nI i else FDm T n q i
theorem FFm_le (T : Nat → Nat) {n q : Nat} (hq : q ≤ n) : ∀ i, i ≤ 5 → FFm T n q i ≤ 5 := by
  intro i
  induction i with
  | zero => intro _; exact Nat.zero_le _
  | succ i ih =>
    intro hi
    have h1 := ih (by omega)
    have h2 := (mtc_le T n (wrd i) q hq).1
    have h3 := (fW_lenE (w := i) (by omega)).2.2.1
    unfold FFm
    omega
theorem wd_eq (T : Nat → Nat) {n q : Nat} (hq : q ≤ n) : q + FFm T n q 5 = (wdS T n q).2 ∧ FDm T n q 5 = (match (wdS T n q).1 with | none => m1 | some k => nI k) := by
  have a0 : mtc T n (wrd 0) q = if q < n ∧ T q = 112 then (if q + 1 < n ∧ T (q + 1) = 117 then mtc T n [116, 58] (q + 2) + 1 else 0) + 1 else 0 := rfl
  have a1 : mtc T n (wrd 1) q = if q < n ∧ T q = 108 then mtc T n [111, 99, 107, 58] (q + 1) + 1 else 0 := rfl
  have a2 : mtc T n (wrd 2) q = if q < n ∧ T q = 104 then mtc T n [101, 97, 116, 58] (q + 1) + 1 else 0 := rfl
  have a3 : mtc T n (wrd 3) q = if q < n ∧ T q = 112 then (if q + 1 < n ∧ T (q + 1) = 97 then mtc T n [115, 115, 58] (q + 2) + 1 else 0) + 1 else 0 := rfl
  have a4 : mtc T n (wrd 4) q = if q < n ∧ T q = 102 then mtc T n [105, 120, 58] (q + 1) + 1 else 0 := rfl
  have f5 : FFm T n q 5 = max (max (max (max (max 0 (mtc T n (wrd 0) q)) (mtc T n (wrd 1) q)) (mtc T n (wrd 2) q)) (mtc T n (wrd 3) q)) (mtc T n (wrd 4) q) := rfl
  have d5 : FDm T n q 5 = if mtc T n (wrd 4) q = 4 then nI 4 else if mtc T n (wrd 3) q = 5 then nI 3 else if mtc T n (wrd 2) q = 5 then nI 2 else if mtc T n (wrd 1) q = 5 then nI 1 else if mtc T n (wrd 0) q = 4 then nI 0 else m1 := rfl
  rw [f5, d5]
  unfold wdS
  by_cases c1 : q < n ∧ T q = 112
  · have n1 : ¬ (q < n ∧ T q = 108) := by omega
    have n2 : ¬ (q < n ∧ T q = 104) := by omega
    have n4 : ¬ (q < n ∧ T q = 102) := by omega
    rw [if_pos c1] at a0 a3
    rw [if_neg n1] at a1
    rw [if_neg n2] at a2
    rw [if_neg n4] at a4
    rw [if_pos c1, a1, a2, a4]
    by_cases d1 : q + 1 < n ∧ T (q + 1) = 117
    · have e1 : ¬ (q + 1 < n ∧ T (q + 1) = 97) := by omega
      rw [if_pos d1] at a0
      rw [if_neg e1] at a3
      rw [if_pos d1, a0, a3]
      have hm := (mtc_le T n [116, 58] (q + 2) (by omega)).1
      simp only [List.length_cons, List.length_nil] at hm
      by_cases e : mtc T n [116, 58] (q + 2) = 2
      · rw [if_pos e, e]; exact ⟨by show q + _ = q + 4; omega, rfl⟩
      · rw [if_neg e, if_neg (by omega), if_neg (by omega), if_neg (by omega), if_neg (by omega), if_neg (by omega)]
        exact ⟨by show q + _ = q + 2 + _; omega, rfl⟩
    · rw [if_neg d1] at a0
      rw [if_neg d1, a0]
      by_cases d2 : q + 1 < n ∧ T (q + 1) = 97
      · rw [if_pos d2] at a3
        rw [if_pos d2, a3]
        have hm := (mtc_le T n [115, 115, 58] (q + 2) (by omega)).1
        simp only [List.length_cons, List.length_nil] at hm
        by_cases e : mtc T n [115, 115, 58] (q + 2) = 3
        · rw [if_pos e, e]; exact ⟨by show q + _ = q + 5; omega, rfl⟩
        · rw [if_neg e, if_neg (by omega), if_neg (by omega), if_neg (by omega), if_neg (by omega), if_neg (by omega)]
          exact ⟨by show q + _ = q + 2 + _; omega, rfl⟩
      · rw [if_neg d2] at a3
        rw [if_neg d2, a3]
        exact ⟨by show q + _ = q + 1; omega, rfl⟩
  · rw [if_neg c1] at a0 a3
    rw [if_neg c1, a0, a3]
    by_cases c2 : q < n ∧ T q = 108
    · have n2 : ¬ (q < n ∧ T q = 104) := by omega
      have n4 : ¬ (q < n ∧ T q = 102) := by omega
      rw [if_pos c2] at a1
      rw [if_neg n2] at a2
      rw [if_neg n4] at a4
      rw [if_pos c2, a1, a2, a4]
      have hm := (mtc_le T n [111, 99, 107, 58] (q + 1) (by omega)).1
      simp only [List.length_cons, List.length_nil] at hm
      by_cases e : mtc T n [111, 99, 107, 58] (q + 1) = 4
      · rw [if_pos e, e]; exact ⟨by show q + _ = q + 5; omega, rfl⟩
      · rw [if_neg e, if_neg (by omega), if_neg (by omega), if_neg (by omega), if_neg (by omega), if_neg (by omega)]
        exact ⟨by show q + _ = q + 1 + _; omega, rfl⟩
    · rw [if_neg c2] at a1
      rw [if_neg c2, a1]
      by_cases c3 : q < n ∧ T q = 104
      · have n4 : ¬ (q < n ∧ T q = 102) := by omega
        rw [if_pos c3] at a2
        rw [if_neg n4] at a4
        rw [if_pos c3, a2, a4]
        have hm := (mtc_le T n [101, 97, 116, 58] (q + 1) (by omega)).1
        simp only [List.length_cons, List.length_nil] at hm
        by_cases e : mtc T n [101, 97, 116, 58] (q + 1) = 4
        · rw [if_pos e, e]; exact ⟨by show q + _ = q + 5; omega, rfl⟩
        · rw [if_neg e, if_neg (by omega), if_neg (by omega), if_neg (by omega), if_neg (by omega), if_neg (by omega)]
          exact ⟨by show q + _ = q + 1 + _; omega, rfl⟩
      · rw [if_neg c3] at a2
        rw [if_neg c3, a2]
        by_cases c4 : q < n ∧ T q = 102
        · rw [if_pos c4] at a4
          rw [if_pos c4, a4]
          have hm := (mtc_le T n [105, 120, 58] (q + 1) (by omega)).1
          simp only [List.length_cons, List.length_nil] at hm
          by_cases e : mtc T n [105, 120, 58] (q + 1) = 3
          · rw [if_pos e, e]; exact ⟨by show q + _ = q + 4; omega, rfl⟩
          · rw [if_neg e, if_neg (by omega), if_neg (by omega), if_neg (by omega), if_neg (by omega), if_neg (by omega)]
            exact ⟨by show q + _ = q + 1 + _; omega, rfl⟩
        · rw [if_neg c4] at a4
          rw [if_neg c4, a4]
          exact ⟨by show q + _ = q; omega, rfl⟩
theorem pX1_wordOf {i : Nat} (hi : i < 5) : fX1_wordOf (nI i) = some i := (by decide +kernel : ∀ i, i < 5 → fX1_wordOf (nI i) = some i) i hi
theorem pX1_scanWord (hT : TX T n sg) {q : Nat} (hq : q ≤ n) : fX1_scanWord sg (nI n) (nI q) = some ((match (wdS T n q).1 with | none => m1 | some k => nI k), nI (wdS T n q).2) := by
  obtain ⟨e1, e2⟩ := wd_eq T hq
  rw [← e1, ← e2]
  have hn := hT.1
  unfold fX1_scanWord
  rw [kE_j2, L0, LM1]
  refine kE_l3 5 5000 (fun i => nI (FFm T n q i)) (FDm T n q) nI (fun i K hi => ?_) (fun K => ?_) (by decide)
  · obtain ⟨h1, h2, h3, h4⟩ := fW_lenE hi
    have hm := mtc_le T n (wrd i) q hq
    have hF := FFm_le T hq i (by omega)
    unfold fX1_scanWord_s6
    simp (disch := omega) only [↓LM1, kE_let, kE_if, kE_b1, kE_b2, kE_b3, kE_b4, kE_b5, kE_b6, kE_b7, kE_b8, kE_b9, kE_j0, kE_j1, kE_j2, kE_j3, kE_j4, L5, nI_leI, if_neg, pX1_wordOf hi, pX1_sameSigns hT hi hq, nI_max, kE_ckw, h1, nI_eq, L1, nI_add]
    by_cases e : mtc T n (wrd i) q = (wrd i).length
    · rw [if_pos e]; simp only [FDm, if_pos e]; rfl
    · rw [if_neg e]; simp only [FDm, if_neg e]; rfl
  · unfold fX1_scanWord_s6
    have hF := FFm_le T hq 5 (Nat.le_refl 5)
    simp (disch := omega) only [↓LM1, kE_let, kE_if, kE_b1, kE_b2, kE_b3, kE_b4, kE_b5, kE_b6, kE_b7, kE_b8, kE_b9, kE_j0, kE_j1, kE_j2, kE_j3, kE_j4, L5, Int32.le_refl, if_true, nI_add]
theorem pX4_isWithin {a b c : Nat} (ha : a < 2 ^ 31) (hb : b < 2 ^ 31) (hc : c < 2 ^ 31) : fX4_isWithin (nI a) (nI b) (nI c) = some (bI (b ≤ a ∧ a ≤ c)) := pX5_in3 ha hb hc
theorem sX1_num (hT : TX T n sg) {lo hi v p : Nat} (hlo : lo ≤ 1) (hhi : hi ≤ 99) (hp : p ≤ n) (hv : v ≤ 99) (K78 KK : Int32 → Int32 → Option (Int32 × Int32)) (hK : ∀ a b, K78 a b = some (a, b)) : fX1_scanNumber_s2 (nI n) sg (nI lo) (nI hi) K78 KK (nI v) (nI p) = if 0 < v ∧ p < n ∧ 48 ≤ T p ∧ T p ≤ 57 ∧ 10 * v + (T p - 48) ≤ hi then KK (nI (10 * v + (T p - 48))) (nI (p + 1)) else some (nI v, nI p) := by
  have hn := hT.1
  unfold fX1_scanNumber_s2
  simp (disch := omega) only [↓LM1, kE_let, kE_if, kE_b1, kE_b2, kE_b3, kE_b4, kE_b5, kE_b6, kE_b7, kE_b8, kE_b9, kE_j0, kE_j1, kE_j2, kE_j3, kE_j4, nI_leI]
  by_cases h1 : n ≤ p
  · rw [if_pos h1, if_neg (by omega)]
  · rw [if_neg h1]
    have hs := hT.2 p (by omega)
    simp (disch := omega) only [kE_ck, nI_clamp, hs.1, show (48 : Int32) = nI 48 by decide, show (57 : Int32) = nI 57 by decide, nI_ltI, L0, L10]
    by_cases h2 : T p < 48
    · rw [if_pos h2, if_neg (by omega)]
    · rw [if_neg h2]
      by_cases h3 : 57 < T p
      · rw [if_pos h3, if_neg (by omega)]
      · rw [if_neg h3, if_neg (Nat.not_lt_zero v)]
        simp (disch := omega) only [pk_mul, nI_sub, nI_add, nI_eq, pX4_isWithin, ↓LM1, kE_let, kE_if, kE_b1, kE_b2, kE_b3, kE_b4, kE_b5, kE_b6, kE_b7, kE_b8, kE_b9, kE_j0, kE_j1, kE_j2, kE_j3, kE_j4, bI_eq0, L1, hK]
        by_cases h4 : v = 0
        · rw [if_pos h4, if_neg (by omega)]
        · rw [if_neg h4]
          by_cases h5 : 10 * v + (T p - 48) ≤ hi
          · rw [if_neg (by omega), if_pos (by omega), Nat.mul_comm]
          · rw [if_pos (by omega), if_neg (by omega)]
theorem sX1_num0 (hT : TX T n sg) {lo hi p : Nat} (hlo : lo ≤ 1) (hhi : hi ≤ 99) (hp : p ≤ n) (K78 KK : Int32 → Int32 → Option (Int32 × Int32)) (hK : ∀ a b, K78 a b = some (a, b)) : fX1_scanNumber_s2 (nI n) sg (nI lo) (nI hi) K78 KK m1 (nI p) = if p < n ∧ 48 ≤ T p ∧ T p ≤ 57 ∧ lo ≤ T p - 48 ∧ T p - 48 ≤ hi then KK (nI (T p - 48)) (nI (p + 1)) else some (m1, nI p) := by
  have hn := hT.1
  unfold fX1_scanNumber_s2
  simp (disch := omega) only [↓LM1, kE_let, kE_if, kE_b1, kE_b2, kE_b3, kE_b4, kE_b5, kE_b6, kE_b7, kE_b8, kE_b9, kE_j0, kE_j1, kE_j2, kE_j3, kE_j4, nI_leI]
  by_cases h1 : n ≤ p
  · rw [if_pos h1, if_neg (by omega)]
  · rw [if_neg h1]
    have hs := hT.2 p (by omega)
    simp (disch := omega) only [kE_ck, nI_clamp, hs.1, show (48 : Int32) = nI 48 by decide, show (57 : Int32) = nI 57 by decide, nI_ltI, L0, L10]
    by_cases h2 : T p < 48
    · rw [if_pos h2, if_neg (by omega)]
    · rw [if_neg h2]
      by_cases h3 : 57 < T p
      · rw [if_pos h3, if_neg (by omega)]
      · rw [if_neg h3, if_pos m1_lt0, if_neg (by decide)]
        simp (disch := omega) only [pk_mul, nI_sub, nI_add, pX4_isWithin, ↓LM1, kE_let, kE_if, kE_b1, kE_b2, kE_b3, kE_b4, kE_b5, kE_b6, kE_b7, kE_b8, kE_b9, kE_j0, kE_j1, kE_j2, kE_j3, kE_j4, bI_eq0, L1, hK, Nat.zero_mul, Nat.zero_add]
        by_cases h5 : lo ≤ T p - 48 ∧ T p - 48 ≤ hi
        · rw [if_neg (fun q => q h5), if_pos ⟨by omega, by omega, by omega, h5.1, h5.2⟩]
        · rw [if_pos h5, if_neg (fun q => h5 ⟨q.2.2.2.1, q.2.2.2.2⟩)]
theorem pX1_scanNumber (hT : TX T n sg) {lo hi q : Nat} (hlo : lo ≤ 1) (hhi : hi ≤ 99) (hq : q ≤ n) : fX1_scanNumber sg (nI n) (nI q) (nI lo) (nI hi) = (match numS T n lo hi q with | none => some (m1, nI q) | some (v, s) => some (nI v, nI s)) := by
  unfold fX1_scanNumber
  rw [kE_j2, LM1]
  refine (sX1_num0 hT hlo hhi hq _ (k_l2 _ 4999) (fun _ _ => rfl)).trans ?_
  unfold numS
  by_cases h : q < n ∧ 48 ≤ T q ∧ T q ≤ 57 ∧ lo ≤ T q - 48 ∧ T q - 48 ≤ hi
  · rw [if_pos h, if_pos h]
    refine (sX1_num hT hlo hhi (by omega) (by omega) _ (k_l2 _ 4998) (fun _ _ => rfl)).trans ?_
    unfold num2
    by_cases h2 : 0 < T q - 48 ∧ q + 1 < n ∧ 48 ≤ T (q + 1) ∧ T (q + 1) ≤ 57 ∧ 10 * (T q - 48) + (T (q + 1) - 48) ≤ hi
    · rw [if_pos h2, if_pos h2]
      refine (sX1_num hT hlo hhi (by omega) (by omega) _ (k_l2 _ 4997) (fun _ _ => rfl)).trans ?_
      rw [if_neg (by omega)]
    · rw [if_neg h2, if_neg h2]
  · rw [if_neg h, if_neg h]
theorem pX1_scanSign (hT : TX T n sg) {q c : Nat} (hq : q ≤ n) (hc : c < 128) : fX1_scanSign sg (nI n) (nI q) (nI c) = if q < n ∧ T q = c then some (nI 1, nI (q + 1)) else some (nI 0, nI q) := by
  have hn := hT.1
  unfold fX1_scanSign
  simp (disch := omega) only [↓LM1, kE_let, kE_if, kE_b1, kE_b2, kE_b3, kE_b4, kE_b5, kE_b6, kE_b7, kE_b8, kE_b9, kE_j0, kE_j1, kE_j2, kE_j3, kE_j4, nI_leI, L0, L1]
  by_cases h1 : n ≤ q
  · rw [if_pos h1, if_neg (by omega)]
  · rw [if_neg h1]
    have hs := hT.2 q (by omega)
    simp (disch := omega) only [kE_ck, nI_clamp, hs.1, nI_eq, nI_add]
    by_cases h2 : T q = c
    · rw [if_pos h2, if_pos ⟨by omega, h2⟩]
    · rw [if_neg h2, if_neg (fun z => h2 z.2)]
end TC
