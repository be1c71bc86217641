/-! the state: strengths g r f, the tick, energy, values put, settings; how both hold it; readings -/
abbrev bI (p : Prop) [Decidable p] : Int32 := nI (if p then 1 else 0)
def m1 : Int32 := -1
theorem LM1 : (-1 : Int32) = m1 := by decide
def rdB (g : Nat → Nat) (r t : Nat) (th : Bool) (f : Nat) : Bool := if th then decide (2 ≤ g f) else decide ((t + r + f) % 3 < g f)
def mkN (g : Nat → Nat → Nat) (t : Nat) (th : Bool) (r : Nat) : Nat := bm (rdB (g r) r t th) 16
def omN (g : Nat → Nat) : Nat := bm (fun f => decide (g f % 2 = 1)) 16
def tmN (g : Nat → Nat) : Nat := bm (fun f => decide (2 ≤ g f)) 16
def WF (g : Nat → Nat → Nat) (tk : Nat) (se : Nat → Nat) : Prop := (∀ r f, g r f ≤ 3) ∧ tk ≤ 9999 ∧ se 0 ≤ 1 ∧ 1 ≤ se 1 ∧ se 1 ≤ 3 ∧ 1 ≤ se 2 ∧ se 2 ≤ 3 ∧ se 3 ≤ 1
def RC (g : Nat → Nat → Nat) (ones twos : Nat → Int32) : Prop := ∀ r, r < 20 → ones r = nI (omN (g r)) ∧ twos r = nI (tmN (g r))
def RS (g : Nat → Nat → Nat) (tk : Nat) (en pu : Int32) (se : Nat → Nat) (ones twos settings : Nat → Int32) (tick energy put : Int32) : Prop := RC g ones twos ∧ (∀ k, k < 4 → settings k = nI (se k)) ∧ tick = nI tk ∧ energy = en ∧ put = pu
theorem mkN_lt (g : Nat → Nat → Nat) (t : Nat) (th : Bool) (r : Nat) : mkN g t th r < 65536 := bm_lt _ 16
theorem omN_lt (g : Nat → Nat) : omN g < 65536 := bm_lt _ 16
theorem tmN_lt (g : Nat → Nat) : tmN g < 65536 := bm_lt _ 16
section PZ
variable {g : Nat → Nat → Nat} {tk : Nat} {en pu : Int32} {se : Nat → Nat} {z : Nat → Int32}
theorem bI_le (p : Prop) [Decidable p] : (if p then 1 else 0 : Nat) ≤ 1 := by split <;> omega
theorem bI_1 {p : Prop} [Decidable p] (h : p) : (if p then 1 else 0 : Nat) = 1 := if_pos h
theorem bI_0 {p : Prop} [Decidable p] (h : ¬ p) : (if p then 1 else 0 : Nat) = 0 := if_neg h
theorem bI_eq1 {p : Prop} [Decidable p] : bI p = nI 1 ↔ p := by
  unfold bI
  by_cases h : p
  · rw [if_pos h]; exact ⟨fun _ => h, fun _ => rfl⟩
  · rw [if_neg h]; exact ⟨fun q => absurd q (by decide), fun q => absurd q h⟩
theorem bI_eq0 {p : Prop} [Decidable p] : bI p = nI 0 ↔ ¬ p := by
  unfold bI
  by_cases h : p
  · rw [if_pos h]; exact ⟨fun q => absurd q (by decide), fun q => absurd h q⟩
  · rw [if_neg h]; exact ⟨fun _ => h, fun _ => rfl⟩
theorem bI_t {p : Prop} [Decidable p] (h : p) : bI p = nI 1 := by unfold bI; rw [if_pos h]
theorem bI_f {p : Prop} [Decidable p] (h : ¬ p) : bI p = nI 0 := by unfold bI; rw [if_neg h]
theorem bI_T [Decidable True] : bI True = nI 1 := bI_t trivial
theorem bI_F [Decidable False] : bI False = nI 0 := bI_f (fun h => h)
theorem bI_some {p : Prop} [Decidable p] : (if p then some (nI 1) else some (nI 0)) = some (bI p) := by
  unfold bI
  by_cases h : p
  · rw [if_pos h, if_pos h]
  · rw [if_neg h, if_neg h]
theorem bI_some' {p : Prop} [Decidable p] : (if p then some (nI 0) else some (nI 1)) = some (bI (¬ p)) := by
  unfold bI
  by_cases h : p
  · rw [if_pos h, if_neg (fun q => q h)]
  · rw [if_neg h, if_pos h]
theorem bI_congr {p q : Prop} [Decidable p] [Decidable q] (h : p ↔ q) : bI p = bI q := by
  unfold bI
  by_cases hp : p
  · rw [if_pos hp, if_pos (h.mp hp)]
  · rw [if_neg hp, if_neg (fun z => hp (h.mpr z))]
theorem thr3 {a s : Nat} (hs : s ≤ 3) : (if a % 3 < s then 1 else 0 : Nat) + (if (a + 1) % 3 < s then 1 else 0) + (if (a + 2) % 3 < s then 1 else 0) ≤ 1 ↔ ¬ 2 ≤ s := by
  split <;> split <;> split <;> omega
theorem nI_shl1 {p : Prop} [Decidable p] {f : Nat} (hf : f < 31) : bI p <<< nI f = nI (if p then 2 ^ f else 0) := by
  unfold bI
  have h1 : 2 ^ f < 2 ^ 32 := Nat.pow_lt_pow_right (by decide) (by omega)
  by_cases h : p
  · rw [if_pos h, if_pos h, nI_shl (by omega) (by omega), Nat.one_mul]
  · rw [if_neg h, if_neg h, nI_shl (by omega) (by omega), Nat.zero_mul]
end PZ
section PC
variable {g : Nat → Nat → Nat} {tk : Nat} {en pu : Int32} {se : Nat → Nat} {o t st : Nat → Int32} {ti ey pt : Int32}
theorem omN_bit (g : Nat → Nat) {f : Nat} (hf : f < 16) : (omN g).testBit f = decide (g f % 2 = 1) := by
  unfold omN; rw [bm_bit]; simp [hf]
theorem tmN_bit (g : Nat → Nat) {f : Nat} (hf : f < 16) : (tmN g).testBit f = decide (2 ≤ g f) := by
  unfold tmN; rw [bm_bit]; simp [hf]
theorem mkN_bit (g : Nat → Nat → Nat) (t : Nat) (th : Bool) (r : Nat) {f : Nat} (hf : f < 16) : (mkN g t th r).testBit f = rdB (g r) r t th f := by
  unfold mkN; rw [bm_bit]; simp [hf]
theorem pX3_strength (hg : ∀ r f, g r f ≤ 3) (hC : RC g o t) {r f : Nat} (hr : r < 20) (hf : f < 16) : fX3_strength o t (nI r) (nI f) = some (nI (g r f)) := by
  unfold fX3_strength
  have a := omN_lt (g r)
  have b := tmN_lt (g r)
  have h3 := hg r f
  simp (disch := omega) only [kE_let, kE_if, kE_b1, kE_b2, kE_b3, kE_b4, kE_b5, kE_b6, kE_b7, kE_b8, kE_b9, kE_j0, kE_j1, kE_j2, kE_j3, kE_j4, kE_ck, nI_clamp, (hC r hr).1, (hC r hr).2, L31, nI_31, nI_shr, L1, nI_a1, L2, pk_mul, nI_add, bit_of, omN_bit _ hf, tmN_bit _ hf]
  congr 2
  by_cases h1 : g r f % 2 = 1 <;> by_cases h2 : 2 ≤ g r f <;> simp [h1, h2] <;> omega
theorem third_bits : ∀ k, k < 3 → ∀ f, f < 16 → ((37449 / 2 ^ k).testBit f = decide ((k + f) % 3 = 0)) ∧ ((74898 / 2 ^ k).testBit f = decide ((k + f) % 3 = 1)) ∧ ((149796 / 2 ^ k).testBit f = decide ((k + f) % 3 = 2)) := by decide +kernel
theorem pX3_readAt (hg : ∀ r f, g r f ≤ 3) (hC : RC g o t) {r k : Nat} {th : Bool} (hr : r < 20) (hk : k < 100000) : fX3_readAt o t (nI r) (nI k) (bI th) = some (nI (mkN g k th r)) := by
  unfold fX3_readAt
  have a := omN_lt (g r)
  have b := tmN_lt (g r)
  cases th
  · have hm : (k + r) % 3 < 3 := Nat.mod_lt _ (by decide)
    simp (disch := omega) only [kE_let, kE_if, kE_b1, kE_b2, kE_b3, kE_b4, kE_b5, kE_b6, kE_b7, kE_b8, kE_b9, kE_j0, kE_j1, kE_j2, kE_j3, kE_j4, L0, bI_eq0, kE_ck, nI_clamp, (hC r hr).1, (hC r hr).2, L31, nI_31, nI_shr, L3, nI_add, pk_rem, L37449, show (74898 : Int32) = nI 74898 by decide, show (149796 : Int32) = nI 149796 by decide]
    rw [if_pos (by simp)]
    simp only [nI_and, nI_or]
    congr 2
    have x1 : ∀ a b : Nat, a < 65536 → a &&& b < 65536 := fun a b h => Nat.lt_of_le_of_lt Nat.and_le_left h
    have x2 : ∀ a b : Nat, a < 65536 → b < 65536 → a ||| b < 65536 := fun a b h h2 => Nat.or_lt_two_pow (n := 16) h h2
    refine bm_ext (n := 16) (x2 _ _ (x2 _ _ (x1 _ _ (x2 _ _ a b)) (x1 _ _ b)) (x1 _ _ (x1 _ _ a))) (mkN_lt _ _ _ _) (fun f hf => ?_)
    obtain ⟨t0, t1, t2⟩ := third_bits ((k + r) % 3) hm f hf
    rw [mkN_bit _ _ _ _ hf]
    simp only [Nat.testBit_and, Nat.testBit_or, t0, t1, t2, omN_bit _ hf, tmN_bit _ hf, rdB]
    have h3 := hg r f
    have e : (k + r + f) % 3 = ((k + r) % 3 + f) % 3 := by omega
    have hx : ((k + r) % 3 + f) % 3 = 0 ∨ ((k + r) % 3 + f) % 3 = 1 ∨ ((k + r) % 3 + f) % 3 = 2 := by omega
    have hy : g r f = 0 ∨ g r f = 1 ∨ g r f = 2 ∨ g r f = 3 := by omega
    rcases hx with hx | hx | hx <;> rcases hy with hy | hy | hy | hy <;> simp [e, hx, hy]
  · simp (disch := omega) only [kE_let, kE_if, kE_b1, kE_b2, kE_b3, kE_b4, kE_b5, kE_b6, kE_b7, kE_b8, kE_b9, kE_j0, kE_j1, kE_j2, kE_j3, kE_j4, L0, bI_eq0, kE_ck, nI_clamp, (hC r hr).2]
    rw [if_neg (by simp)]
    congr 2
theorem pX3_readsThrice (hS : RS g tk en pu se o t st ti ey pt) (hs : se 0 ≤ 1) : fX3_readsThrice st = some (bI (decide (se 0 = 1) = true)) := by
  unfold fX3_readsThrice
  have h0 := hS.2.1 0 (by decide)
  simp (disch := omega) only [kE_let, kE_if, kE_b1, kE_b2, kE_b3, kE_b4, kE_b5, kE_b6, kE_b7, kE_b8, kE_b9, kE_j0, kE_j1, kE_j2, kE_j3, kE_j4, kE_ck, nI_clamp, h0, L1, L0, nI_eq, bI_some]
  exact congrArg some (bI_congr (by simp))
theorem pX3_read (hw : WF g tk se) (hS : RS g tk en pu se o t st ti ey pt) {r : Nat} (hr : r < 20) : fX3_read o t st ti (nI r) = some (nI (mkN g tk (decide (se 0 = 1)) r)) := by
  unfold fX3_read
  have h2 := hw.2.1
  simp (disch := omega) only [kE_let, kE_if, kE_b1, kE_b2, kE_b3, kE_b4, kE_b5, kE_b6, kE_b7, kE_b8, kE_b9, kE_j0, kE_j1, kE_j2, kE_j3, kE_j4, pX3_readsThrice hS hw.2.2.1, hS.2.2.1, pX3_readAt hw.1 hS.1 hr]
theorem pX3_kind (hw : WF g tk se) (hS : RS g tk en pu se o t st ti ey pt) {r : Nat} (hr : r < 20) : fX3_kind o t st ti (nI r) = some (nI (kd (mkN g tk (decide (se 0 = 1)) r))) := by
  unfold fX3_kind
  simp only [kE_let, kE_if, kE_b1, kE_b2, kE_b3, kE_b4, kE_b5, kE_b6, kE_b7, kE_b8, kE_b9, kE_j0, kE_j1, kE_j2, kE_j3, kE_j4, pX3_read hw hS hr, pX0_kindOf (mkN_lt _ _ _ _)]
theorem pX3_isLocked (hw : WF g tk se) (hS : RS g tk en pu se o t st ti ey pt) {r : Nat} (hr : r < 20) : fX3_isLocked o t ti (nI r) = some (bI (2 ≤ g r 15)) := by
  unfold fX3_isLocked
  have h2 := hw.2.1
  have hb := mkN_lt g tk true r
  have e := pX3_readAt (th := true) (k := tk) hw.1 hS.1 hr (by omega)
  rw [show bI (true = true) = nI 1 by decide] at e
  simp (disch := omega) only [kE_let, kE_if, kE_b1, kE_b2, kE_b3, kE_b4, kE_b5, kE_b6, kE_b7, kE_b8, kE_b9, kE_j0, kE_j1, kE_j2, kE_j3, kE_j4, hS.2.2.1, e, L15, L31, nI_31, nI_shr, L1, nI_a1, bit_of, mkN_bit g tk true r (show 15 < 16 by decide), L0, bI_eq1, bI_some]
  exact congrArg some (bI_congr (by simp [rdB]))
end PC
