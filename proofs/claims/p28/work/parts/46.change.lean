/-! loops with an invariant; the changes of the state, as both do them -/
theorem kI_l1 {A0 β : Type} {S : (A0 → Option β) → A0 → Option β} (Inv : Nat → A0 → Prop) (Post : Option β → Prop) (N fuel : Nat) (hstep : ∀ (k : Nat) a0, k < N → Inv k a0 → ∃ b0, Inv (k + 1) b0 ∧ ∀ K : A0 → Option β, S K a0 = K b0) (hend : ∀ a0, Inv N a0 → ∃ r, Post r ∧ ∀ K : A0 → Option β, S K a0 = r) (hf : N < fuel) (a0 : A0) (h0 : Inv 0 a0) : ∃ r, Post r ∧ k_l1 S fuel a0 = r := by
  have go : ∀ (d fu : Nat) (a0 : A0), d ≤ N → d < fu → Inv (N - d) a0 → ∃ r, Post r ∧ k_l1 S fu a0 = r := by
    intro d
    induction d with
    | zero =>
      intro fu a0 _ hfu hi
      obtain ⟨fu, rfl⟩ : ∃ x, fu = x + 1 := ⟨fu - 1, by omega⟩
      rw [Nat.sub_zero] at hi
      obtain ⟨r, hr, hk⟩ := hend a0 hi
      exact ⟨r, hr, hk _⟩
    | succ d ih =>
      intro fu a0 hd hfu hi
      obtain ⟨fu, rfl⟩ : ∃ x, fu = x + 1 := ⟨fu - 1, by omega⟩
      obtain ⟨b0, hb, hk⟩ := hstep (N - (d + 1)) a0 (by omega) hi
      rw [show N - (d + 1) + 1 = N - d by omega] at hb
      obtain ⟨r, hr, hk2⟩ := ih fu b0 (by omega) (by omega) hb
      exact ⟨r, hr, (hk _).trans hk2⟩
  exact go N fuel a0 (Nat.le_refl _) hf (by rw [Nat.sub_self]; exact h0)
theorem kI_l2 {A0 A1 β : Type} {S : (A0 → A1 → Option β) → A0 → A1 → Option β} (Inv : Nat → A0 → A1 → Prop) (Post : Option β → Prop) (N fuel : Nat) (hstep : ∀ (k : Nat) a0 a1, k < N → Inv k a0 a1 → ∃ b0 b1, Inv (k + 1) b0 b1 ∧ ∀ K : A0 → A1 → Option β, S K a0 a1 = K b0 b1) (hend : ∀ a0 a1, Inv N a0 a1 → ∃ r, Post r ∧ ∀ K : A0 → A1 → Option β, S K a0 a1 = r) (hf : N < fuel) (a0 : A0) (a1 : A1) (h0 : Inv 0 a0 a1) : ∃ r, Post r ∧ k_l2 S fuel a0 a1 = r := by
  have go : ∀ (d fu : Nat) (a0 : A0) (a1 : A1), d ≤ N → d < fu → Inv (N - d) a0 a1 → ∃ r, Post r ∧ k_l2 S fu a0 a1 = r := by
    intro d
    induction d with
    | zero =>
      intro fu a0 a1 _ hfu hi
      obtain ⟨fu, rfl⟩ : ∃ x, fu = x + 1 := ⟨fu - 1, by omega⟩
      rw [Nat.sub_zero] at hi
      obtain ⟨r, hr, hk⟩ := hend a0 a1 hi
      exact ⟨r, hr, hk _⟩
    | succ d ih =>
      intro fu a0 a1 hd hfu hi
      obtain ⟨fu, rfl⟩ : ∃ x, fu = x + 1 := ⟨fu - 1, by omega⟩
      obtain ⟨b0, b1, hb, hk⟩ := hstep (N - (d + 1)) a0 a1 (by omega) hi
      rw [show N - (d + 1) + 1 = N - d by omega] at hb
      obtain ⟨r, hr, hk2⟩ := ih fu b0 b1 (by omega) (by omega) hb
      exact ⟨r, hr, (hk _).trans hk2⟩
  exact go N fuel a0 a1 (Nat.le_refl _) hf (by rw [Nat.sub_self]; exact h0)
theorem kI_l3 {A0 A1 A2 β : Type} {S : (A0 → A1 → A2 → Option β) → A0 → A1 → A2 → Option β} (Inv : Nat → A0 → A1 → A2 → Prop) (Post : Option β → Prop) (N fuel : Nat) (hstep : ∀ (k : Nat) a0 a1 a2, k < N → Inv k a0 a1 a2 → ∃ b0 b1 b2, Inv (k + 1) b0 b1 b2 ∧ ∀ K : A0 → A1 → A2 → Option β, S K a0 a1 a2 = K b0 b1 b2) (hend : ∀ a0 a1 a2, Inv N a0 a1 a2 → ∃ r, Post r ∧ ∀ K : A0 → A1 → A2 → Option β, S K a0 a1 a2 = r) (hf : N < fuel) (a0 : A0) (a1 : A1) (a2 : A2) (h0 : Inv 0 a0 a1 a2) : ∃ r, Post r ∧ k_l3 S fuel a0 a1 a2 = r := by
  have go : ∀ (d fu : Nat) (a0 : A0) (a1 : A1) (a2 : A2), d ≤ N → d < fu → Inv (N - d) a0 a1 a2 → ∃ r, Post r ∧ k_l3 S fu a0 a1 a2 = r := by
    intro d
    induction d with
    | zero =>
      intro fu a0 a1 a2 _ hfu hi
      obtain ⟨fu, rfl⟩ : ∃ x, fu = x + 1 := ⟨fu - 1, by omega⟩
      rw [Nat.sub_zero] at hi
      obtain ⟨r, hr, hk⟩ := hend a0 a1 a2 hi
      exact ⟨r, hr, hk _⟩
    | succ d ih =>
      intro fu a0 a1 a2 hd hfu hi
      obtain ⟨fu, rfl⟩ : ∃ x, fu = x + 1 := ⟨fu - 1, by omega⟩
      obtain ⟨b0, b1, b2, hb, hk⟩ := hstep (N - (d + 1)) a0 a1 a2 (by omega) hi
      rw [show N - (d + 1) + 1 = N - d by omega] at hb
      obtain ⟨r, hr, hk2⟩ := ih fu b0 b1 b2 (by omega) (by omega) hb
      exact ⟨r, hr, (hk _).trans hk2⟩
  exact go N fuel a0 a1 a2 (Nat.le_refl _) hf (by rw [Nat.sub_self]; exact h0)
theorem kI_l4 {A0 A1 A2 A3 β : Type} {S : (A0 → A1 → A2 → A3 → Option β) → A0 → A1 → A2 → A3 → Option β} (Inv : Nat → A0 → A1 → A2 → A3 → Prop) (Post : Option β → Prop) (N fuel : Nat) (hstep : ∀ (k : Nat) a0 a1 a2 a3, k < N → Inv k a0 a1 a2 a3 → ∃ b0 b1 b2 b3, Inv (k + 1) b0 b1 b2 b3 ∧ ∀ K : A0 → A1 → A2 → A3 → Option β, S K a0 a1 a2 a3 = K b0 b1 b2 b3) (hend : ∀ a0 a1 a2 a3, Inv N a0 a1 a2 a3 → ∃ r, Post r ∧ ∀ K : A0 → A1 → A2 → A3 → Option β, S K a0 a1 a2 a3 = r) (hf : N < fuel) (a0 : A0) (a1 : A1) (a2 : A2) (a3 : A3) (h0 : Inv 0 a0 a1 a2 a3) : ∃ r, Post r ∧ k_l4 S fuel a0 a1 a2 a3 = r := by
  have go : ∀ (d fu : Nat) (a0 : A0) (a1 : A1) (a2 : A2) (a3 : A3), d ≤ N → d < fu → Inv (N - d) a0 a1 a2 a3 → ∃ r, Post r ∧ k_l4 S fu a0 a1 a2 a3 = r := by
    intro d
    induction d with
    | zero =>
      intro fu a0 a1 a2 a3 _ hfu hi
      obtain ⟨fu, rfl⟩ : ∃ x, fu = x + 1 := ⟨fu - 1, by omega⟩
      rw [Nat.sub_zero] at hi
      obtain ⟨r, hr, hk⟩ := hend a0 a1 a2 a3 hi
      exact ⟨r, hr, hk _⟩
    | succ d ih =>
      intro fu a0 a1 a2 a3 hd hfu hi
      obtain ⟨fu, rfl⟩ : ∃ x, fu = x + 1 := ⟨fu - 1, by omega⟩
      obtain ⟨b0, b1, b2, b3, hb, hk⟩ := hstep (N - (d + 1)) a0 a1 a2 a3 (by omega) hi
      rw [show N - (d + 1) + 1 = N - d by omega] at hb
      obtain ⟨r, hr, hk2⟩ := ih fu b0 b1 b2 b3 (by omega) (by omega) hb
      exact ⟨r, hr, (hk _).trans hk2⟩
  exact go N fuel a0 a1 a2 a3 (Nat.le_refl _) hf (by rw [Nat.sub_self]; exact h0)
theorem kI_l5 {A0 A1 A2 A3 A4 β : Type} {S : (A0 → A1 → A2 → A3 → A4 → Option β) → A0 → A1 → A2 → A3 → A4 → Option β} (Inv : Nat → A0 → A1 → A2 → A3 → A4 → Prop) (Post : Option β → Prop) (N fuel : Nat) (hstep : ∀ (k : Nat) a0 a1 a2 a3 a4, k < N → Inv k a0 a1 a2 a3 a4 → ∃ b0 b1 b2 b3 b4, Inv (k + 1) b0 b1 b2 b3 b4 ∧ ∀ K : A0 → A1 → A2 → A3 → A4 → Option β, S K a0 a1 a2 a3 a4 = K b0 b1 b2 b3 b4) (hend : ∀ a0 a1 a2 a3 a4, Inv N a0 a1 a2 a3 a4 → ∃ r, Post r ∧ ∀ K : A0 → A1 → A2 → A3 → A4 → Option β, S K a0 a1 a2 a3 a4 = r) (hf : N < fuel) (a0 : A0) (a1 : A1) (a2 : A2) (a3 : A3) (a4 : A4) (h0 : Inv 0 a0 a1 a2 a3 a4) : ∃ r, Post r ∧ k_l5 S fuel a0 a1 a2 a3 a4 = r := by
  have go : ∀ (d fu : Nat) (a0 : A0) (a1 : A1) (a2 : A2) (a3 : A3) (a4 : A4), d ≤ N → d < fu → Inv (N - d) a0 a1 a2 a3 a4 → ∃ r, Post r ∧ k_l5 S fu a0 a1 a2 a3 a4 = r := by
    intro d
    induction d with
    | zero =>
      intro fu a0 a1 a2 a3 a4 _ hfu hi
      obtain ⟨fu, rfl⟩ : ∃ x, fu = x + 1 := ⟨fu - 1, by omega⟩
      rw [Nat.sub_zero] at hi
      obtain ⟨r, hr, hk⟩ := hend a0 a1 a2 a3 a4 hi
      exact ⟨r, hr, hk _⟩
    | succ d ih =>
      intro fu a0 a1 a2 a3 a4 hd hfu hi
      obtain ⟨fu, rfl⟩ : ∃ x, fu = x + 1 := ⟨fu - 1, by omega⟩
      obtain ⟨b0, b1, b2, b3, b4, hb, hk⟩ := hstep (N - (d + 1)) a0 a1 a2 a3 a4 (by omega) hi
      rw [show N - (d + 1) + 1 = N - d by omega] at hb
      obtain ⟨r, hr, hk2⟩ := ih fu b0 b1 b2 b3 b4 (by omega) (by omega) hb
      exact ⟨r, hr, (hk _).trans hk2⟩
  exact go N fuel a0 a1 a2 a3 a4 (Nat.le_refl _) hf (by rw [Nat.sub_self]; exact h0)
def upG (g : Nat → Nat → Nat) (r f v : Nat) : Nat → Nat → Nat := fun r' f' => if r' = r ∧ f' = f then v else g r' f'
def blG (g : Nat → Nat → Nat) (r f c : Nat) : Nat → Nat → Nat := upG g r f (max (g r f) c)
def blP (g : Nat → Nat → Nat) (r : Nat) (P : Nat → Bool) (C : Nat → Nat) (n : Nat) : Nat → Nat → Nat := fun r' f' => if r' = r ∧ f' < n ∧ P f' = true then max (g r' f') (C f') else g r' f'
def enS (P : Nat → Bool) (C : Nat → Nat) (en : Int32) : Nat → Int32
  | 0 => en
  | n + 1 => if P n = true then enS P C en n + nI (C n) else enS P C en n
theorem upd_z {z : Nat → Int32} {k j : Nat} {x : Int32} : upd z k x j = if j = k then x else z j := by
  by_cases h : j = k
  · rw [if_pos h, h, pk_us]
  · rw [if_neg h, pk_un h]
theorem blP_0 (g : Nat → Nat → Nat) (r : Nat) (P : Nat → Bool) (C : Nat → Nat) : blP g r P C 0 = g := by
  funext r' f'
  unfold blP
  rw [if_neg (by omega)]
theorem blP_s (g : Nat → Nat → Nat) (r : Nat) (P : Nat → Bool) (C : Nat → Nat) (n : Nat) : blP g r P C (n + 1) = if P n = true then blG (blP g r P C n) r n (C n) else blP g r P C n := by
  by_cases h : P n = true
  · rw [if_pos h]
    funext r' f'
    unfold blG upG blP
    by_cases hr : r' = r
    · subst hr
      by_cases hf : f' = n
      · subst hf
        rw [if_pos ⟨rfl, by omega, h⟩, if_pos ⟨rfl, rfl⟩, if_neg (by omega)]
      · rw [if_neg (show ¬ (r' = r' ∧ f' = n) from fun q => hf q.2)]
        by_cases hq : f' < n ∧ P f' = true
        · rw [if_pos ⟨rfl, by omega, hq.2⟩, if_pos ⟨rfl, hq⟩]
        · rw [if_neg (fun q => hq ⟨by omega, q.2.2⟩), if_neg (fun q => hq q.2)]
    · rw [if_neg (fun q => hr q.1), if_neg (fun q => hr q.1), if_neg (fun q => hr q.1)]
  · rw [if_neg h]
    funext r' f'
    unfold blP
    by_cases hq : r' = r ∧ f' < n ∧ P f' = true
    · rw [if_pos hq, if_pos ⟨hq.1, by omega, hq.2.2⟩]
    · rw [if_neg hq, if_neg]
      rintro ⟨a, b, c⟩
      by_cases e : f' = n
      · subst e; exact h c
      · exact hq ⟨a, by omega, c⟩
theorem upG_le {g : Nat → Nat → Nat} (hg : ∀ r f, g r f ≤ 3) {r f v : Nat} (hv : v ≤ 3) : ∀ r' f', upG g r f v r' f' ≤ 3 := by
  intro r' f'
  unfold upG
  split
  · exact hv
  · exact hg _ _
theorem blG_le {g : Nat → Nat → Nat} (hg : ∀ r f, g r f ≤ 3) {r f c : Nat} (hc : c ≤ 3) : ∀ r' f', blG g r f c r' f' ≤ 3 := upG_le hg (by have := hg r f; omega)
theorem blP_le {g : Nat → Nat → Nat} (hg : ∀ r f, g r f ≤ 3) {r : Nat} {P : Nat → Bool} {C : Nat → Nat} (hc : ∀ f, P f = true → C f ≤ 3) (n : Nat) : ∀ r' f', blP g r P C n r' f' ≤ 3 := by
  intro r' f'
  unfold blP
  have := hg r' f'
  split
  · rename_i h
    have := hc f' h.2.2
    omega
  · exact this
section CZ
variable {g : Nat → Nat → Nat} {tk : Nat} {en pu : Int32} {se : Nat → Nat} {z : Nat → Int32}
def upS (se : Nat → Nat) (k v : Nat) : Nat → Nat := fun j => if j = k then v else se j
/-- one pass over a row: the fuses of P are blown, each with its charge -/
theorem enS_0 (P : Nat → Bool) (C : Nat → Nat) (e : Int32) : enS P C e 0 = e := rfl
theorem enS_s (P : Nat → Bool) (C : Nat → Nat) (e : Int32) (n : Nat) : enS P C e (n + 1) = if P n = true then enS P C e n + nI (C n) else enS P C e n := rfl
theorem blP_row (g : Nat → Nat → Nat) (r : Nat) (P : Nat → Bool) (C : Nat → Nat) (n f : Nat) (h : n ≤ f) : blP g r P C n r f = g r f := by
  unfold blP
  rw [if_neg (by omega)]
theorem blP_other (g : Nat → Nat → Nat) (r : Nat) (P : Nat → Bool) (C : Nat → Nat) (n r' : Nat) (h : r' ≠ r) : blP g r P C n r' = g r' := by
  funext f
  unfold blP
  rw [if_neg (fun q => h q.1)]
end CZ
/-- one bit of a mask is set as told -/
def setB (m f b : Nat) : Nat := (m &&& (2 ^ f ^^^ 4294967295)) ||| (b * 2 ^ f)
theorem setB_lt {m f b : Nat} (hm : m < 65536) (hf : f < 16) (hb : b ≤ 1) : setB m f b < 65536 := by
  refine Nat.or_lt_two_pow (n := 16) (Nat.lt_of_le_of_lt Nat.and_le_left hm) ?_
  have h1 : 2 ^ f < 2 ^ 16 := Nat.pow_lt_pow_right (by decide) hf
  have : b * 2 ^ f ≤ 1 * 2 ^ f := Nat.mul_le_mul_right _ hb
  omega
theorem not_bit {x j : Nat} (hj : j < 32) : (x ^^^ 4294967295).testBit j = !x.testBit j := by
  rw [Nat.testBit_xor, show (4294967295 : Nat) = 2 ^ 32 - 1 by rfl, Nat.testBit_two_pow_sub_one]
  simp [hj]
theorem setB_bit {m f b j : Nat} (hj : j < 16) (hb : b ≤ 1) : (setB m f b).testBit j = if j = f then decide (b = 1) else m.testBit j := by
  unfold setB
  rw [Nat.testBit_or, Nat.testBit_and, not_bit (by omega), Nat.testBit_two_pow]
  have hb2 : b = 0 ∨ b = 1 := by omega
  by_cases h : j = f
  · subst h
    rcases hb2 with rfl | rfl
    · simp
    · simp
  · have h2 : ¬ f = j := fun q => h q.symm
    rcases hb2 with rfl | rfl
    · simp [h, h2]
    · rw [Nat.one_mul, Nat.testBit_two_pow]; simp [h, h2]
section CC
variable {g : Nat → Nat → Nat} {o t : Nat → Int32} {ey : Int32}
theorem omN_set {g g' : Nat → Nat} {f v : Nat} (hf : f < 16) (h : ∀ j, j < 16 → g' j = if j = f then v else g j) : setB (omN g) f (v % 2) = omN g' := by
  refine bm_ext (n := 16) (setB_lt (omN_lt _) hf (by omega)) (omN_lt _) (fun j hj => ?_)
  rw [setB_bit hj (by omega), omN_bit _ hj, omN_bit _ hj, h j hj]
  by_cases e : j = f
  · rw [if_pos e, if_pos e]
  · rw [if_neg e, if_neg e]
theorem tmN_set {g g' : Nat → Nat} {f v : Nat} (hf : f < 16) (hv : v ≤ 3) (h : ∀ j, j < 16 → g' j = if j = f then v else g j) : setB (tmN g) f (v / 2) = tmN g' := by
  refine bm_ext (n := 16) (setB_lt (tmN_lt _) hf (by omega)) (tmN_lt _) (fun j hj => ?_)
  rw [setB_bit hj (by omega), tmN_bit _ hj, tmN_bit _ hj, h j hj]
  by_cases e : j = f
  · rw [if_pos e, if_pos e]; apply decide_eq_decide.mpr; omega
  · rw [if_neg e, if_neg e]
theorem nI_notm (a : Nat) : nI a ^^^ m1 = nI (a ^^^ 4294967295) := nI_not a
theorem nI_max (a b : Nat) (ha : a < 2 ^ 31) (hb : b < 2 ^ 31) : (if nI a < nI b then nI b else nI a) = nI (max a b) := by
  rw [show (if nI a < nI b then nI b else nI a) = if a < b then nI b else nI a by simp only [nI_ltI ha hb]]
  by_cases h : a < b
  · rw [if_pos h, Nat.max_eq_right (by omega)]
  · rw [if_neg h, Nat.max_eq_left (by omega)]
theorem nI_lt1 (b f : Nat) (hf : f < 16) (hb : b ≤ 1) : nI b <<< nI f = nI (b * 2 ^ f) := by
  refine nI_shl (by omega) ?_
  have h1 : 2 ^ f < 2 ^ 16 := Nat.pow_lt_pow_right (by decide) hf
  have : b * 2 ^ f ≤ 1 * 2 ^ f := Nat.mul_le_mul_right _ hb
  omega
theorem pX3_blowFuse (hg : ∀ r f, g r f ≤ 3) (hC : RC g o t) {r f c : Nat} (hr : r < 20) (hf : f < 16) (hc : c ≤ 3) : ∃ o' t', fX3_blowFuse o t ey (nI r) (nI f) (nI c) = some (o', t', ey + nI c) ∧ RC (blG g r f c) o' t' := by
  have h3 := hg r f
  have hv : max (g r f) c ≤ 3 := by omega
  unfold fX3_blowFuse
  simp (disch := omega) only [pX3_strength hg hC hr hf, ↓LM1, kE_let, kE_b1, nI_max, kE_ck, nI_clamp, (hC r hr).1, (hC r hr).2]
  refine ⟨_, _, rfl, ?_⟩
  intro r' hr'
  rw [upd_z, upd_z]
  by_cases h : r' = r
  · subst h
    rw [if_pos rfl, if_pos rfl]
    simp (disch := omega) only [L1, L31, nI_31, nI_a1, nI_lt1, nI_shr, Nat.one_mul, nI_notm]
    simp only [nI_and, nI_or]
    rw [show (2 : Nat) ^ 1 = 2 by rfl]
    refine ⟨?_, ?_⟩
    · exact congrArg nI (omN_set (g := g r') (g' := blG g r' f c r') (v := max (g r' f) c) hf (fun j hj => by unfold blG upG; by_cases e : j = f <;> simp [e]))
    · exact congrArg nI (tmN_set (g := g r') (g' := blG g r' f c r') (v := max (g r' f) c) hf hv (fun j hj => by unfold blG upG; by_cases e : j = f <;> simp [e]))
  · rw [if_neg h, if_neg h]
    have := hC r' hr'
    rw [show blG g r f c r' = g r' by funext j; unfold blG upG; rw [if_neg (fun q => h q.1)]]
    exact this
end CC
