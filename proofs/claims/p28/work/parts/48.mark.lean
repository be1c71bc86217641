/-! marks; a put as a whole, by the model -/
def mkP (g : Nat → Nat → Nat) (tk : Nat) (th : Bool) (but : Int32) (k r : Nat) : Bool := decide (¬ nI r = but ∧ entB g tk th k r = true ∧ ¬ 2 ≤ g r 15)
def mkG (g : Nat → Nat → Nat) (M : Nat → Bool) (c n : Nat) : Nat → Nat → Nat := fun r' f' => if r' < n ∧ f' = 14 ∧ M r' = true then max (g r' f') c else g r' f'
def mk1 (w : (Nat → Nat → Nat) × Int32 × Nat) (tk : Nat) (se : Nat → Nat) (r k : Nat) : (Nat → Nat → Nat) × Int32 × Nat := if se 3 = 1 then (mkG w.1 (mkP w.1 tk (decide (se 0 = 1)) (nI r) k) (se 1) 20, enS (mkP w.1 tk (decide (se 0 = 1)) (nI r) k) (fun _ => se 1) w.2.1 20, cnt (mkP w.1 tk (decide (se 0 = 1)) (nI r) k) 20) else (w.1, w.2.1, 0)
theorem mkG_0 (g : Nat → Nat → Nat) (M : Nat → Bool) (c : Nat) : mkG g M c 0 = g := by
  funext r' f'
  unfold mkG
  rw [if_neg (by omega)]
theorem mkG_s (g : Nat → Nat → Nat) (M : Nat → Bool) (c n : Nat) : mkG g M c (n + 1) = if M n = true then blG (mkG g M c n) n 14 c else mkG g M c n := by
  by_cases h : M n = true
  · rw [if_pos h]
    funext r' f'
    unfold blG upG mkG
    by_cases hr : r' = n
    · subst hr
      by_cases hf : f' = 14
      · subst hf
        rw [if_pos ⟨by omega, rfl, h⟩, if_pos ⟨rfl, rfl⟩, if_neg (by omega)]
      · rw [if_neg (fun q => hf q.2.1), if_neg (fun q => hf q.2), if_neg (fun q => hf q.2.1)]
    · rw [if_neg (show ¬ (r' = n ∧ f' = 14) from fun q => hr q.1)]
      by_cases hq : r' < n ∧ f' = 14 ∧ M r' = true
      · rw [if_pos ⟨by omega, hq.2⟩, if_pos hq]
      · rw [if_neg (fun q => hq ⟨by omega, q.2⟩), if_neg hq]
  · rw [if_neg h]
    funext r' f'
    unfold mkG
    by_cases hq : r' < n ∧ f' = 14 ∧ M r' = true
    · rw [if_pos hq, if_pos ⟨by omega, hq.2⟩]
    · rw [if_neg hq, if_neg]
      rintro ⟨a, b, c⟩
      by_cases e : r' = n
      · subst e; exact h c
      · exact hq ⟨by omega, b, c⟩
theorem mkG_le {g : Nat → Nat → Nat} (hg : ∀ r f, g r f ≤ 3) {M : Nat → Bool} {c : Nat} (hc : c ≤ 3) (n : Nat) : ∀ r' f', mkG g M c n r' f' ≤ 3 := by
  intro r' f'
  unfold mkG
  have := hg r' f'
  split <;> omega
theorem mkG_row (g : Nat → Nat → Nat) (M : Nat → Bool) (c n r : Nat) (h : n ≤ r) : mkG g M c n r = g r := by
  funext f
  unfold mkG
  rw [if_neg (by omega)]
theorem mkN_row {g g' : Nat → Nat → Nat} {r : Nat} (h : g' r = g r) (tk : Nat) (th : Bool) : mkN g' tk th r = mkN g tk th r := by unfold mkN; rw [h]
section MZ
variable {g : Nat → Nat → Nat} {tk : Nat} {en pu : Int32} {se : Nat → Nat} {z : Nat → Int32}
theorem nI_1shl {i : Nat} (h : i < 31) : nI 1 <<< nI i = nI (2 ^ i) := by
  have h1 : 2 ^ i < 2 ^ 32 := Nat.pow_lt_pow_right (by decide) (by omega)
  rw [nI_shl (by omega) (by omega), Nat.one_mul]
end MZ
