/-! heat, refreshing, copies, saved states, by the model -/
def htB (g : Nat → Nat → Nat) (d r f : Nat) : Bool := decide ((g r f = 1 ∧ 3 ≤ d) ∨ (g r f = 2 ∧ 6 ≤ d))
def htG (g : Nat → Nat → Nat) (d : Nat) : Nat → Nat → Nat := fun r f => if htB g d r f = true then g r f - 1 else g r f
def htL (g : Nat → Nat → Nat) (d n : Nat) : Nat → Nat → Nat := fun r f => if 16 * r + f < n ∧ f < 16 ∧ htB g d r f = true then g r f - 1 else g r f
theorem htL_le {g : Nat → Nat → Nat} (hg : ∀ r f, g r f ≤ 3) (d n : Nat) : ∀ r f, htL g d n r f ≤ 3 := by
  intro r f
  unfold htL
  have := hg r f
  split <;> omega
theorem htG_le {g : Nat → Nat → Nat} (hg : ∀ r f, g r f ≤ 3) (d : Nat) : ∀ r f, htG g d r f ≤ 3 := by
  intro r f
  unfold htG
  have := hg r f
  split <;> omega
def rfP (g : Nat → Nat → Nat) (r f : Nat) : Bool := decide (2 ≤ g r f)
theorem cnt_grid (H : Nat → Nat → Bool) (n : Nat) : cnt (fun j => H (j / 16) (j % 16)) (16 * n) = sumN (fun r => cnt (H r) 16) n := by
  induction n with
  | zero => rfl
  | succ n ih =>
    rw [Nat.mul_succ, cnt_add, ih]
    show sumN (fun r => cnt (H r) 16) n + _ = sumN (fun r => cnt (H r) 16) n + cnt (H n) 16
    congr 1
    refine cnt_congr (fun j hj => ?_)
    rw [show (16 * n + j) / 16 = n by omega, show (16 * n + j) % 16 = j by omega]
theorem n10 : ¬ nI 1 = nI 0 := by decide
section HZ
variable {g : Nat → Nat → Nat} {tk : Nat} {en pu : Int32} {se : Nat → Nat} {z : Nat → Int32}
end HZ
