/-! passes over a row, entries written, marks -/
def PW (g : Nat → Nat → Nat) (tk : Nat) (th : Bool) (r W tries : Nat) (f : Nat) : Bool := W.testBit f && (decide (tries = 0) || !rdB (g r) r tk th f)
def CW (g : Nat → Nat → Nat) (se : Nat → Nat) (r tries : Nat) (f : Nat) : Nat := if tries = 0 then se 1 else g r f + 1
def tellB (g : Nat → Nat → Nat) (tk : Nat) (th : Bool) (r k v : Nat) : Bool := decide (kd (mkN g tk th r) = 4 ∧ ky (mkN g tk th r) = k ∧ vl (mkN g tk th r) = v)
def wnt (k v : Nat) : Nat := (k ||| v * 16) ||| (zer (k ||| v * 16) * 1024)
def wrS (tk : Nat) (se : Nat → Nat) (r W k v : Nat) : Nat → (Nat → Nat → Nat) × Int32 × Nat → (Nat → Nat → Nat) × Int32 × Nat
  | 0, s => s
  | n + 1, s => if s.2.2 < se 2 ∧ ¬ tellB s.1 tk (decide (se 0 = 1)) r k v = true then wrS tk se r W k v n (blP s.1 r (PW s.1 tk (decide (se 0 = 1)) r W 1) (CW s.1 se r 1) 16, enS (PW s.1 tk (decide (se 0 = 1)) r W 1) (CW s.1 se r 1) s.2.1 16, s.2.2 + 1) else s
def wr1 (g : Nat → Nat → Nat) (tk : Nat) (se : Nat → Nat) (r W : Nat) (en : Int32) : (Nat → Nat → Nat) × Int32 × Nat := (blP g r (PW g tk (decide (se 0 = 1)) r W 0) (CW g se r 0) 16, enS (PW g tk (decide (se 0 = 1)) r W 0) (CW g se r 0) en 16, 1)
def wrN (g : Nat → Nat → Nat) (tk : Nat) (se : Nat → Nat) (r k v : Nat) (en : Int32) : (Nat → Nat → Nat) × Int32 × Nat := wrS tk se r (wnt k v) k v 2 (wr1 g tk se r (wnt k v) en)
theorem CW_le {g : Nat → Nat → Nat} {tk : Nat} {se : Nat → Nat} {th : Bool} {r W tries : Nat} (hg : ∀ r f, g r f ≤ 3) (hs : se 1 ≤ 3) : ∀ f, PW g tk th r W tries f = true → CW g se r tries f ≤ 3 := by
  intro f h
  unfold CW
  by_cases ht : tries = 0
  · rw [if_pos ht]; exact hs
  · rw [if_neg ht]
    unfold PW rdB at h
    have h3 := hg r f
    simp [ht] at h
    have h2 := h.2
    cases th
    · simp at h2; omega
    · simp at h2; omega
theorem wnt_lt {k v : Nat} (hk : k < 16) (hv : v < 64) : wnt k v < 16384 := by
  have a : k ||| v * 16 < 2 ^ 10 := Nat.or_lt_two_pow (by omega) (by omega)
  have z := zer_le (k ||| v * 16)
  exact Nat.or_lt_two_pow (n := 14) (by omega) (by omega)
section PZ2
variable {g : Nat → Nat → Nat} {tk : Nat} {en pu : Int32} {se : Nat → Nat} {z : Nat → Int32}
theorem n01 : ¬ nI 0 = nI 1 := by decide
theorem WF.wG (hw : WF g tk se) {g' : Nat → Nat → Nat} (h : ∀ r f, g' r f ≤ 3) : WF g' tk se := ⟨h, hw.2⟩
theorem wrS_le {tk : Nat} {se : Nat → Nat} {r W k v : Nat} (hs : se 1 ≤ 3) (n : Nat) : ∀ s : (Nat → Nat → Nat) × Int32 × Nat, (∀ r f, s.1 r f ≤ 3) → (∀ r' f', (wrS tk se r W k v n s).1 r' f' ≤ 3) ∧ (wrS tk se r W k v n s).2.2 ≤ s.2.2 + n := by
  induction n with
  | zero => exact fun s h => ⟨h, Nat.le_refl _⟩
  | succ n ih =>
    intro s h
    rw [wrS]
    by_cases hc : s.2.2 < se 2 ∧ ¬ tellB s.1 tk (decide (se 0 = 1)) r k v = true
    · rw [if_pos hc]
      have := ih (blP s.1 r (PW s.1 tk (decide (se 0 = 1)) r W 1) (CW s.1 se r 1) 16, enS (PW s.1 tk (decide (se 0 = 1)) r W 1) (CW s.1 se r 1) s.2.1 16, s.2.2 + 1) (blP_le h (CW_le h hs) 16)
      exact ⟨this.1, Nat.le_trans this.2 (by show s.2.2 + 1 + n ≤ _; omega)⟩
    · rw [if_neg hc]
      exact ⟨h, by omega⟩
end PZ2
