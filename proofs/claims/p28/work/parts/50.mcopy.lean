/-! copies, saved states, what would be, by the model -/
abbrev ST : Type := (Nat → Nat → Nat) × Nat × Int32 × Int32 × (Nat → Nat)
def WFs (s : ST) : Prop := WF s.1 s.2.1 s.2.2.2.2
def cpN (A B : Nat → Int32) (b n : Nat) : Nat → Int32 := fun k => if b ≤ k ∧ k < b + n then A (k - b) else B k
theorem cpN_s (A B : Nat → Int32) (b i : Nat) : upd (cpN A B b i) (b + i) (A i) = cpN A B b (i + 1) := by
  funext k
  rw [upd_z]
  unfold cpN
  by_cases h : k = b + i
  · rw [if_pos h, if_pos ⟨by omega, by omega⟩, show k - b = i by omega]
  · rw [if_neg h]
    by_cases h2 : b ≤ k ∧ k < b + i
    · rw [if_pos h2, if_pos ⟨h2.1, by omega⟩]
    · rw [if_neg h2, if_neg (fun q => h2 ⟨q.1, by omega⟩)]
theorem cpN_0 (A B : Nat → Int32) (b : Nat) : cpN A B b 0 = B := by
  funext k
  unfold cpN
  rw [if_neg (by omega)]
def shN (s0 : Nat → Int32) (n : Nat) : Nat → Int32 := fun k => if k < n then s0 (k + 327) else s0 k
theorem shN_s (s0 : Nat → Int32) (i : Nat) : upd (shN s0 i) i (s0 (i + 327)) = shN s0 (i + 1) := by
  funext k
  rw [upd_z]
  unfold shN
  by_cases h : k = i
  · rw [if_pos h, if_pos (by omega), h]
  · rw [if_neg h]
    by_cases h2 : k < i
    · rw [if_pos h2, if_pos (by omega)]
    · rw [if_neg h2, if_neg (by omega)]
def saveF (S : Nat → ST) (m : Nat) (s : ST) : Nat → ST := if m = 6 then fun j => if j < 5 then S (j + 1) else s else fun j => if j = m then s else S j
def saveM (m : Nat) : Nat := if m = 6 then 6 else m + 1
theorem saveM_le {m : Nat} (h : m ≤ 6) : saveM m ≤ 6 := by unfold saveM; split <;> omega
section SZ
variable {g : Nat → Nat → Nat} {tk : Nat} {en pu : Int32} {se : Nat → Nat} {z : Nat → Int32}
theorem nextN_or (g : Nat → Nat → Nat) (tk : Nat) (th : Bool) : nextN g tk th = m1 ∨ (nxtN (mkN g tk th) 20 < 20 ∧ ¬ 2 ≤ g (nxtN (mkN g tk th) 20) 15 ∧ nextN g tk th = nI (nxtN (mkN g tk th) 20)) := by
  unfold nextN
  by_cases h : nxtN (mkN g tk th) 20 = 20 ∨ 2 ≤ g (nxtN (mkN g tk th) 20) 15
  · rw [if_pos h]; exact Or.inl rfl
  · rw [if_neg h]
    have := nxtN_le (mkN g tk th) 20
    exact Or.inr ⟨by omega, fun q => h (Or.inr q), rfl⟩
def wpW (g : Nat → Nat → Nat) (tk : Nat) (en : Int32) (se : Nat → Nat) (k v : Nat) : (Nat → Nat → Nat) × Int32 × Nat := wrN g tk se (nxtN (mkN g tk (decide (se 0 = 1))) 20) k v en
def wpM (g : Nat → Nat → Nat) (tk : Nat) (en : Int32) (se : Nat → Nat) (k v : Nat) : (Nat → Nat → Nat) × Int32 × Nat := mk1 (wpW g tk en se k v) tk se (nxtN (mkN g tk (decide (se 0 = 1))) 20) k
def wpN (g : Nat → Nat → Nat) (tk : Nat) (en : Int32) (se : Nat → Nat) (k v what : Nat) : Int32 := if nextN g tk (decide (se 0 = 1)) = m1 then m1 else
  if what = 0 then nI (wpW g tk en se k v).2.2 else if what = 1 then nI (kd (mkN (wpM g tk en se k v).1 tk (decide (se 0 = 1)) (nxtN (mkN g tk (decide (se 0 = 1))) 20))) else if what = 2 then (wpM g tk en se k v).2.1 - en else if what = 3 then valN (wpM g tk en se k v).1 tk (decide (se 0 = 1)) k else nI (wpM g tk en se k v).2.2
theorem wrN_le {g : Nat → Nat → Nat} {tk : Nat} {se : Nat → Nat} (hw : WF g tk se) (r k v : Nat) (en : Int32) : (∀ r' f', (wrN g tk se r k v en).1 r' f' ≤ 3) ∧ (wrN g tk se r k v en).2.2 ≤ 3 :=
  wrS_le (tk := tk) (se := se) (r := r) (W := wnt k v) (k := k) (v := v) hw.2.2.2.2.1 2 (wr1 g tk se r (wnt k v) en) (blP_le hw.1 (CW_le (tk := tk) (th := decide (se 0 = 1)) (r := r) (W := wnt k v) (tries := 0) hw.1 hw.2.2.2.2.1) 16)
theorem mk1_le {w : (Nat → Nat → Nat) × Int32 × Nat} {tk : Nat} {se : Nat → Nat} (hg : ∀ r f, w.1 r f ≤ 3) (hs : se 1 ≤ 3) (r k : Nat) : ∀ r' f', (mk1 w tk se r k).1 r' f' ≤ 3 := by
  unfold mk1
  split
  · exact mkG_le hg hs 20
  · exact hg
def whN (g : Nat → Nat → Nat) (tk : Nat) (se : Nat → Nat) (d what : Nat) : Int32 := if what = 0 then nI (sumN (fun r => cnt (htB g d r) 16) 20) else if what = 1 then nI (cnt (fun r => decide (kd (mkN g tk (decide (se 0 = 1)) r) ≠ kd (mkN (htG g d) tk (decide (se 0 = 1)) r))) 20) else nI (cnt (fun k => decide (valN g tk (decide (se 0 = 1)) k ≠ valN (htG g d) tk (decide (se 0 = 1)) k)) 16)
end SZ
