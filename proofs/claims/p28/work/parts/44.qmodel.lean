/-! what the looks answer, and that the model answers so -/
def lastV (P : Nat → Bool) (V : Nat → Int32) : Nat → Int32
  | 0 => m1
  | n + 1 => if P n then V n else lastV P V n
def entB (g : Nat → Nat → Nat) (t : Nat) (th : Bool) (k r : Nat) : Bool := decide (kd (mkN g t th r) = 4 ∧ ky (mkN g t th r) = k)
def rofB (g : Nat → Nat → Nat) (t : Nat) (th : Bool) (k r : Nat) : Bool := decide (ky (mkN g t th r) = k ∧ (kd (mkN g t th r) = 4 ∨ kd (mkN g t th r) = 2))
def vlV (g : Nat → Nat → Nat) (t : Nat) (th : Bool) (r : Nat) : Int32 := nI (vl (mkN g t th r))
def rowN (g : Nat → Nat → Nat) (t : Nat) (th : Bool) (k : Nat) : Int32 := lastV (entB g t th k) nI 20
def valN (g : Nat → Nat → Nat) (t : Nat) (th : Bool) (k : Nat) : Int32 := lastV (entB g t th k) (vlV g t th) 20
def nxtN (m : Nat → Nat) : Nat → Nat
  | 0 => 0
  | n + 1 => if m n = 0 then nxtN m n else n + 1
def nextN (g : Nat → Nat → Nat) (tk : Nat) (th : Bool) : Int32 := if nxtN (mkN g tk th) 20 = 20 ∨ 2 ≤ g (nxtN (mkN g tk th) 20) 15 then m1 else nI (nxtN (mkN g tk th) 20)
def maxN (P : Nat → Bool) (V : Nat → Int32) : Nat → Int32
  | 0 => m1
  | n + 1 => if P n ∧ maxN P V n < V n then V n else maxN P V n
def earN (P : Nat → Bool) (V : Nat → Int32) : Nat → Int32 → Int32
  | 0, _ => m1
  | n + 1, a => if P n then (if a = 0 then V n else earN P V n (a + m1)) else earN P V n a
def sumN (F : Nat → Nat) : Nat → Nat
  | 0 => 0
  | n + 1 => sumN F n + F n
def dbtN (g : Nat → Nat) : Nat := cnt (fun f => decide (g f = 1 ∨ g f = 2)) 16
def wrsN (D : Nat → Nat) : Nat → Int32 × Nat
  | 0 => (m1, 0)
  | n + 1 => if (wrsN D n).2 < D n then (nI n, D n) else wrsN D n
def wrsD (g : Nat → Nat → Nat) (tk : Nat) (th : Bool) (r : Nat) : Nat := if kd (mkN g tk th r) = 4 ∧ ¬ 2 ≤ g r 15 then dbtN (g r) else 0
theorem kd_le (m : Nat) : kd m ≤ 4 := by unfold kd; repeat (first | omega | split)
theorem ky_lt (m : Nat) : ky m < 16 := Nat.mod_lt _ (by decide)
theorem vl_lt (m : Nat) : vl m < 64 := Nat.mod_lt _ (by decide)
theorem zer_le (m : Nat) : zer m ≤ 10 := Nat.sub_le _ _
theorem nI_kdE {m c : Nat} (hc : c < 2 ^ 31) : (nI (kd m) = nI c) = (kd m = c) := propext (nI_eq (by have := kd_le m; omega) hc)
theorem nI_kyE {m c : Nat} (hc : c < 2 ^ 31) : (nI (ky m) = nI c) = (ky m = c) := propext (nI_eq (by have := ky_lt m; omega) hc)
theorem sumN_le (F : Nat → Nat) {b : Nat} (h : ∀ i, F i ≤ b) (n : Nat) : sumN F n ≤ n * b := by
  induction n with
  | zero => exact Nat.zero_le _
  | succ n ih => unfold sumN; have := h n; rw [Nat.succ_mul]; omega
theorem dbtN_le (g : Nat → Nat) : dbtN g ≤ 16 := cnt_le _ _
theorem nxtN_le (m : Nat → Nat) (n : Nat) : nxtN m n ≤ n := by
  induction n with
  | zero => exact Nat.le_refl _
  | succ n ih => unfold nxtN; split <;> omega
theorem lastV_or (P : Nat → Bool) (V : Nat → Int32) (n : Nat) : ((∀ i, i < n → P i = false) ∧ ∀ W, lastV P W n = m1) ∨ ∃ r, r < n ∧ P r = true ∧ ∀ W, lastV P W n = W r := by
  induction n with
  | zero => exact Or.inl ⟨fun i h => absurd h (Nat.not_lt_zero i), fun W => rfl⟩
  | succ n ih =>
    by_cases h : P n = true
    · exact Or.inr ⟨n, Nat.lt_succ_self n, h, fun W => if_pos h⟩
    · rcases ih with ⟨a, b⟩ | ⟨r, a, b, c⟩
      · refine Or.inl ⟨fun i hi => ?_, fun W => (if_neg h).trans (b W)⟩
        by_cases e : i = n
        · subst e; simpa using h
        · exact a i (by omega)
      · exact Or.inr ⟨r, by omega, b, fun W => (if_neg h).trans (c W)⟩
theorem nI_nm1 {a : Nat} (h : a < 2 ^ 31) : ¬ nI a = m1 := nI_m1 h
section QZ
variable {g : Nat → Nat → Nat} {tk : Nat} {en pu : Int32} {se : Nat → Nat} {z : Nat → Int32}
theorem nI_dn {n : Nat} : nI (n + 1) + m1 = nI n := pk_m1 n
theorem dn_l1 {A0 β : Type} {S : (A0 → Option β) → A0 → Option β} (N fuel : Nat) (st : Nat → A0) (F : Nat → Option β) (h0 : ∀ K, S K (st 0) = F 0) (hs : ∀ (n : Nat) (K : A0 → Option β), n < N → K (st n) = F n → S K (st (n + 1)) = F (n + 1)) (hf : N < fuel) : k_l1 S fuel (st N) = F N := by
  have key : ∀ (n fu : Nat), n ≤ N → n < fu → k_l1 S fu (st n) = F n := by
    intro n
    induction n with
    | zero =>
      intro fu _ h
      obtain ⟨fu, rfl⟩ : ∃ x, fu = x + 1 := ⟨fu - 1, by omega⟩
      exact h0 _
    | succ n ih =>
      intro fu hn h
      obtain ⟨fu, rfl⟩ : ∃ x, fu = x + 1 := ⟨fu - 1, by omega⟩
      exact hs n _ (by omega) (ih fu (by omega) (by omega))
  exact key N fuel (Nat.le_refl _) hf
theorem dn_l2 {A0 A1 β : Type} {S : (A0 → A1 → Option β) → A0 → A1 → Option β} (N fuel : Nat) (st : Nat → A1) (F : Nat → A0 → Option β) (h0 : ∀ K a, S K a (st 0) = F 0 a) (hs : ∀ (n : Nat) (K : A0 → A1 → Option β) (a : A0), n < N → (∀ x, K x (st n) = F n x) → S K a (st (n + 1)) = F (n + 1) a) (hf : N < fuel) (a : A0) : k_l2 S fuel a (st N) = F N a := by
  have key : ∀ (n fu : Nat) (a : A0), n ≤ N → n < fu → k_l2 S fu a (st n) = F n a := by
    intro n
    induction n with
    | zero =>
      intro fu a _ h
      obtain ⟨fu, rfl⟩ : ∃ x, fu = x + 1 := ⟨fu - 1, by omega⟩
      exact h0 _ a
    | succ n ih =>
      intro fu a hn h
      obtain ⟨fu, rfl⟩ : ∃ x, fu = x + 1 := ⟨fu - 1, by omega⟩
      exact hs n _ a (by omega) (fun x => ih fu x (by omega) (by omega))
  exact key N fuel a (Nat.le_refl _) hf
theorem dn_st0 : nI 0 + m1 = m1 := by decide
theorem dn_st (n : Nat) : nI (n + 1) + m1 = nI n := pk_m1 n
theorem m1_lt0 : m1 < nI 0 := by decide
theorem nI_nlt0 {n : Nat} (h : n < 2 ^ 31) : ¬ nI n < nI 0 := by rw [nI_ltI h (by decide)]; omega
end QZ
