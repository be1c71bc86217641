/-! Integer.bitCount of 16 bits; the class's masks -/
def bcA (n : Nat) : Nat := n - (n / 2 &&& 1431655765)
def bcB (n : Nat) : Nat := (n &&& 858993459) + (n / 4 &&& 858993459)
def bcC (n : Nat) : Nat := (n + n / 16) &&& 252645135
def bcG (n : Nat) : Nat := bcC (bcB (bcA n))
def bcH (n : Nat) : Nat := bcG n + bcG n / 256
def bcI (n : Nat) : Nat := (bcH n + bcH n / 65536) &&& 63
def s8 (n : Nat) : Nat := n % 2 + n / 2 % 2 + n / 4 % 2 + n / 8 % 2 + n / 16 % 2 + n / 32 % 2 + n / 64 % 2 + n / 128 % 2
def chk1 (b : Nat) : Nat → Bool
  | 0 => true
  | a + 1 => Nat.beq (bcI (256 * b + a)) (s8 b + s8 a) && chk1 b a
def chk2 : Nat → Bool
  | 0 => true
  | b + 1 => chk1 b 256 && chk2 b
theorem chk2_t : chk2 256 = true := by decide +kernel
theorem chk1_e (b : Nat) : ∀ N, chk1 b N = true → ∀ a, a < N → bcI (256 * b + a) = s8 b + s8 a := by
  intro N
  induction N with
  | zero => intro _ a h; omega
  | succ N ih =>
    intro h a ha
    unfold chk1 at h
    rw [Bool.and_eq_true] at h
    by_cases e : a = N
    · subst e; exact Nat.eq_of_beq_eq_true h.1
    · exact ih h.2 a (by omega)
theorem chk2_e : ∀ N, chk2 N = true → ∀ b, b < N → chk1 b 256 = true := by
  intro N
  induction N with
  | zero => intro _ a h; omega
  | succ N ih =>
    intro h b hb
    unfold chk2 at h
    rw [Bool.and_eq_true] at h
    by_cases e : b = N
    · subst e; exact h.1
    · exact ih h.2 b (by omega)
theorem cnt_add (P : Nat → Bool) (n k : Nat) : cnt P (n + k) = cnt P n + cnt (fun j => P (n + j)) k := by
  induction k with
  | zero => rfl
  | succ k ih =>
    show cnt P (n + k) + _ = cnt P n + (cnt (fun j => P (n + j)) k + _)
    rw [ih, Nat.add_assoc]; rfl
theorem pc_s8 {a : Nat} (h : a < 256) : pc a 8 = s8 a := (by decide +kernel : ∀ a, a < 256 → pc a 8 = s8 a) a h
theorem pc_16 {m : Nat} (h : m < 65536) : pc m 16 = bcI m := by
  have h1 := chk1_e (m / 256) 256 (chk2_e 256 chk2_t (m / 256) (by omega)) (m % 256) (by omega)
  rw [show 256 * (m / 256) + m % 256 = m by omega] at h1
  rw [h1, ← pc_s8 (by omega), ← pc_s8 (a := m % 256) (by omega)]
  unfold pc
  rw [show (16 : Nat) = 8 + 8 by rfl, cnt_add, Nat.add_comm]
  congr 1
  · exact cnt_congr (fun j hj => by rw [show (256 : Nat) = 2 ^ 8 by rfl, Nat.testBit_div_two_pow, Nat.add_comm])
  · exact cnt_congr (fun j hj => by rw [show (256 : Nat) = 2 ^ 8 by rfl, Nat.testBit_mod_two_pow]; simp [hj])
theorem nI_ushr {n k : Nat} (hn : n < 2 ^ 32) (s : Int32) (hs : ((s.toUInt32 &&& Int32.toUInt32 31).toBitVec % 32).toNat = k) : ((nI n).toUInt32 >>> (s.toUInt32 &&& Int32.toUInt32 31)).toInt32 = nI (n / 2 ^ k) := pk_ushrN hn s k hs
theorem pJ6 {m : Nat} (h : m < 65536) : fJ6_bitCount_0f7a4 (nI m) = some (nI (pc m 16)) := by
  rw [pc_16 h]
  unfold fJ6_bitCount_0f7a4
  simp only [kE_let]
  have a1 : m / 2 &&& 1431655765 ≤ m := Nat.le_trans Nat.and_le_left (Nat.div_le_self _ _)
  have hA : bcA m < 65536 := by unfold bcA; omega
  have hB : bcB (bcA m) < 131072 := by
    unfold bcB
    have b1 : bcA m &&& 858993459 ≤ bcA m := Nat.and_le_left
    have b2 : bcA m / 4 &&& 858993459 ≤ bcA m / 4 := Nat.and_le_left
    omega
  have hG : bcG m < 262144 := by
    unfold bcG bcC
    have b1 : (bcB (bcA m) + bcB (bcA m) / 16) &&& 252645135 ≤ bcB (bcA m) + bcB (bcA m) / 16 := Nat.and_le_left
    omega
  have hH : bcH m < 2 ^ 32 := by unfold bcH; omega
  rw [nI_ushr (k := 1) (by omega) 1 (by decide), show (1431655765 : Int32) = nI 1431655765 by decide, show (858993459 : Int32) = nI 858993459 by decide, show (252645135 : Int32) = nI 252645135 by decide, nI_and, nI_sub (by omega), show m - (m / 2 ^ 1 &&& 1431655765) = bcA m from rfl, nI_ushr (k := 2) (by omega) 2 (by decide), nI_and, nI_and, nI_add, show (bcA m &&& 858993459) + (bcA m / 2 ^ 2 &&& 858993459) = bcB (bcA m) from rfl, nI_ushr (k := 4) (by omega) 4 (by decide), nI_add, nI_and, show (bcB (bcA m) + bcB (bcA m) / 2 ^ 4) &&& 252645135 = bcG m from rfl, nI_ushr (k := 8) (by omega) 8 (by decide), nI_add, show bcG m + bcG m / 2 ^ 8 = bcH m from rfl, nI_ushr (k := 16) (by omega) 16 (by decide), nI_add, L63, nI_and]
  rfl
