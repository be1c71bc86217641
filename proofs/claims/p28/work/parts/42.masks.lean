/-! the class's masks -/
theorem pc_lt16 (m n : Nat) : pc m n ≤ n := cnt_le _ _
theorem pX0_checkOf {m : Nat} (h : m < 65536) : fX0_checkOf (nI m) = some (nI (m / 1024 % 16)) := by
  unfold fX0_checkOf
  simp (disch := omega) only [kE_let, kE_if, kE_b1, kE_b2, kE_b3, kE_b4, kE_b5, kE_b6, kE_b7, kE_b8, kE_b9, kE_j0, kE_j1, kE_j2, kE_j3, kE_j4, L10, L31, nI_31, nI_shr, L15, nI_a15]
theorem pX0_keyOf (m : Nat) : fX0_keyOf (nI m) = some (nI (ky m)) := by
  unfold fX0_keyOf ky
  simp only [kE_let, L15, nI_a15]
theorem pX0_valueOf {m : Nat} (h : m < 65536) : fX0_valueOf (nI m) = some (nI (vl m)) := by
  unfold fX0_valueOf vl
  simp (disch := omega) only [kE_let, kE_if, kE_b1, kE_b2, kE_b3, kE_b4, kE_b5, kE_b6, kE_b7, kE_b8, kE_b9, kE_j0, kE_j1, kE_j2, kE_j3, kE_j4, L4, L31, nI_31, nI_shr, L63, nI_a63]
theorem pc_1024 (m : Nat) : pc (m % 1024) 16 = pc (m % 1024) 10 := pc_mono (n := 10) (Nat.mod_lt _ (by decide)) (by decide)
theorem pX0_zerosOf (m : Nat) : fX0_zerosOf (nI m) = some (nI (zer m)) := by
  unfold fX0_zerosOf zer
  have h2 : pc (m % 1024) 10 ≤ 10 := cnt_le _ _
  simp only [kE_let, kE_if, kE_b1, kE_b2, kE_b3, kE_b4, kE_b5, kE_b6, kE_b7, kE_b8, kE_b9, kE_j0, kE_j1, kE_j2, kE_j3, kE_j4, L1023, nI_a1023, pJ6 (show m % 1024 < 65536 by omega), pc_1024, L10]
  rw [nI_sub h2]
theorem and_16384 (m : Nat) : m &&& 16384 = 16384 * (m / 16384 % 2) := by
  rw [show (16384 : Nat) = 2 ^ 14 by rfl]
  apply Nat.eq_of_testBit_eq
  intro j
  rw [Nat.testBit_and, Nat.testBit_two_pow, bit_of]
  by_cases hj : 14 = j
  · subst hj
    by_cases hb : m.testBit 14
    · rw [if_pos hb, Nat.mul_one, Nat.testBit_two_pow_self, hb]; rfl
    · rw [if_neg hb, Nat.mul_zero, Nat.zero_testBit]; simp [hb]
  · by_cases hb : m.testBit 14
    · rw [if_pos hb, Nat.mul_one, Nat.testBit_two_pow]; simp [hj]
    · rw [if_neg hb, Nat.mul_zero, Nat.zero_testBit]; simp [hj]
theorem nI_a16384 (m : Nat) : nI m &&& nI 16384 = nI (16384 * (m / 16384 % 2)) := by rw [nI_and, and_16384]
theorem pX0_kindOf {m : Nat} (h : m < 65536) : fX0_kindOf (nI m) = some (nI (kd m)) := by
  unfold fX0_kindOf kd
  have hz : zer m ≤ 10 := Nat.sub_le _ _
  have h2 : pc (m % 1024) 10 ≤ 10 := cnt_le _ _
  simp (disch := omega) only [kE_let, kE_if, kE_b1, kE_b2, kE_b3, kE_b4, kE_b5, kE_b6, kE_b7, kE_b8, kE_b9, kE_j0, kE_j1, kE_j2, kE_j3, kE_j4, L1023, nI_a1023, L16383, nI_a16383, show (16384 : Int32) = nI 16384 by decide, nI_a16384, pJ6, pc_1024, pX0_checkOf h, L10, nI_sub, nI_eq, L0]
  rw [show 10 - pc (m % 1024) 10 = zer m from rfl]
  skip
  by_cases h0 : m = 0
  · simp only [h0, if_true]
  by_cases h1 : m % 16384 = 0
  · simp only [h0, h1, if_true, if_false]; simp; try decide
  by_cases h2 : m / 16384 % 2 = 1
  · rw [if_neg h0, if_neg h0, if_neg h1, if_neg h1, if_neg (by omega), if_pos h2]; rfl
  rw [if_neg h0, if_neg h0, if_neg h1, if_neg h1, if_pos (by omega), if_neg h2]
  by_cases h3 : m / 1024 % 16 = zer m
  · rw [if_pos h3, if_pos h3]; rfl
  · rw [if_neg h3, if_neg h3]; rfl
