/-! shares of fuses, and their bits -/
theorem nn_of {v : UInt64} (h : FP.Core.val64 v ≠ .nan) : v &&& 0x7fffffffffffffff ≤ 0x7ff0000000000000 := by
  rw [UInt64.le_iff_toNat_le, UInt64.toNat_and]
  show v.toNat &&& 9223372036854775807 ≤ 9218868437227405312
  rw [show (9223372036854775807 : Nat) = 2 ^ 63 - 1 by rfl, Nat.and_two_pow_sub_one_eq_mod]
  have h1 := mt (FP.Core.decode_nan (f := FP.Core.b64) v.toNat).mpr h
  rw [FP.Core.infBits_b64] at h1
  unfold FP.Core.mag at h1
  rw [FP.Core.half_b64] at h1
  omega
theorem kE_nn {β : Type} {v : UInt64} {b : Option β} (h : FP.Core.val64 v ≠ .nan) : k_nn v b = b := if_pos (nn_of h)
theorem fin_nn {v : UInt64} {s : Bool} {c : Nat} {q : Int} (h : FP.Core.val64 v = .fin s c q) : FP.Core.val64 v ≠ .nan := by rw [h]; exact fun z => by cases z
theorem val_two : FP.Core.val64 (4611686018427387904 : UInt64) = .fin false 4503599627370496 (-51) := by decide +kernel
theorem val_big : FP.Core.val64 (4841369599423283200 : UInt64) = .fin false 4503599627370496 0 := by decide +kernel
theorem val_one : FP.Core.val64 FP.dconst1 = .fin false 4503599627370496 (-52) := by decide +kernel
theorem val_zero : FP.Core.val64 FP.dconst0 = .fin false 0 FP.Core.b64.qmin := by decide +kernel
theorem b64_p : FP.Core.b64.p = 53 := rfl
theorem b64_qmin : FP.Core.b64.qmin = -1074 := by decide
theorem b64_qmax : FP.Core.b64.qmax = 971 := by decide
theorem b64_tails : FP.Core.b64.tails = 4503599627370496 := by decide
/-- a number that is written with all digits -/
def NF (v : UInt64) (c : Nat) (q : Int) : Prop := FP.Core.val64 v = .fin false c q ∧ 4503599627370496 ≤ c ∧ c < 9007199254740992 ∧ -61 ≤ q ∧ q ≤ -52
theorem fits_n {c : Nat} {q : Int} (h1 : 4503599627370496 ≤ c) (h2 : c < 9007199254740992) (h3 : -900 ≤ q) (h4 : q ≤ 900) : FP.Core.fits FP.Core.b64 (.fin false c q) := by
  refine ⟨by rw [b64_p]; omega, by rw [b64_qmin]; omega, by rw [b64_qmax]; omega, Or.inr (by rw [b64_tails]; omega)⟩
theorem i2d_pos {n : Nat} (h0 : 0 < n) (h : n < 2 ^ 31) : ∃ c q, FP.Core.val64 (FP.i2d (nI n)) = .fin false c q ∧ 0 < c ∧ c * 2 ^ q.toNat = n * 2 ^ (-q).toNat := by
  have hw : FP.Core.Whole ((nI n).toInt) (FP.Core.val64 (FP.i2d (nI n))) := FP.Core.i2d_int (nI n)
  rw [nI_toInt h] at hw
  rcases e : FP.Core.val64 (FP.i2d (nI n)) with _ | s | ⟨s, c, q⟩
  · rw [e] at hw; exact hw.elim
  · rw [e] at hw; exact hw.elim
  · rw [e] at hw
    have hs := FP.Core.whole_sign hw (by omega)
    have hc := FP.Core.whole_zero hw
    have hs' : s = false := by rw [hs]; simp
    subst hs'
    refine ⟨c, q, rfl, by omega, ?_⟩
    have hh : FP.Core.signed false (c * 2 ^ q.toNat) = (n : Int) * ((2 ^ (-q).toNat : Nat) : Int) := hw
    have hh' : ((c * 2 ^ q.toNat : Nat) : Int) = (n : Int) * ((2 ^ (-q).toNat : Nat) : Int) := hh
    rw [← Int.natCast_mul] at hh'
    exact Int.ofNat.inj hh'
theorem ddiv_pos {k n : Nat} (hk : 0 < k) (hkn : k ≤ n) (hn : n ≤ 320) : ∃ c q, NF (FP.ddiv (FP.i2d (nI k)) (FP.i2d (nI n))) c q := by
  obtain ⟨c, q, e1, c0, h1⟩ := i2d_pos hk (show k < 2 ^ 31 by omega)
  obtain ⟨d, r, e2, d0, h2⟩ := i2d_pos (n := n) (by omega) (by omega)
  have hv : FP.Core.val64 (FP.ddiv (FP.i2d (nI k)) (FP.i2d (nI n))) = FP.Core.roundRatio FP.Core.b64 false k n 0 := by
    refine (FP.Core.val64_ddiv _ _).trans ?_
    rw [show FP.Core.val64 (FP.Core.i2d (nI k)) = .fin false c q from e1, show FP.Core.val64 (FP.Core.i2d (nI n)) = .fin false d r from e2]
    show (if d = 0 then _ else FP.Core.roundRatio FP.Core.b64 (false != false) c d (q - r)) = _
    rw [if_neg (by omega)]
    refine FP.Core.roundRatio_congr d0 (by omega) ?_
    have hE : ∃ E, q.toNat + (-r).toNat = (q - r - 0).toNat + E ∧ (-q).toNat + r.toNat = (0 - (q - r)).toNat + E := ⟨q.toNat + (-r).toNat - (q - r - 0).toNat, by omega, by omega⟩
    obtain ⟨E, hE1, hE2⟩ := hE
    have h3 : (c * n * 2 ^ (q - r - 0).toNat) * 2 ^ E = (k * d * 2 ^ (0 - (q - r)).toNat) * 2 ^ E := by
      calc (c * n * 2 ^ (q - r - 0).toNat) * 2 ^ E = c * n * 2 ^ ((q - r - 0).toNat + E) := by rw [Nat.pow_add, Nat.mul_assoc]
        _ = c * n * 2 ^ (q.toNat + (-r).toNat) := by rw [hE1]
        _ = (c * 2 ^ q.toNat) * (n * 2 ^ (-r).toNat) := by rw [Nat.pow_add]; ac_rfl
        _ = (k * 2 ^ (-q).toNat) * (d * 2 ^ r.toNat) := by rw [h1, h2]
        _ = k * d * 2 ^ ((-q).toNat + r.toNat) := by rw [Nat.pow_add]; ac_rfl
        _ = k * d * 2 ^ ((0 - (q - r)).toNat + E) := by rw [hE2]
        _ = (k * d * 2 ^ (0 - (q - r)).toNat) * 2 ^ E := by rw [Nat.pow_add, Nat.mul_assoc (k * d)]
    exact Nat.eq_of_mul_eq_mul_right (Nat.two_pow_pos E) h3
  have lk : k.log2 ≤ 8 := by
    have := (Nat.log2_lt (by omega : k ≠ 0)).mpr (show k < 2 ^ 9 by omega); omega
  have ln : n.log2 ≤ 8 := by
    have := (Nat.log2_lt (by omega : n ≠ 0)).mpr (show n < 2 ^ 9 by omega); omega
  have lkn : k.log2 ≤ n.log2 := (Nat.le_log2 (by omega)).mpr (Nat.le_trans (Nat.log2_self_le (by omega)) hkn)
  have hlead : -9 ≤ FP.Core.leading k n ∧ FP.Core.leading k n ≤ 0 := by
    unfold FP.Core.leading
    simp only
    split <;> omega
  have hQ : -61 ≤ FP.Core.quantum FP.Core.b64 k n 0 ∧ FP.Core.quantum FP.Core.b64 k n 0 ≤ -52 := by
    unfold FP.Core.quantum
    rw [b64_qmin, b64_p]
    omega
  have hr : FP.Core.roundRatio FP.Core.b64 false k n 0 = FP.Core.settle FP.Core.b64 false (FP.Core.nearest (FP.Core.unitsNum k 0 (FP.Core.quantum FP.Core.b64 k n 0)) (FP.Core.unitsDen n 0 (FP.Core.quantum FP.Core.b64 k n 0))) (FP.Core.quantum FP.Core.b64 k n 0) := if_neg (by omega)
  rw [hr] at hv
  generalize FP.Core.quantum FP.Core.b64 k n 0 = Q at hQ hv
  generalize hN : FP.Core.nearest (FP.Core.unitsNum k 0 Q) (FP.Core.unitsDen n 0 Q) = N at hv
  unfold FP.Core.settle at hv
  by_cases hlt : N < 2 ^ FP.Core.b64.p
  · rw [if_pos hlt] at hv
    unfold FP.Core.bound at hv
    rw [if_pos (by rw [b64_qmax]; omega)] at hv
    have hf2 : FP.Core.fits FP.Core.b64 (.fin false N Q) := by
      rw [← hv]; exact FP.Core.val64_fits _
    obtain ⟨f1, f2, f3, f4⟩ := hf2
    rw [b64_p] at f1
    rw [b64_qmin, b64_tails] at f4
    exact ⟨N, Q, hv, by omega, by omega, hQ.1, hQ.2⟩
  · rw [if_neg hlt] at hv
    unfold FP.Core.bound at hv
    rw [if_pos (by rw [b64_qmax]; omega), b64_tails] at hv
    refine ⟨_, _, hv, Nat.le_refl _, by decide, by omega, ?_⟩
    rw [b64_p] at hlt
    by_cases hq : Q = -52
    · exfalso
      subst hq
      have h1 : FP.Core.unitsNum k 0 (-52) = k * 2 ^ 52 := rfl
      have h2 : FP.Core.unitsDen n 0 (-52) = n * 1 := rfl
      rw [h1, h2, Nat.mul_one] at hN
      have := FP.Core.nearest_le (A := k * 2 ^ 52) (B := n) (M := 2 ^ 52) (by omega) (by rw [Nat.mul_comm]; exact Nat.mul_le_mul_left _ hkn)
      omega
    · omega
/-! how a number compares with 1, is doubled, gives its digits -/
theorem dbl {v : UInt64} {c : Nat} {q : Int} (h : NF v c q) (hq : q < -52) : NF (FP.dmul v (4611686018427387904 : UInt64)) c (q + 1) := by
  obtain ⟨e, h1, h2, h3, h4⟩ := h
  refine ⟨?_, h1, h2, by omega, by omega⟩
  refine (FP.Core.val64_dmul _ _).trans ?_
  rw [e, val_two]
  show FP.Core.roundRatio FP.Core.b64 false (c * 4503599627370496) 1 (q + -51) = _
  refine FP.Core.roundRatio_exact FP.Core.good_b64 (by decide) (fits_n h1 h2 (by omega) (by omega)) ?_
  rw [show (q + -51 - (q + 1)).toNat = 0 by omega, show (q + 1 - (q + -51)).toNat = 52 by omega]
  omega
theorem cmp1 {v : UInt64} {c : Nat} {q : Int} (h : NF v c q) : (0 ≤ Op.cmpValue (FP.dcmp v FP.dconst1) .g ↔ q = -52) := by
  obtain ⟨e, h1, h2, h3, h4⟩ := h
  have hd : FP.dcmp v FP.dconst1 = some (compare ((c : Nat) : Int) ((4503599627370496 * 2 ^ (-52 - q).toNat : Nat) : Int)) := by
    show FP.Core.order (FP.Core.val64 v) (FP.Core.val64 FP.dconst1) = _
    rw [e, val_one]
    show some (compare (FP.Core.signed false (FP.Core.inUnits c q (min q (-52)))) (FP.Core.signed false (FP.Core.inUnits 4503599627370496 (-52) (min q (-52))))) = _
    rw [show min q (-52) = q by omega]
    unfold FP.Core.inUnits
    rw [show (q - q).toNat = 0 by omega, Nat.mul_one]
    rfl
  rw [hd, FP.Core.compare_ite]
  by_cases hq : q = -52
  · subst hq
    rw [if_neg (by show ¬ (c : Int) < ((4503599627370496 * 1 : Nat) : Int); omega)]
    refine ⟨fun _ => rfl, fun _ => ?_⟩
    split <;> decide
  · have : 2 ^ 1 ≤ 2 ^ (-52 - q).toNat := Nat.pow_le_pow_right (by decide) (by omega)
    rw [if_pos (by omega)]
    exact ⟨fun z => absurd z (by decide), fun z => absurd z hq⟩
theorem cmp0 {v : UInt64} {c : Nat} {q : Int} (h : NF v c q) : FP.dcmp v FP.dconst0 = some .gt := by
  obtain ⟨e, h1, h2, h3, h4⟩ := h
  show FP.Core.order (FP.Core.val64 v) (FP.Core.val64 FP.dconst0) = _
  rw [e, val_zero]
  show some (compare (FP.Core.signed false (FP.Core.inUnits c q (min q FP.Core.b64.qmin))) (FP.Core.signed false (FP.Core.inUnits 0 FP.Core.b64.qmin (min q FP.Core.b64.qmin)))) = _
  unfold FP.Core.inUnits
  rw [Nat.zero_mul, FP.Core.compare_ite]
  have hp : 0 < c * 2 ^ (q - min q FP.Core.b64.qmin).toNat := Nat.mul_pos (by omega) (Nat.two_pow_pos _)
  generalize c * 2 ^ (q - min q FP.Core.b64.qmin).toNat = X at hp
  exact congrArg some ((if_neg (show ¬ (X : Int) < ((0 : Nat) : Int) by omega)).trans (if_neg (show ¬ (X : Int) = ((0 : Nat) : Int) by omega)))
theorem cmp2 {v : UInt64} {c : Nat} {q : Int} (h : NF v c q) : FP.dcmp v (4611686018427387904 : UInt64) = some .lt := by
  obtain ⟨e, h1, h2, h3, h4⟩ := h
  show FP.Core.order (FP.Core.val64 v) (FP.Core.val64 (4611686018427387904 : UInt64)) = _
  rw [e, val_two]
  show some (compare (FP.Core.signed false (FP.Core.inUnits c q (min q (-51)))) (FP.Core.signed false (FP.Core.inUnits 4503599627370496 (-51) (min q (-51))))) = _
  rw [show min q (-51) = q by omega]
  unfold FP.Core.inUnits
  rw [show (q - q).toNat = 0 by omega, Nat.mul_one, FP.Core.compare_ite]
  have : 2 ^ 1 ≤ 2 ^ (-51 - q).toNat := Nat.pow_le_pow_right (by decide) (by omega)
  exact congrArg some (if_pos (by show (c : Int) < ((4503599627370496 * 2 ^ (-51 - q).toNat : Nat) : Int); omega))
def jI (n : Nat) : Int64 := Int64.ofNat n
theorem jI_toInt {n : Nat} (h : n < 2 ^ 63) : (jI n).toInt = n := by
  unfold jI
  rw [Int64.toInt_ofNat', show Int64.size = 18446744073709551616 from rfl]
  exact Int.bmod_eq_of_le (by omega) (by omega)
theorem fin_big {v : UInt64} {c : Nat} (h : NF v c (-52)) : FP.Core.val64 (FP.dmul v (4841369599423283200 : UInt64)) = .fin false c 0 := by
  obtain ⟨e, h1, h2, h3, h4⟩ := h
  refine (FP.Core.val64_dmul _ _).trans ?_
  rw [e, val_big]
  show FP.Core.roundRatio FP.Core.b64 false (c * 4503599627370496) 1 (-52 + 0) = _
  exact FP.Core.roundRatio_exact FP.Core.good_b64 (by decide) (fits_n h1 h2 (by omega) (by omega)) (by rw [show ((-52 : Int) + 0 - 0).toNat = 0 by decide, show ((0 : Int) - (-52 + 0)).toNat = 52 by decide]; omega)
theorem d2l_whole {v : UInt64} {n : Nat} (hn : n < 2 ^ 63) (h : FP.Core.Whole (n : Int) (FP.Core.val64 v)) : FP.d2l v = jI n :=
  FP.Core.d2l_int (a := jI n) (by rw [jI_toInt hn]; exact h)
theorem big_l {v : UInt64} {c : Nat} (h : NF v c (-52)) : FP.d2l (FP.dmul v (4841369599423283200 : UInt64)) = jI c := by
  have e := fin_big h
  refine d2l_whole (by have := h.2.2.1; omega) ?_
  rw [e]
  show ((c * 1 : Nat) : Int) = (c : Int) * ((1 : Nat) : Int)
  omega
theorem sub1 {v : UInt64} {F : Nat} (h : NF v (4503599627370496 + F) (-52)) : FP.Core.val64 (FP.dsub v FP.dconst1) = FP.Core.roundRatio FP.Core.b64 false F 1 (-52) := by
  obtain ⟨e, h1, h2, h3, h4⟩ := h
  refine (FP.Core.val64_dsub _ _).trans ?_
  rw [e, show FP.Core.val64 FP.dconst1 = .fin false 4503599627370496 (-52) from val_one]
  show FP.Core.roundRatio FP.Core.b64 (FP.Core.sumSign false true (FP.Core.sumUnits false (4503599627370496 + F) (-52) true 4503599627370496 (-52) (-52))) (FP.Core.sumUnits false (4503599627370496 + F) (-52) true 4503599627370496 (-52) (-52)).natAbs 1 (-52) = _
  have hs : FP.Core.sumUnits false (4503599627370496 + F) (-52) true 4503599627370496 (-52) (-52) = (F : Int) := by
    show (((4503599627370496 + F) * 1 : Nat) : Int) + -((4503599627370496 * 1 : Nat) : Int) = F
    omega
  rw [hs]
  have h2 : FP.Core.sumSign false true (F : Int) = false := by
    unfold FP.Core.sumSign
    by_cases hz : (F : Int) = 0
    · rw [if_pos hz]; rfl
    · rw [if_neg hz]; simp
  rw [h2, Int.natAbs_natCast]
theorem frac {v : UInt64} {F : Nat} (h : NF v (4503599627370496 + F) (-52)) : FP.Core.val64 (FP.dsub v FP.dconst1) ≠ .nan ∧ FP.Core.Whole (F : Int) (FP.Core.val64 (FP.dmul (FP.dsub v FP.dconst1) (4841369599423283200 : UInt64))) := by
  have e := sub1 h
  obtain ⟨-, h1, h2, -, -⟩ := h
  by_cases hF : F = 0
  · subst hF
    have e' : FP.Core.val64 (FP.dsub v FP.dconst1) = .fin false 0 FP.Core.b64.qmin := e
    refine ⟨fin_nn e', ?_⟩
    rw [show FP.Core.val64 (FP.dmul (FP.dsub v FP.dconst1) (4841369599423283200 : UInt64)) = .fin false 0 FP.Core.b64.qmin by
      refine (FP.Core.val64_dmul _ _).trans ?_
      rw [e', val_big]
      show FP.Core.roundRatio FP.Core.b64 false (0 * 4503599627370496) 1 _ = _
      rw [Nat.zero_mul]; rfl]
    show ((0 * _ : Nat) : Int) = ((0 : Nat) : Int) * _
    rw [Nat.zero_mul]
    exact (Int.zero_mul _).symm
  · have l1 := Nat.log2_self_le hF
    have l2 := @Nat.lt_log2_self F
    have l3 : F.log2 < 52 := (Nat.log2_lt hF).mpr (by omega)
    obtain ⟨k, hk⟩ : ∃ k, F.log2 + k = 52 := ⟨52 - F.log2, by omega⟩
    have hc1 : 4503599627370496 ≤ F * 2 ^ k := by
      have := Nat.mul_le_mul_right (2 ^ k) l1
      rw [← Nat.pow_add, hk] at this
      exact this
    have hc2 : F * 2 ^ k < 9007199254740992 := by
      have := Nat.mul_lt_mul_of_pos_right l2 (Nat.two_pow_pos k)
      rw [← Nat.pow_add, show F.log2 + 1 + k = 53 by omega] at this
      exact this
    have e2 : FP.Core.val64 (FP.dsub v FP.dconst1) = .fin false (F * 2 ^ k) (-52 - k) := by
      rw [e]
      refine FP.Core.roundRatio_exact FP.Core.good_b64 (by decide) (fits_n hc1 hc2 (by omega) (by omega)) ?_
      rw [show (-52 - (-52 - (k : Int))).toNat = k by omega, show (-52 - (k : Int) - -52).toNat = 0 by omega]
      generalize F * 2 ^ k = X
      omega
    refine ⟨fin_nn e2, ?_⟩
    have e3 : FP.Core.val64 (FP.dmul (FP.dsub v FP.dconst1) (4841369599423283200 : UInt64)) = .fin false (F * 2 ^ k) (-(k : Int)) := by
      refine (FP.Core.val64_dmul _ _).trans ?_
      rw [e2, val_big]
      show FP.Core.roundRatio FP.Core.b64 false (F * 2 ^ k * 4503599627370496) 1 (-52 - (k : Int) + 0) = _
      refine FP.Core.roundRatio_exact FP.Core.good_b64 (by decide) (fits_n hc1 hc2 (by omega) (by omega)) ?_
      rw [show (-52 - (k : Int) + 0 - -(k : Int)).toNat = 0 by omega, show (-(k : Int) - (-52 - (k : Int) + 0)).toNat = 52 by omega]
      generalize F * 2 ^ k = X
      omega
    rw [e3]
    show ((F * 2 ^ k * 2 ^ (-(k : Int)).toNat : Nat) : Int) = (F : Int) * ((2 ^ (- -(k : Int)).toNat : Nat) : Int)
    rw [show (-(k : Int)).toNat = 0 by omega, show (- -(k : Int)).toNat = k by omega, Nat.pow_zero, Nat.mul_one, Int.natCast_mul]
/-! the bits: the class's and the model's -/
theorem jI_dn : ∀ m, m < 20 → jI (1023 - m) - 1 = jI (1023 - (m + 1)) := by decide +kernel
theorem jI_sh : ∀ m, m < 20 → jI (1023 - m) <<< ((52 : Int32).toInt64 &&& 63) = jI ((1023 - m) * 4503599627370496) := by decide +kernel
theorem jI_or {a F : Nat} (h : F < 4503599627370496) : jI (a * 4503599627370496) ||| jI F = jI (a * 4503599627370496 + F) := by
  apply Int64.toBitVec_inj.mp
  show BitVec.ofNat 64 (a * 4503599627370496) ||| BitVec.ofNat 64 F = BitVec.ofNat 64 (a * 4503599627370496 + F)
  rw [← BitVec.ofNat_or, Nat.mul_comm a, show (4503599627370496 : Nat) = 2 ^ 52 by rfl, Nat.two_pow_add_eq_or_of_lt (by omega)]
theorem jI_ad (a F : Nat) : jI a + jI (4503599627370496 + F) - 4503599627370496 = jI (a + F) := by
  unfold jI
  rw [Int64.ofNat_add a F, Int64.ofNat_add 4503599627370496 F, Int64.add_comm (Int64.ofNat 4503599627370496), ← Int64.add_assoc]
  exact Int64.add_sub_cancel _ _
theorem bits_cl {F : Nat} : ∀ (j m fu : Nat) (v : UInt64), j < fu → j + m < 20 → NF v (4503599627370496 + F) (-52 - j) → k_l3 (fX4_bitsOfShare_s18 (fun (z2 : UInt64) (z3 : Int64) =>
      k_nn (FP.dsub z2 FP.dconst1) <| k_let (FP.dsub z2 FP.dconst1) fun (z4 : UInt64) =>
      k_nn (FP.dmul z4 ((4841369599423283200 : UInt64))) <| k_let (FP.dmul z4 ((4841369599423283200 : UInt64))) fun (z5 : UInt64) =>
      k_let (FP.d2l z5) fun (z6 : Int64) =>
      k_let (z3 <<< ((52 : Int32).toInt64 &&& 63)) fun (z7 : Int64) =>
      k_let (z7 ||| z6) fun (z8 : Int64) =>
      some z8)) fu v (jI (1023 - m)) (nI m) = some (jI ((1023 - (m + j)) * 4503599627370496 + F)) := by
  intro j
  induction j with
  | zero =>
    intro m fu v hf hm h
    obtain ⟨fu, rfl⟩ : ∃ x, fu = x + 1 := ⟨fu - 1, by omega⟩
    have h' : NF v (4503599627370496 + F) (-52) := h
    have hF : F < 4503599627370496 := by have := h'.2.2.1; omega
    obtain ⟨f1, f2⟩ := frac h'
    show fX4_bitsOfShare_s18 _ _ _ _ _ = _
    unfold fX4_bitsOfShare_s18
    simp (disch := omega) only [kE_if, kE_let, show (64 : Int32) = nI 64 by decide, nI_leI, if_neg]
    rw [if_pos ((cmp1 h').mpr rfl), kE_nn f1, kE_nn (FP.Core.Whole.ne_nan f2), d2l_whole (by omega) f2, jI_sh m (by omega), jI_or hF, Nat.add_zero]
  | succ j ih =>
    intro m fu v hf hm h
    obtain ⟨fu, rfl⟩ : ∃ x, fu = x + 1 := ⟨fu - 1, by omega⟩
    have hd := dbl h (by omega)
    rw [show (-52 - ((j + 1 : Nat) : Int) + 1) = -52 - (j : Int) by omega] at hd
    have := ih (m + 1) fu _ (by omega) (by omega) hd
    rw [show m + (j + 1) = m + 1 + j by omega, ← this]
    refine (show k_l3 (fX4_bitsOfShare_s18 _) (fu + 1) v (jI (1023 - m)) (nI m) = fX4_bitsOfShare_s18 _ (k_l3 (fX4_bitsOfShare_s18 _) fu) v (jI (1023 - m)) (nI m) from rfl).trans ?_
    generalize k_l3 (fX4_bitsOfShare_s18 _) fu = KK
    unfold fX4_bitsOfShare_s18
    simp (disch := omega) only [kE_if, kE_let, show (64 : Int32) = nI 64 by decide, nI_leI, if_neg]
    rw [if_neg (fun z => by have := (cmp1 h).mp z; omega), kE_nn (fin_nn hd.1), jI_dn m (by omega), L1, nI_add]
theorem bits_mo {F : Nat} : ∀ (j m fu : Nat) (v : UInt64), j < fu → j + m < 20 → NF v (4503599627370496 + F) (-52 - j) → k_l2 (fX5_bitsOf_s38 (fun (x4 : UInt64) (x5 : Int64) =>
        k_let (x5 <<< ((52 : Int32).toInt64 &&& 63)) fun (x6 : Int64) =>
        k_nn (FP.dmul x4 ((4841369599423283200 : UInt64))) <| k_let (FP.dmul x4 ((4841369599423283200 : UInt64))) fun (x7 : UInt64) =>
        k_let (FP.d2l x7) fun (x8 : Int64) =>
        k_let (x6 + x8) fun (x9 : Int64) =>
        k_let (x9 - 4503599627370496) fun (x10 : Int64) =>
        some x10)) fu v (jI (1023 - m)) = some (jI ((1023 - (m + j)) * 4503599627370496 + F)) := by
  intro j
  induction j with
  | zero =>
    intro m fu v hf hm h
    obtain ⟨fu, rfl⟩ : ∃ x, fu = x + 1 := ⟨fu - 1, by omega⟩
    have h' : NF v (4503599627370496 + F) (-52) := h
    show fX5_bitsOf_s38 _ _ _ _ = _
    unfold fX5_bitsOf_s38
    simp only [kE_if, kE_let]
    rw [if_pos ((cmp1 h').mpr rfl), kE_nn (fin_nn (fin_big h')), big_l h', jI_sh m (by omega), jI_ad, Nat.add_zero]
  | succ j ih =>
    intro m fu v hf hm h
    obtain ⟨fu, rfl⟩ : ∃ x, fu = x + 1 := ⟨fu - 1, by omega⟩
    have hd := dbl h (by omega)
    rw [show (-52 - ((j + 1 : Nat) : Int) + 1) = -52 - (j : Int) by omega] at hd
    have := ih (m + 1) fu _ (by omega) (by omega) hd
    rw [show m + (j + 1) = m + 1 + j by omega, ← this]
    refine (show k_l2 (fX5_bitsOf_s38 _) (fu + 1) v (jI (1023 - m)) = fX5_bitsOf_s38 _ (k_l2 (fX5_bitsOf_s38 _) fu) v (jI (1023 - m)) from rfl).trans ?_
    generalize k_l2 (fX5_bitsOf_s38 _) fu = KK
    unfold fX5_bitsOf_s38
    simp only [kE_if, kE_let]
    rw [if_neg (fun z => by have := (cmp1 h).mp z; omega), kE_nn (fin_nn hd.1), jI_dn m (by omega)]
theorem bits_eq {v : UInt64} {c : Nat} {q : Int} (h : NF v c q) : ∃ r, fX4_bitsOfShare v = some r ∧ fX5_bitsOf v = some r := by
  obtain ⟨F, rfl⟩ : ∃ F, c = 4503599627370496 + F := ⟨c - 4503599627370496, by have := h.2.1; omega⟩
  obtain ⟨j, rfl⟩ : ∃ j : Nat, q = -52 - j := ⟨(-52 - q).toNat, by have := h.2.2.2.2; omega⟩
  have hj : j < 10 := by have := h.2.2.2.1; omega
  refine ⟨jI ((1023 - (0 + j)) * 4503599627370496 + F), ?_, ?_⟩
  · unfold fX4_bitsOfShare
    simp only [kE_let, kE_if, kE_j2]
    rw [cmp0 h, if_pos (show (0 : Int32) < Op.cmpValue (some .gt) .g by decide), L0]
    exact bits_cl j 0 5000 v (by omega) (by omega) h
  · unfold fX5_bitsOf
    simp only [kE_let, kE_if, kE_j2]
    rw [cmp0 h, if_neg (show ¬ Op.cmpValue (some .gt) .l = 0 by decide)]
    refine (show k_l2 (fX5_bitsOf_s15 _) 5000 v 1023 = fX5_bitsOf_s15 _ (k_l2 (fX5_bitsOf_s15 _) 4999) v 1023 from rfl).trans ?_
    generalize k_l2 (fX5_bitsOf_s15 _) 4999 = KK
    unfold fX5_bitsOf_s15
    simp only [kE_let, kE_if]
    rw [cmp2 h, if_pos (show Op.cmpValue (some .lt) .l < 0 by decide)]
    exact bits_mo j 0 5000 v (by omega) (by omega) h
theorem bits_0 {v : UInt64} (h : FP.Core.val64 v = .fin false 0 FP.Core.b64.qmin) : fX4_bitsOfShare v = some 0 ∧ fX5_bitsOf v = some 0 := by
  have hv : v = FP.dconst0 := FP.Core.val64_inj (fin_nn h) (h.trans val_zero.symm)
  subst hv
  refine ⟨?_, ?_⟩
  · unfold fX4_bitsOfShare
    simp only [kE_let, kE_if, kE_j2]
    rw [if_neg (show ¬ (0 : Int32) < Op.cmpValue (FP.dcmp FP.dconst0 FP.dconst0) .g by decide +kernel)]
  · unfold fX5_bitsOf
    simp only [kE_let, kE_if, kE_j2]
    rw [if_pos (show Op.cmpValue (FP.dcmp FP.dconst0 FP.dconst0) .l = 0 by decide +kernel)]
/-- the share of a number of sure fuses among all that are blown -/
def shrN (a b : Nat) : UInt64 := if b = 0 then FP.dconst1 else FP.ddiv (FP.i2d (nI a)) (FP.i2d (nI b))
theorem shr_or {a b : Nat} (h : a ≤ b) (hb : b ≤ 320) : FP.Core.val64 (shrN a b) = .fin false 0 FP.Core.b64.qmin ∨ ∃ c q, NF (shrN a b) c q := by
  unfold shrN
  by_cases h0 : b = 0
  · rw [if_pos h0]
    exact Or.inr ⟨_, _, val_one, by decide, by decide, by decide, by decide⟩
  · rw [if_neg h0]
    by_cases ha : a = 0
    · left
      subst ha
      obtain ⟨d, r, e2, d0, h2⟩ := i2d_pos (n := b) (by omega) (by omega)
      refine (FP.Core.val64_ddiv _ _).trans ?_
      rw [show FP.Core.val64 (FP.Core.i2d (nI 0)) = .fin false 0 FP.Core.b64.qmin by decide +kernel, show FP.Core.val64 (FP.Core.i2d (nI b)) = .fin false d r from e2]
      show (if d = 0 then _ else FP.Core.roundRatio FP.Core.b64 (false != false) 0 d _) = _
      rw [if_neg (by omega)]; rfl
    · right
      exact ddiv_pos (by omega) h hb
theorem shr_nn {a b : Nat} (h : a ≤ b) (hb : b ≤ 320) : FP.Core.val64 (shrN a b) ≠ .nan := by
  rcases shr_or h hb with e | ⟨c, q, e⟩
  · exact fin_nn e
  · exact fin_nn e.1
theorem shr_bits {a b : Nat} (h : a ≤ b) (hb : b ≤ 320) : ∃ r, fX4_bitsOfShare (shrN a b) = some r ∧ fX5_bitsOf (shrN a b) = some r := by
  rcases shr_or h hb with e | ⟨c, q, e⟩
  · exact ⟨0, bits_0 e⟩
  · exact bits_eq e
