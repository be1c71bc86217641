/-! the looks in pairs -/
theorem rm_e {a b c : Nat} (h : a < b) : a ≤ b - 1 := by omega
section PL
variable {S : ST} {St : Nat → ST} {m old : Nat} {no nt ns : Nat → Int32} {ni ne np : Int32} {sr : Nat → SV} {so sc : Int32} {z sv : Nat → Int32} {sm : Int32}
theorem pr_fuse (hc : RLc S St m old no nt ns ni ne np sr so sc) (hm : RLm S St m z sv sm) (th p1 p2 p3 : Int32) :
    ∃ (k : Nat) (r w : Int32), fX4_fuse no nt ni p1 p2 p3 = some (k, r) ∧ fX5_fuse th z p1 p2 p3 = some (r, w) ∧ ((k = 0 ∧ w = nI 0) ∨ (k = 1 ∧ w = nI 1) ∨ (k = 2 ∧ w = nI 2)) := by
  obtain ⟨g, tk, en, pu, se⟩ := S
  have hw : WF g tk se := hc.1
  have hR : RS g tk en pu se no nt ns ni ne np := hc.2.1
  have hZ : RZ g tk en pu se z := hm.1
  obtain rfl : ni = nI tk := hR.2.2.1
  have h2t := hw.2.1
  rcases row_or p1 with ⟨r, hr, rfl⟩ | ⟨a, b⟩
  · have i1 := ix_in hr (by decide)
    have i2 := pX5_isRowT hr
    rcases ix_or p2 (N := 16) (by decide) (by decide) with ⟨f, hf, rfl⟩ | ⟨a, b⟩
    · have i3 := ix_in hf (by decide)
      have i4 := in_in (Nat.zero_le f) (show f ≤ 15 by omega) (by decide)
      rcases ix_or p3 (N := 3) (by decide) (by decide) with ⟨j, hj, rfl⟩ | ⟨a, b⟩
      · have i5 := ix_in hj (by decide)
        have i6 := in_in (Nat.zero_le j) (show j ≤ 2 by omega) (by decide)
        have ck0 : ∀ {β : Type} (b : Option β), k_ck (nI 0) 327 b = b := fun b => kE_ck (by decide) (by decide)
        have cl0 : (nI 0).toNatClampNeg = 0 := nI_clamp (by decide)
        rcases (show j = 0 ∨ j = 1 ∨ j = 2 by omega) with rfl | rfl | rfl
        · refine ⟨0, nI (g r f), nI 0, ?_, ?_, Or.inl ⟨rfl, rfl⟩⟩
          · unfold fX4_fuse; simp only [↓LM1, kE_let, kE_if, kE_b1, kE_b2, kE_b3, kE_b4, kE_b5, kE_b6, kE_b7, kE_b8, kE_b9, kE_j0, kE_j1, kE_j2, kE_j3, kE_j4, L0, L1, L2, L3, L4, L5, L6, L9, L15, L16, L19, L20, L63, L99, L9999, L12, L13, L64, L8, L14, n10, n01, le00, le10, le20, le30, ne20, ne30, ne21, if_true, if_false, not_true_eq_false, not_false_eq_true, i1, i3, i5, pX3_strength hw.1 hR.1 hr hf]
          · unfold fX5_fuse; simp only [↓LM1, kE_let, kE_if, kE_b1, kE_b2, kE_b3, kE_b4, kE_b5, kE_b6, kE_b7, kE_b8, kE_b9, kE_j0, kE_j1, kE_j2, kE_j3, kE_j4, L0, L1, L2, L3, L4, L5, L6, L9, L15, L16, L19, L20, L63, L99, L9999, L12, L13, L64, L8, L14, n10, n01, le00, le10, le20, le30, ne20, ne30, ne21, if_true, if_false, not_true_eq_false, not_false_eq_true, i2, i4, i6, pX5_strength hZ hr hf]
        · have e1 := pX3_readAt (th := false) (k := tk) hw.1 hR.1 hr (by omega)
          have e2 := pX5_reads (th := false) (t := tk) hw.1 hZ hr hf (by omega)
          rw [bI_f Bool.false_ne_true] at e1 e2
          have hm2 := mkN_lt g tk false r
          have e3 : nI (mkN g tk false r) >>> (nI f &&& 31) &&& nI 1 = bI (rdB (g r) r tk false f = true) := by
            rw [L31, nI_31 (by omega), nI_shr (by omega) (by omega), nI_a1, bit_of, mkN_bit _ _ _ _ hf]
          refine ⟨0, bI (rdB (g r) r tk false f = true), nI 0, ?_, ?_, Or.inl ⟨rfl, rfl⟩⟩
          · unfold fX4_fuse; simp only [↓LM1, kE_let, kE_if, kE_b1, kE_b2, kE_b3, kE_b4, kE_b5, kE_b6, kE_b7, kE_b8, kE_b9, kE_j0, kE_j1, kE_j2, kE_j3, kE_j4, L0, L1, L2, L3, L4, L5, L6, L9, L15, L16, L19, L20, L63, L99, L9999, L12, L13, L64, L8, L14, n10, n01, le00, le10, le20, le30, ne20, ne30, ne21, if_true, if_false, not_true_eq_false, not_false_eq_true, i1, i3, i5, show ¬ nI 1 = nI 2 by decide, e1, e3]
          · unfold fX5_fuse; simp only [↓LM1, kE_let, kE_if, kE_b1, kE_b2, kE_b3, kE_b4, kE_b5, kE_b6, kE_b7, kE_b8, kE_b9, kE_j0, kE_j1, kE_j2, kE_j3, kE_j4, L0, L1, L2, L3, L4, L5, L6, L9, L15, L16, L19, L20, L63, L99, L9999, L12, L13, L64, L8, L14, n10, n01, le00, le10, le20, le30, ne20, ne30, ne21, if_true, if_false, not_true_eq_false, not_false_eq_true, i2, i4, i6, show ¬ nI 1 = nI 2 by decide, ck0, cl0, hZ.1, e2]
        · have e1 := pX3_readAt (th := true) (k := tk) hw.1 hR.1 hr (by omega)
          have e2 := pX5_reads (th := true) (t := tk) hw.1 hZ hr hf (by omega)
          rw [bI_t rfl] at e1 e2
          have hm2 := mkN_lt g tk true r
          have e3 : nI (mkN g tk true r) >>> (nI f &&& 31) &&& nI 1 = bI (rdB (g r) r tk true f = true) := by
            rw [L31, nI_31 (by omega), nI_shr (by omega) (by omega), nI_a1, bit_of, mkN_bit _ _ _ _ hf]
          refine ⟨0, bI (rdB (g r) r tk true f = true), nI 0, ?_, ?_, Or.inl ⟨rfl, rfl⟩⟩
          · unfold fX4_fuse; simp only [↓LM1, kE_let, kE_if, kE_b1, kE_b2, kE_b3, kE_b4, kE_b5, kE_b6, kE_b7, kE_b8, kE_b9, kE_j0, kE_j1, kE_j2, kE_j3, kE_j4, L0, L1, L2, L3, L4, L5, L6, L9, L15, L16, L19, L20, L63, L99, L9999, L12, L13, L64, L8, L14, n10, n01, le00, le10, le20, le30, ne20, ne30, ne21, if_true, if_false, not_true_eq_false, not_false_eq_true, i1, i3, i5, e1, e3]
          · unfold fX5_fuse; simp only [↓LM1, kE_let, kE_if, kE_b1, kE_b2, kE_b3, kE_b4, kE_b5, kE_b6, kE_b7, kE_b8, kE_b9, kE_j0, kE_j1, kE_j2, kE_j3, kE_j4, L0, L1, L2, L3, L4, L5, L6, L9, L15, L16, L19, L20, L63, L99, L9999, L12, L13, L64, L8, L14, n10, n01, le00, le10, le20, le30, ne20, ne30, ne21, if_true, if_false, not_true_eq_false, not_false_eq_true, i2, i4, i6, ck0, cl0, hZ.1, e2]
      · have b' : fX5_in p3 (nI 0) (nI 2) = some (nI 0) := b
        refine ⟨2, nI 0, nI 2, ?_, ?_, Or.inr (Or.inr ⟨rfl, rfl⟩)⟩
        · unfold fX4_fuse; simp only [↓LM1, kE_let, kE_if, kE_b1, kE_b2, kE_b3, kE_b4, kE_b5, kE_b6, kE_b7, kE_b8, kE_b9, kE_j0, kE_j1, kE_j2, kE_j3, kE_j4, L0, L1, L2, L3, L4, L5, L6, L9, L15, L16, L19, L20, L63, L99, L9999, L12, L13, L64, L8, L14, n10, n01, le00, le10, le20, le30, ne20, ne30, ne21, if_true, if_false, not_true_eq_false, not_false_eq_true, i1, i3, a]
        · unfold fX5_fuse; simp only [↓LM1, kE_let, kE_if, kE_b1, kE_b2, kE_b3, kE_b4, kE_b5, kE_b6, kE_b7, kE_b8, kE_b9, kE_j0, kE_j1, kE_j2, kE_j3, kE_j4, L0, L1, L2, L3, L4, L5, L6, L9, L15, L16, L19, L20, L63, L99, L9999, L12, L13, L64, L8, L14, n10, n01, le00, le10, le20, le30, ne20, ne30, ne21, if_true, if_false, not_true_eq_false, not_false_eq_true, i2, i4, b']
    · have b' : fX5_in p2 (nI 0) (nI 15) = some (nI 0) := b
      refine ⟨1, nI 0, nI 1, ?_, ?_, Or.inr (Or.inl ⟨rfl, rfl⟩)⟩
      · unfold fX4_fuse; simp only [↓LM1, kE_let, kE_if, kE_b1, kE_b2, kE_b3, kE_b4, kE_b5, kE_b6, kE_b7, kE_b8, kE_b9, kE_j0, kE_j1, kE_j2, kE_j3, kE_j4, L0, L1, L2, L3, L4, L5, L6, L9, L15, L16, L19, L20, L63, L99, L9999, L12, L13, L64, L8, L14, n10, n01, le00, le10, le20, le30, ne20, ne30, ne21, if_true, if_false, not_true_eq_false, not_false_eq_true, i1, a]
      · unfold fX5_fuse; simp only [↓LM1, kE_let, kE_if, kE_b1, kE_b2, kE_b3, kE_b4, kE_b5, kE_b6, kE_b7, kE_b8, kE_b9, kE_j0, kE_j1, kE_j2, kE_j3, kE_j4, L0, L1, L2, L3, L4, L5, L6, L9, L15, L16, L19, L20, L63, L99, L9999, L12, L13, L64, L8, L14, n10, n01, le00, le10, le20, le30, ne20, ne30, ne21, if_true, if_false, not_true_eq_false, not_false_eq_true, i2, b']
  · refine ⟨1, nI 0, nI 1, ?_, ?_, Or.inr (Or.inl ⟨rfl, rfl⟩)⟩
    · unfold fX4_fuse; simp only [↓LM1, kE_let, kE_if, kE_b1, kE_b2, kE_b3, kE_b4, kE_b5, kE_b6, kE_b7, kE_b8, kE_b9, kE_j0, kE_j1, kE_j2, kE_j3, kE_j4, L0, L1, L2, L3, L4, L5, L6, L9, L15, L16, L19, L20, L63, L99, L9999, L12, L13, L64, L8, L14, n10, n01, le00, le10, le20, le30, ne20, ne30, ne21, if_true, if_false, not_true_eq_false, not_false_eq_true, a]
    · unfold fX5_fuse; simp only [↓LM1, kE_let, kE_if, kE_b1, kE_b2, kE_b3, kE_b4, kE_b5, kE_b6, kE_b7, kE_b8, kE_b9, kE_j0, kE_j1, kE_j2, kE_j3, kE_j4, L0, L1, L2, L3, L4, L5, L6, L9, L15, L16, L19, L20, L63, L99, L9999, L12, L13, L64, L8, L14, n10, n01, le00, le10, le20, le30, ne20, ne30, ne21, if_true, if_false, not_true_eq_false, not_false_eq_true, b]
theorem pr_row (hc : RLc S St m old no nt ns ni ne np sr so sc) (hm : RLm S St m z sv sm) (th p1 p2 : Int32) :
    ∃ (k : Nat) (r w : Int32), fX4_row no nt ns ni p1 p2 = some (k, r) ∧ fX5_row th z p1 p2 = some (r, w) ∧ ((k = 0 ∧ w = nI 0) ∨ (k = 1 ∧ w = nI 1) ∨ (k = 2 ∧ w = nI 2)) := by
  obtain ⟨g, tk, en, pu, se⟩ := S
  have hw : WF g tk se := hc.1
  have hR : RS g tk en pu se no nt ns ni ne np := hc.2.1
  have hZ : RZ g tk en pu se z := hm.1
  rcases row_or p1 with ⟨r, hr, rfl⟩ | ⟨a, b⟩
  · have i1 := ix_in hr (by decide)
    have i2 := pX5_isRowT hr
    rcases ix_or p2 (N := 9) (by decide) (by decide) with ⟨j, hj, rfl⟩ | ⟨a, b⟩
    · have i3 := ix_in hj (by decide)
      have i4 := in_in (Nat.zero_le j) (show j ≤ 8 by omega) (by decide)
      refine ⟨0, trN g tk (decide (se 0 = 1)) r j, nI 0, ?_, ?_, Or.inl ⟨rfl, rfl⟩⟩
      · unfold fX4_row; simp only [↓LM1, kE_let, kE_if, kE_b1, kE_b2, kE_b3, kE_b4, kE_b5, kE_b6, kE_b7, kE_b8, kE_b9, kE_j0, kE_j1, kE_j2, kE_j3, kE_j4, L0, L1, L2, L3, L4, L5, L6, L9, L15, L16, L19, L20, L63, L99, L9999, L12, L13, L64, L8, L14, n10, n01, le00, le10, le20, le30, ne20, ne30, ne21, if_true, if_false, not_true_eq_false, not_false_eq_true, i1, i3, pX4_rowProperty hw hR hr hj]
      · unfold fX5_row; simp only [↓LM1, kE_let, kE_if, kE_b1, kE_b2, kE_b3, kE_b4, kE_b5, kE_b6, kE_b7, kE_b8, kE_b9, kE_j0, kE_j1, kE_j2, kE_j3, kE_j4, L0, L1, L2, L3, L4, L5, L6, L9, L15, L16, L19, L20, L63, L99, L9999, L12, L13, L64, L8, L14, n10, n01, le00, le10, le20, le30, ne20, ne30, ne21, if_true, if_false, not_true_eq_false, not_false_eq_true, i2, i4, pX5_toldRow hw hZ hr hj]
    · have b' : fX5_in p2 (nI 0) (nI 8) = some (nI 0) := b
      refine ⟨2, nI 0, nI 2, ?_, ?_, Or.inr (Or.inr ⟨rfl, rfl⟩)⟩
      · unfold fX4_row; simp only [↓LM1, kE_let, kE_if, kE_b1, kE_b2, kE_b3, kE_b4, kE_b5, kE_b6, kE_b7, kE_b8, kE_b9, kE_j0, kE_j1, kE_j2, kE_j3, kE_j4, L0, L1, L2, L3, L4, L5, L6, L9, L15, L16, L19, L20, L63, L99, L9999, L12, L13, L64, L8, L14, n10, n01, le00, le10, le20, le30, ne20, ne30, ne21, if_true, if_false, not_true_eq_false, not_false_eq_true, i1, a]
      · unfold fX5_row; simp only [↓LM1, kE_let, kE_if, kE_b1, kE_b2, kE_b3, kE_b4, kE_b5, kE_b6, kE_b7, kE_b8, kE_b9, kE_j0, kE_j1, kE_j2, kE_j3, kE_j4, L0, L1, L2, L3, L4, L5, L6, L9, L15, L16, L19, L20, L63, L99, L9999, L12, L13, L64, L8, L14, n10, n01, le00, le10, le20, le30, ne20, ne30, ne21, if_true, if_false, not_true_eq_false, not_false_eq_true, i2, b']
  · refine ⟨1, nI 0, nI 1, ?_, ?_, Or.inr (Or.inl ⟨rfl, rfl⟩)⟩
    · unfold fX4_row; simp only [↓LM1, kE_let, kE_if, kE_b1, kE_b2, kE_b3, kE_b4, kE_b5, kE_b6, kE_b7, kE_b8, kE_b9, kE_j0, kE_j1, kE_j2, kE_j3, kE_j4, L0, L1, L2, L3, L4, L5, L6, L9, L15, L16, L19, L20, L63, L99, L9999, L12, L13, L64, L8, L14, n10, n01, le00, le10, le20, le30, ne20, ne30, ne21, if_true, if_false, not_true_eq_false, not_false_eq_true, a]
    · unfold fX5_row; simp only [↓LM1, kE_let, kE_if, kE_b1, kE_b2, kE_b3, kE_b4, kE_b5, kE_b6, kE_b7, kE_b8, kE_b9, kE_j0, kE_j1, kE_j2, kE_j3, kE_j4, L0, L1, L2, L3, L4, L5, L6, L9, L15, L16, L19, L20, L63, L99, L9999, L12, L13, L64, L8, L14, n10, n01, le00, le10, le20, le30, ne20, ne30, ne21, if_true, if_false, not_true_eq_false, not_false_eq_true, b]
theorem pr_key (hc : RLc S St m old no nt ns ni ne np sr so sc) (hm : RLm S St m z sv sm) (th p1 p2 : Int32) :
    ∃ (k : Nat) (r w : Int32), fX4_key no nt ns ni p1 p2 = some (k, r) ∧ fX5_key th z p1 p2 = some (r, w) ∧ ((k = 0 ∧ w = nI 0) ∨ (k = 2 ∧ w = nI 1)) := by
  obtain ⟨g, tk, en, pu, se⟩ := S
  have hw : WF g tk se := hc.1
  have hR : RS g tk en pu se no nt ns ni ne np := hc.2.1
  have hZ : RZ g tk en pu se z := hm.1
  rcases key_or p1 with ⟨r, hr, rfl⟩ | ⟨a, b⟩
  · have i1 := ix_in hr (by decide)
    have i2 := pX5_isKeyT hr
    rcases ix_or p2 (N := 6) (by decide) (by decide) with ⟨j, hj, rfl⟩ | ⟨a, b⟩
    · have i3 := ix_in hj (by decide)
      have i4 := in_in (Nat.zero_le j) (show j ≤ 5 by omega) (by decide)
      refine ⟨0, tyN g tk (decide (se 0 = 1)) r j, nI 0, ?_, ?_, Or.inl ⟨rfl, rfl⟩⟩
      · unfold fX4_key; simp only [↓LM1, kE_let, kE_if, kE_b1, kE_b2, kE_b3, kE_b4, kE_b5, kE_b6, kE_b7, kE_b8, kE_b9, kE_j0, kE_j1, kE_j2, kE_j3, kE_j4, L0, L1, L2, L3, L4, L5, L6, L9, L15, L16, L19, L20, L63, L99, L9999, L12, L13, L64, L8, L14, n10, n01, le00, le10, le20, le30, ne20, ne30, ne21, if_true, if_false, not_true_eq_false, not_false_eq_true, i1, i3, pX4_keyProperty hw hR hr hj]
      · unfold fX5_key; simp only [↓LM1, kE_let, kE_if, kE_b1, kE_b2, kE_b3, kE_b4, kE_b5, kE_b6, kE_b7, kE_b8, kE_b9, kE_j0, kE_j1, kE_j2, kE_j3, kE_j4, L0, L1, L2, L3, L4, L5, L6, L9, L15, L16, L19, L20, L63, L99, L9999, L12, L13, L64, L8, L14, n10, n01, le00, le10, le20, le30, ne20, ne30, ne21, if_true, if_false, not_true_eq_false, not_false_eq_true, i2, i4, pX5_toldKey hw hZ hr hj]
    · have b' : fX5_in p2 (nI 0) (nI 5) = some (nI 0) := b
      refine ⟨2, nI 0, nI 1, ?_, ?_, Or.inr ⟨rfl, rfl⟩⟩
      · unfold fX4_key; simp only [↓LM1, kE_let, kE_if, kE_b1, kE_b2, kE_b3, kE_b4, kE_b5, kE_b6, kE_b7, kE_b8, kE_b9, kE_j0, kE_j1, kE_j2, kE_j3, kE_j4, L0, L1, L2, L3, L4, L5, L6, L9, L15, L16, L19, L20, L63, L99, L9999, L12, L13, L64, L8, L14, n10, n01, le00, le10, le20, le30, ne20, ne30, ne21, if_true, if_false, not_true_eq_false, not_false_eq_true, i1, a]
      · unfold fX5_key; simp only [↓LM1, kE_let, kE_if, kE_b1, kE_b2, kE_b3, kE_b4, kE_b5, kE_b6, kE_b7, kE_b8, kE_b9, kE_j0, kE_j1, kE_j2, kE_j3, kE_j4, L0, L1, L2, L3, L4, L5, L6, L9, L15, L16, L19, L20, L63, L99, L9999, L12, L13, L64, L8, L14, n10, n01, le00, le10, le20, le30, ne20, ne30, ne21, if_true, if_false, not_true_eq_false, not_false_eq_true, i2, b']
  · refine ⟨2, nI 0, nI 1, ?_, ?_, Or.inr ⟨rfl, rfl⟩⟩
    · unfold fX4_key; simp only [↓LM1, kE_let, kE_if, kE_b1, kE_b2, kE_b3, kE_b4, kE_b5, kE_b6, kE_b7, kE_b8, kE_b9, kE_j0, kE_j1, kE_j2, kE_j3, kE_j4, L0, L1, L2, L3, L4, L5, L6, L9, L15, L16, L19, L20, L63, L99, L9999, L12, L13, L64, L8, L14, n10, n01, le00, le10, le20, le30, ne20, ne30, ne21, if_true, if_false, not_true_eq_false, not_false_eq_true, a]
    · unfold fX5_key; simp only [↓LM1, kE_let, kE_if, kE_b1, kE_b2, kE_b3, kE_b4, kE_b5, kE_b6, kE_b7, kE_b8, kE_b9, kE_j0, kE_j1, kE_j2, kE_j3, kE_j4, L0, L1, L2, L3, L4, L5, L6, L9, L15, L16, L19, L20, L63, L99, L9999, L12, L13, L64, L8, L14, n10, n01, le00, le10, le20, le30, ne20, ne30, ne21, if_true, if_false, not_true_eq_false, not_false_eq_true, b]
theorem pr_history (hc : RLc S St m old no nt ns ni ne np sr so sc) (hm : RLm S St m z sv sm) (th p1 p2 : Int32) :
    ∃ (k : Nat) (r w : Int32), fX4_history no nt ns ni p1 p2 = some (k, r) ∧ fX5_history th z p1 p2 = some (r, w) ∧ ((k = 0 ∧ w = nI 0) ∨ (k = 2 ∧ w = nI 1)) := by
  obtain ⟨g, tk, en, pu, se⟩ := S
  have hw : WF g tk se := hc.1
  have hR : RS g tk en pu se no nt ns ni ne np := hc.2.1
  have hZ : RZ g tk en pu se z := hm.1
  rcases key_or p1 with ⟨r, hr, rfl⟩ | ⟨a, b⟩
  · have i1 := ix_in hr (by decide)
    have i2 := pX5_isKeyT hr
    by_cases hb : p2 < nI 0
    · refine ⟨2, nI 0, nI 1, ?_, ?_, Or.inr ⟨rfl, rfl⟩⟩
      · unfold fX4_history; simp only [↓LM1, kE_let, kE_if, kE_b1, kE_b2, kE_b3, kE_b4, kE_b5, kE_b6, kE_b7, kE_b8, kE_b9, kE_j0, kE_j1, kE_j2, kE_j3, kE_j4, L0, L1, L2, L3, L4, L5, L6, L9, L15, L16, L19, L20, L63, L99, L9999, L12, L13, L64, L8, L14, n10, n01, le00, le10, le20, le30, ne20, ne30, ne21, if_true, if_false, not_true_eq_false, not_false_eq_true, i1, if_pos hb]
      · unfold fX5_history; simp only [↓LM1, kE_let, kE_if, kE_b1, kE_b2, kE_b3, kE_b4, kE_b5, kE_b6, kE_b7, kE_b8, kE_b9, kE_j0, kE_j1, kE_j2, kE_j3, kE_j4, L0, L1, L2, L3, L4, L5, L6, L9, L15, L16, L19, L20, L63, L99, L9999, L12, L13, L64, L8, L14, n10, n01, le00, le10, le20, le30, ne20, ne30, ne21, if_true, if_false, not_true_eq_false, not_false_eq_true, i2, if_pos hb]
    · refine ⟨0, earN (rofB g tk (decide (se 0 = 1)) r) (vlV g tk (decide (se 0 = 1))) 20 p2, nI 0, ?_, ?_, Or.inl ⟨rfl, rfl⟩⟩
      · unfold fX4_history; simp only [↓LM1, kE_let, kE_if, kE_b1, kE_b2, kE_b3, kE_b4, kE_b5, kE_b6, kE_b7, kE_b8, kE_b9, kE_j0, kE_j1, kE_j2, kE_j3, kE_j4, L0, L1, L2, L3, L4, L5, L6, L9, L15, L16, L19, L20, L63, L99, L9999, L12, L13, L64, L8, L14, n10, n01, le00, le10, le20, le30, ne20, ne30, ne21, if_true, if_false, not_true_eq_false, not_false_eq_true, i1, if_neg hb, pX3_earlierValue hw hR hr]
      · unfold fX5_history; simp only [↓LM1, kE_let, kE_if, kE_b1, kE_b2, kE_b3, kE_b4, kE_b5, kE_b6, kE_b7, kE_b8, kE_b9, kE_j0, kE_j1, kE_j2, kE_j3, kE_j4, L0, L1, L2, L3, L4, L5, L6, L9, L15, L16, L19, L20, L63, L99, L9999, L12, L13, L64, L8, L14, n10, n01, le00, le10, le20, le30, ne20, ne30, ne21, if_true, if_false, not_true_eq_false, not_false_eq_true, i2, if_neg hb, pX5_earlier hw hZ hr]
  · refine ⟨2, nI 0, nI 1, ?_, ?_, Or.inr ⟨rfl, rfl⟩⟩
    · unfold fX4_history; simp only [↓LM1, kE_let, kE_if, kE_b1, kE_b2, kE_b3, kE_b4, kE_b5, kE_b6, kE_b7, kE_b8, kE_b9, kE_j0, kE_j1, kE_j2, kE_j3, kE_j4, L0, L1, L2, L3, L4, L5, L6, L9, L15, L16, L19, L20, L63, L99, L9999, L12, L13, L64, L8, L14, n10, n01, le00, le10, le20, le30, ne20, ne30, ne21, if_true, if_false, not_true_eq_false, not_false_eq_true, a]
    · unfold fX5_history; simp only [↓LM1, kE_let, kE_if, kE_b1, kE_b2, kE_b3, kE_b4, kE_b5, kE_b6, kE_b7, kE_b8, kE_b9, kE_j0, kE_j1, kE_j2, kE_j3, kE_j4, L0, L1, L2, L3, L4, L5, L6, L9, L15, L16, L19, L20, L63, L99, L9999, L12, L13, L64, L8, L14, n10, n01, le00, le10, le20, le30, ne20, ne30, ne21, if_true, if_false, not_true_eq_false, not_false_eq_true, b]
theorem pr_count (hc : RLc S St m old no nt ns ni ne np sr so sc) (hm : RLm S St m z sv sm) (th p1 : Int32) :
    ∃ (k : Nat) (r w : Int32), fX4_count no nt ns ni ne np sc p1 = some (k, r) ∧ fX5_count th z sm p1 = some (r, w) ∧ ((k = 0 ∧ w = nI 0) ∨ (k = 2 ∧ w = nI 1)) := by
  obtain rfl : sc = nI m := hc.2.2.2.2.2.1
  obtain rfl : sm = nI m := hm.2.2
  obtain ⟨g, tk, en, pu, se⟩ := S
  have hw : WF g tk se := hc.1
  have hR : RS g tk en pu se no nt ns ni ne np := hc.2.1
  have hZ : RZ g tk en pu se z := hm.1
  rcases ix_or p1 (N := 13) (by decide) (by decide) with ⟨j, hj, rfl⟩ | ⟨a, b⟩
  · have i3 := ix_in hj (by decide)
    have i4 := in_in (Nat.zero_le j) (show j ≤ 12 by omega) (by decide)
    refine ⟨0, ctN g tk (decide (se 0 = 1)) en pu m j, nI 0, ?_, ?_, Or.inl ⟨rfl, rfl⟩⟩
    · unfold fX4_count; simp only [↓LM1, kE_let, kE_if, kE_b1, kE_b2, kE_b3, kE_b4, kE_b5, kE_b6, kE_b7, kE_b8, kE_b9, kE_j0, kE_j1, kE_j2, kE_j3, kE_j4, L0, L1, L2, L3, L4, L5, L6, L9, L15, L16, L19, L20, L63, L99, L9999, L12, L13, L64, L8, L14, n10, n01, le00, le10, le20, le30, ne20, ne30, ne21, if_true, if_false, not_true_eq_false, not_false_eq_true, i3, pX4_countOf hw hR hj]
    · unfold fX5_count; simp only [↓LM1, kE_let, kE_if, kE_b1, kE_b2, kE_b3, kE_b4, kE_b5, kE_b6, kE_b7, kE_b8, kE_b9, kE_j0, kE_j1, kE_j2, kE_j3, kE_j4, L0, L1, L2, L3, L4, L5, L6, L9, L15, L16, L19, L20, L63, L99, L9999, L12, L13, L64, L8, L14, n10, n01, le00, le10, le20, le30, ne20, ne30, ne21, if_true, if_false, not_true_eq_false, not_false_eq_true, i4, pX5_counted hw hZ hj]
  · have b' : fX5_in p1 (nI 0) (nI 12) = some (nI 0) := b
    refine ⟨2, nI 0, nI 1, ?_, ?_, Or.inr ⟨rfl, rfl⟩⟩
    · unfold fX4_count; simp only [↓LM1, kE_let, kE_if, kE_b1, kE_b2, kE_b3, kE_b4, kE_b5, kE_b6, kE_b7, kE_b8, kE_b9, kE_j0, kE_j1, kE_j2, kE_j3, kE_j4, L0, L1, L2, L3, L4, L5, L6, L9, L15, L16, L19, L20, L63, L99, L9999, L12, L13, L64, L8, L14, n10, n01, le00, le10, le20, le30, ne20, ne30, ne21, if_true, if_false, not_true_eq_false, not_false_eq_true, a]
    · unfold fX5_count; simp only [↓LM1, kE_let, kE_if, kE_b1, kE_b2, kE_b3, kE_b4, kE_b5, kE_b6, kE_b7, kE_b8, kE_b9, kE_j0, kE_j1, kE_j2, kE_j3, kE_j4, L0, L1, L2, L3, L4, L5, L6, L9, L15, L16, L19, L20, L63, L99, L9999, L12, L13, L64, L8, L14, n10, n01, le00, le10, le20, le30, ne20, ne30, ne21, if_true, if_false, not_true_eq_false, not_false_eq_true, b']
theorem pr_setting (hc : RLc S St m old no nt ns ni ne np sr so sc) (hm : RLm S St m z sv sm) (th p1 : Int32) :
    ∃ (k : Nat) (r w : Int32), fX4_setting ns p1 = some (k, r) ∧ fX5_setting th z p1 = some (r, w) ∧ ((k = 0 ∧ w = nI 0) ∨ (k = 1 ∧ w = nI 1)) := by
  obtain ⟨g, tk, en, pu, se⟩ := S
  have hR : RS g tk en pu se no nt ns ni ne np := hc.2.1
  have hZ : RZ g tk en pu se z := hm.1
  rcases ix_or p1 (N := 4) (by decide) (by decide) with ⟨j, hj, rfl⟩ | ⟨a, b⟩
  · have i3 := ix_in hj (by decide)
    have i4 := in_in (Nat.zero_le j) (show j ≤ 3 by omega) (by decide)
    have ck4 : ∀ {β : Type} (b : Option β), k_ck (nI j) 4 b = b := fun b => kE_ck hj (by decide)
    have cl : (nI j).toNatClampNeg = j := nI_clamp (by omega)
    have ck3 : ∀ {β : Type} (b : Option β), k_ck (nI (3 + j)) 327 b = b := fun b => kE_ck (by omega) (by decide)
    have cl3 : (nI (3 + j)).toNatClampNeg = 3 + j := nI_clamp (by omega)
    refine ⟨0, nI (se j), nI 0, ?_, ?_, Or.inl ⟨rfl, rfl⟩⟩
    · unfold fX4_setting; simp only [↓LM1, kE_let, kE_if, kE_b1, kE_b2, kE_b3, kE_b4, kE_b5, kE_b6, kE_b7, kE_b8, kE_b9, kE_j0, kE_j1, kE_j2, kE_j3, kE_j4, L0, L1, L2, L3, L4, L5, L6, L9, L15, L16, L19, L20, L63, L99, L9999, L12, L13, L64, L8, L14, n10, n01, le00, le10, le20, le30, ne20, ne30, ne21, if_true, if_false, not_true_eq_false, not_false_eq_true, i3, ck4, cl, hR.2.1 j hj]
    · unfold fX5_setting; simp only [↓LM1, kE_let, kE_if, kE_b1, kE_b2, kE_b3, kE_b4, kE_b5, kE_b6, kE_b7, kE_b8, kE_b9, kE_j0, kE_j1, kE_j2, kE_j3, kE_j4, L0, L1, L2, L3, L4, L5, L6, L9, L15, L16, L19, L20, L63, L99, L9999, L12, L13, L64, L8, L14, n10, n01, le00, le10, le20, le30, ne20, ne30, ne21, if_true, if_false, not_true_eq_false, not_false_eq_true, i4, nI_add, ck3, cl3, hZ.2.2.2.1 j hj]
  · have b' : fX5_in p1 (nI 0) (nI 3) = some (nI 0) := b
    refine ⟨1, nI 0, nI 1, ?_, ?_, Or.inr ⟨rfl, rfl⟩⟩
    · unfold fX4_setting; simp only [↓LM1, kE_let, kE_if, kE_b1, kE_b2, kE_b3, kE_b4, kE_b5, kE_b6, kE_b7, kE_b8, kE_b9, kE_j0, kE_j1, kE_j2, kE_j3, kE_j4, L0, L1, L2, L3, L4, L5, L6, L9, L15, L16, L19, L20, L63, L99, L9999, L12, L13, L64, L8, L14, n10, n01, le00, le10, le20, le30, ne20, ne30, ne21, if_true, if_false, not_true_eq_false, not_false_eq_true, a]
    · unfold fX5_setting; simp only [↓LM1, kE_let, kE_if, kE_b1, kE_b2, kE_b3, kE_b4, kE_b5, kE_b6, kE_b7, kE_b8, kE_b9, kE_j0, kE_j1, kE_j2, kE_j3, kE_j4, L0, L1, L2, L3, L4, L5, L6, L9, L15, L16, L19, L20, L63, L99, L9999, L12, L13, L64, L8, L14, n10, n01, le00, le10, le20, le30, ne20, ne30, ne21, if_true, if_false, not_true_eq_false, not_false_eq_true, b']
theorem pr_ifPut (hc : RLc S St m old no nt ns ni ne np sr so sc) (hm : RLm S St m z sv sm) (th : Int32) (a b c : Nat → Int32) (d e f : Int32) (sp : Nat → Int32) (mb p1 p2 p3 : Int32) :
    ∃ (k : Nat) (r w : Int32) (a' b' c' : Nat → Int32) (d' e' f' : Int32) (z' sp' : Nat → Int32) (mb' : Int32), fX4_ifPut no nt ns ni ne np a b c d e f p1 p2 p3 = some (k, r, a', b', c', d', e', f') ∧ fX5_ifPut th z sp mb p1 p2 p3 = some (r, w, z', sp', mb') ∧ ((k = 0 ∧ w = nI 0) ∨ (k = 2 ∧ w = nI 1)) ∧ RLm S St m z' sv sm := by
  obtain ⟨g, tk, en, pu, se⟩ := S
  have hw : WF g tk se := hc.1
  have hR : RS g tk en pu se no nt ns ni ne np := hc.2.1
  have hZ : RZ g tk en pu se z := hm.1
  rcases key_or p1 with ⟨k, hk, rfl⟩ | ⟨q1, q2⟩
  · have i1 := ix_in hk (by decide)
    have i2 := pX5_isKeyT hk
    rcases ix_or p2 (N := 64) (by decide) (by decide) with ⟨v, hv, rfl⟩ | ⟨q1, q2⟩
    · have i3 := ix_in hv (by decide)
      have i4 := in_in (Nat.zero_le v) (show v ≤ 63 by omega) (by decide)
      rcases ix_or p3 (N := 5) (by decide) (by decide) with ⟨j, hj, rfl⟩ | ⟨q1, q2⟩
      · have i5 := ix_in hj (by decide)
        have i6 := in_in (Nat.zero_le j) (show j ≤ 4 by omega) (by decide)
        obtain ⟨a', b', c', d', e', f', h1⟩ := pX4_putOutcome hw hR hk hv hj a b c d e f
        obtain ⟨z', sp', mb', h2, h3⟩ := pX5_wouldPut hw hZ sp mb hk hv hj
        refine ⟨0, wpN g tk en se k v j, nI 0, a', b', c', d', e', f', z', sp', mb', ?_, ?_, Or.inl ⟨rfl, rfl⟩, h3, hm.2⟩
        · unfold fX4_ifPut; simp only [↓LM1, kE_let, kE_if, kE_b1, kE_b2, kE_b3, kE_b4, kE_b5, kE_b6, kE_b7, kE_b8, kE_b9, kE_j0, kE_j1, kE_j2, kE_j3, kE_j4, L0, L1, L2, L3, L4, L5, L6, L9, L15, L16, L19, L20, L63, L99, L9999, L12, L13, L64, L8, L14, n10, n01, le00, le10, le20, le30, ne20, ne30, ne21, if_true, if_false, not_true_eq_false, not_false_eq_true, i1, i3, i5, h1]
        · unfold fX5_ifPut; simp only [↓LM1, kE_let, kE_if, kE_b1, kE_b2, kE_b3, kE_b4, kE_b5, kE_b6, kE_b7, kE_b8, kE_b9, kE_j0, kE_j1, kE_j2, kE_j3, kE_j4, L0, L1, L2, L3, L4, L5, L6, L9, L15, L16, L19, L20, L63, L99, L9999, L12, L13, L64, L8, L14, n10, n01, le00, le10, le20, le30, ne20, ne30, ne21, if_true, if_false, not_true_eq_false, not_false_eq_true, i2, i4, i6, h2]
      · have q3 : fX5_in p3 (nI 0) (nI 4) = some (nI 0) := q2
        refine ⟨2, nI 0, nI 1, a, b, c, d, e, f, z, sp, mb, ?_, ?_, Or.inr ⟨rfl, rfl⟩, hm⟩
        · unfold fX4_ifPut; simp only [↓LM1, kE_let, kE_if, kE_b1, kE_b2, kE_b3, kE_b4, kE_b5, kE_b6, kE_b7, kE_b8, kE_b9, kE_j0, kE_j1, kE_j2, kE_j3, kE_j4, L0, L1, L2, L3, L4, L5, L6, L9, L15, L16, L19, L20, L63, L99, L9999, L12, L13, L64, L8, L14, n10, n01, le00, le10, le20, le30, ne20, ne30, ne21, if_true, if_false, not_true_eq_false, not_false_eq_true, i1, i3, q1]
        · unfold fX5_ifPut; simp only [↓LM1, kE_let, kE_if, kE_b1, kE_b2, kE_b3, kE_b4, kE_b5, kE_b6, kE_b7, kE_b8, kE_b9, kE_j0, kE_j1, kE_j2, kE_j3, kE_j4, L0, L1, L2, L3, L4, L5, L6, L9, L15, L16, L19, L20, L63, L99, L9999, L12, L13, L64, L8, L14, n10, n01, le00, le10, le20, le30, ne20, ne30, ne21, if_true, if_false, not_true_eq_false, not_false_eq_true, i2, i4, q3]
    · have q3 : fX5_in p2 (nI 0) (nI 63) = some (nI 0) := q2
      refine ⟨2, nI 0, nI 1, a, b, c, d, e, f, z, sp, mb, ?_, ?_, Or.inr ⟨rfl, rfl⟩, hm⟩
      · unfold fX4_ifPut; simp only [↓LM1, kE_let, kE_if, kE_b1, kE_b2, kE_b3, kE_b4, kE_b5, kE_b6, kE_b7, kE_b8, kE_b9, kE_j0, kE_j1, kE_j2, kE_j3, kE_j4, L0, L1, L2, L3, L4, L5, L6, L9, L15, L16, L19, L20, L63, L99, L9999, L12, L13, L64, L8, L14, n10, n01, le00, le10, le20, le30, ne20, ne30, ne21, if_true, if_false, not_true_eq_false, not_false_eq_true, i1, q1]
      · unfold fX5_ifPut; simp only [↓LM1, kE_let, kE_if, kE_b1, kE_b2, kE_b3, kE_b4, kE_b5, kE_b6, kE_b7, kE_b8, kE_b9, kE_j0, kE_j1, kE_j2, kE_j3, kE_j4, L0, L1, L2, L3, L4, L5, L6, L9, L15, L16, L19, L20, L63, L99, L9999, L12, L13, L64, L8, L14, n10, n01, le00, le10, le20, le30, ne20, ne30, ne21, if_true, if_false, not_true_eq_false, not_false_eq_true, i2, q3]
  · refine ⟨2, nI 0, nI 1, a, b, c, d, e, f, z, sp, mb, ?_, ?_, Or.inr ⟨rfl, rfl⟩, hm⟩
    · unfold fX4_ifPut; simp only [↓LM1, kE_let, kE_if, kE_b1, kE_b2, kE_b3, kE_b4, kE_b5, kE_b6, kE_b7, kE_b8, kE_b9, kE_j0, kE_j1, kE_j2, kE_j3, kE_j4, L0, L1, L2, L3, L4, L5, L6, L9, L15, L16, L19, L20, L63, L99, L9999, L12, L13, L64, L8, L14, n10, n01, le00, le10, le20, le30, ne20, ne30, ne21, if_true, if_false, not_true_eq_false, not_false_eq_true, q1]
    · unfold fX5_ifPut; simp only [↓LM1, kE_let, kE_if, kE_b1, kE_b2, kE_b3, kE_b4, kE_b5, kE_b6, kE_b7, kE_b8, kE_b9, kE_j0, kE_j1, kE_j2, kE_j3, kE_j4, L0, L1, L2, L3, L4, L5, L6, L9, L15, L16, L19, L20, L63, L99, L9999, L12, L13, L64, L8, L14, n10, n01, le00, le10, le20, le30, ne20, ne30, ne21, if_true, if_false, not_true_eq_false, not_false_eq_true, q2]
theorem pr_ifHeated (hc : RLc S St m old no nt ns ni ne np sr so sc) (hm : RLm S St m z sv sm) (th : Int32) (a b c : Nat → Int32) (d e f : Int32) (sp bf : Nat → Int32) (p1 p2 : Int32) :
    ∃ (k : Nat) (r w : Int32) (a' b' c' : Nat → Int32) (d' e' f' : Int32) (z' sp' bf' : Nat → Int32), fX4_ifHeated no nt ns ni ne np a b c d e f p1 p2 = some (k, r, a', b', c', d', e', f') ∧ fX5_ifHeated th z sp bf p1 p2 = some (r, w, z', sp', bf') ∧ ((k = 0 ∧ w = nI 0) ∨ (k = 2 ∧ w = nI 1)) ∧ RLm S St m z' sv sm := by
  obtain ⟨g, tk, en, pu, se⟩ := S
  have hw : WF g tk se := hc.1
  have hR : RS g tk en pu se no nt ns ni ne np := hc.2.1
  have hZ : RZ g tk en pu se z := hm.1
  rcases wi_or p1 (lo := 1) (hi := 9) (by decide) (by decide) with ⟨k, k1, k2, rfl⟩ | ⟨q1, q2⟩
  · have i1 := wi_in k1 k2 (by decide)
    have i2 := in_in k1 k2 (by decide)
    rcases ix_or p2 (N := 3) (by decide) (by decide) with ⟨j, hj, rfl⟩ | ⟨q1, q2⟩
    · have i5 := ix_in hj (by decide)
      have i6 := in_in (Nat.zero_le j) (show j ≤ 2 by omega) (by decide)
      obtain ⟨a', b', c', d', e', f', h1⟩ := pX4_heatOutcome hw hR (d := k) (by omega) hj a b c d e f
      obtain ⟨z', sp', bf', h2, h3⟩ := pX5_wouldHeat hw hZ sp bf (d := k) (by omega) hj
      refine ⟨0, whN g tk se k j, nI 0, a', b', c', d', e', f', z', sp', bf', ?_, ?_, Or.inl ⟨rfl, rfl⟩, h3, hm.2⟩
      · unfold fX4_ifHeated; simp only [↓LM1, kE_let, kE_if, kE_b1, kE_b2, kE_b3, kE_b4, kE_b5, kE_b6, kE_b7, kE_b8, kE_b9, kE_j0, kE_j1, kE_j2, kE_j3, kE_j4, L0, L1, L2, L3, L4, L5, L6, L9, L15, L16, L19, L20, L63, L99, L9999, L12, L13, L64, L8, L14, n10, n01, le00, le10, le20, le30, ne20, ne30, ne21, if_true, if_false, not_true_eq_false, not_false_eq_true, i1, i5, h1]
      · unfold fX5_ifHeated; simp only [↓LM1, kE_let, kE_if, kE_b1, kE_b2, kE_b3, kE_b4, kE_b5, kE_b6, kE_b7, kE_b8, kE_b9, kE_j0, kE_j1, kE_j2, kE_j3, kE_j4, L0, L1, L2, L3, L4, L5, L6, L9, L15, L16, L19, L20, L63, L99, L9999, L12, L13, L64, L8, L14, n10, n01, le00, le10, le20, le30, ne20, ne30, ne21, if_true, if_false, not_true_eq_false, not_false_eq_true, i2, i6, h2]
    · have q3 : fX5_in p2 (nI 0) (nI 2) = some (nI 0) := q2
      refine ⟨2, nI 0, nI 1, a, b, c, d, e, f, z, sp, bf, ?_, ?_, Or.inr ⟨rfl, rfl⟩, hm⟩
      · unfold fX4_ifHeated; simp only [↓LM1, kE_let, kE_if, kE_b1, kE_b2, kE_b3, kE_b4, kE_b5, kE_b6, kE_b7, kE_b8, kE_b9, kE_j0, kE_j1, kE_j2, kE_j3, kE_j4, L0, L1, L2, L3, L4, L5, L6, L9, L15, L16, L19, L20, L63, L99, L9999, L12, L13, L64, L8, L14, n10, n01, le00, le10, le20, le30, ne20, ne30, ne21, if_true, if_false, not_true_eq_false, not_false_eq_true, i1, q1]
      · unfold fX5_ifHeated; simp only [↓LM1, kE_let, kE_if, kE_b1, kE_b2, kE_b3, kE_b4, kE_b5, kE_b6, kE_b7, kE_b8, kE_b9, kE_j0, kE_j1, kE_j2, kE_j3, kE_j4, L0, L1, L2, L3, L4, L5, L6, L9, L15, L16, L19, L20, L63, L99, L9999, L12, L13, L64, L8, L14, n10, n01, le00, le10, le20, le30, ne20, ne30, ne21, if_true, if_false, not_true_eq_false, not_false_eq_true, i2, q3]
  · refine ⟨2, nI 0, nI 1, a, b, c, d, e, f, z, sp, bf, ?_, ?_, Or.inr ⟨rfl, rfl⟩, hm⟩
    · unfold fX4_ifHeated; simp only [↓LM1, kE_let, kE_if, kE_b1, kE_b2, kE_b3, kE_b4, kE_b5, kE_b6, kE_b7, kE_b8, kE_b9, kE_j0, kE_j1, kE_j2, kE_j3, kE_j4, L0, L1, L2, L3, L4, L5, L6, L9, L15, L16, L19, L20, L63, L99, L9999, L12, L13, L64, L8, L14, n10, n01, le00, le10, le20, le30, ne20, ne30, ne21, if_true, if_false, not_true_eq_false, not_false_eq_true, q1]
    · unfold fX5_ifHeated; simp only [↓LM1, kE_let, kE_if, kE_b1, kE_b2, kE_b3, kE_b4, kE_b5, kE_b6, kE_b7, kE_b8, kE_b9, kE_j0, kE_j1, kE_j2, kE_j3, kE_j4, L0, L1, L2, L3, L4, L5, L6, L9, L15, L16, L19, L20, L63, L99, L9999, L12, L13, L64, L8, L14, n10, n01, le00, le10, le20, le30, ne20, ne30, ne21, if_true, if_false, not_true_eq_false, not_false_eq_true, q2]
theorem pr_ifRead (hc : RLc S St m old no nt ns ni ne np sr so sc) (hm : RLm S St m z sv sm) (th p1 : Int32) (b : Bool) :
    ∃ (k : Nat) (r w : Int32), fX4_ifRead no nt ns ni p1 (bI (b = true)) = some (k, r) ∧ fX5_ifRead th z p1 (bI (b = true)) = some (r, w) ∧ ((k = 0 ∧ w = nI 0) ∨ (k = 2 ∧ w = nI 1)) := by
  obtain ⟨g, tk, en, pu, se⟩ := S
  have hw : WF g tk se := hc.1
  have hR : RS g tk en pu se no nt ns ni ne np := hc.2.1
  have hZ : RZ g tk en pu se z := hm.1
  rcases wi_or p1 (lo := 0) (hi := 99) (by decide) (by decide) with ⟨k, k1, k2, rfl⟩ | ⟨q1, q2⟩
  · have i1 := wi_in k1 k2 (by decide)
    have i2 := in_in k1 k2 (by decide)
    have h1 := pX4_valuesRead (a := k) (th := b) hw hR (by omega)
    have h2 := pX5_wouldRead (a := k) (th := b) hw hZ (by omega)
    refine ⟨0, nI (cnt (fun q => decide (valN g tk (decide (se 0 = 1)) q ≠ valN g (tk + k) b q)) 16), nI 0, ?_, ?_, Or.inl ⟨rfl, rfl⟩⟩
    · unfold fX4_ifRead; simp only [↓LM1, kE_let, kE_if, kE_b1, kE_b2, kE_b3, kE_b4, kE_b5, kE_b6, kE_b7, kE_b8, kE_b9, kE_j0, kE_j1, kE_j2, kE_j3, kE_j4, L0, L1, L2, L3, L4, L5, L6, L9, L15, L16, L19, L20, L63, L99, L9999, L12, L13, L64, L8, L14, n10, n01, le00, le10, le20, le30, ne20, ne30, ne21, if_true, if_false, not_true_eq_false, not_false_eq_true, i1, h1]
    · unfold fX5_ifRead; simp only [↓LM1, kE_let, kE_if, kE_b1, kE_b2, kE_b3, kE_b4, kE_b5, kE_b6, kE_b7, kE_b8, kE_b9, kE_j0, kE_j1, kE_j2, kE_j3, kE_j4, L0, L1, L2, L3, L4, L5, L6, L9, L15, L16, L19, L20, L63, L99, L9999, L12, L13, L64, L8, L14, n10, n01, le00, le10, le20, le30, ne20, ne30, ne21, if_true, if_false, not_true_eq_false, not_false_eq_true, i2, h2]
  · refine ⟨2, nI 0, nI 1, ?_, ?_, Or.inr ⟨rfl, rfl⟩⟩
    · unfold fX4_ifRead; simp only [↓LM1, kE_let, kE_if, kE_b1, kE_b2, kE_b3, kE_b4, kE_b5, kE_b6, kE_b7, kE_b8, kE_b9, kE_j0, kE_j1, kE_j2, kE_j3, kE_j4, L0, L1, L2, L3, L4, L5, L6, L9, L15, L16, L19, L20, L63, L99, L9999, L12, L13, L64, L8, L14, n10, n01, le00, le10, le20, le30, ne20, ne30, ne21, if_true, if_false, not_true_eq_false, not_false_eq_true, q1]
    · unfold fX5_ifRead; simp only [↓LM1, kE_let, kE_if, kE_b1, kE_b2, kE_b3, kE_b4, kE_b5, kE_b6, kE_b7, kE_b8, kE_b9, kE_j0, kE_j1, kE_j2, kE_j3, kE_j4, L0, L1, L2, L3, L4, L5, L6, L9, L15, L16, L19, L20, L63, L99, L9999, L12, L13, L64, L8, L14, n10, n01, le00, le10, le20, le30, ne20, ne30, ne21, if_true, if_false, not_true_eq_false, not_false_eq_true, q2]
theorem pr_worst (hc : RLc S St m old no nt ns ni ne np sr so sc) (hm : RLm S St m z sv sm) (th : Int32) : ∃ r : Int32, fX4_worst no nt ns ni = some r ∧ fX5_worst th z = some (r, nI 0) := by
  obtain ⟨g, tk, en, pu, se⟩ := S
  refine ⟨_, pX4_worst (g := g) (tk := tk) (en := en) (pu := pu) (se := se) hc.1 hc.2.1, ?_⟩
  unfold fX5_worst
  rw [pX5_worstNow (g := g) (tk := tk) (en := en) (pu := pu) (se := se) hc.1 hm.1, kE_b1, L0]
theorem pr_sureShare (hc : RLc S St m old no nt ns ni ne np sr so sc) (hm : RLm S St m z sv sm) (th : Int32) : ∃ r : UInt64, fX4_sureShare no nt = some r ∧ fX5_sureShare th z = some (r, nI 0) ∧ FP.dcmp r r = some .eq := by
  obtain ⟨g, tk, en, pu, se⟩ := S
  have hw : WF g tk se := hc.1
  have hR : RS g tk en pu se no nt ns ni ne np := hc.2.1
  have hZ : RZ g tk en pu se z := hm.1
  refine ⟨_, pX4_sureShare hw.1 hR.1, ?_, FP.Core.dcmp_self (shr_nn (sur_le g 20) (blw_le g))⟩
  unfold fX5_sureShare
  rw [pX5_share hw.1 hZ, kE_b1, L0]
end PL
