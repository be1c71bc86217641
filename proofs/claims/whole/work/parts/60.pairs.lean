/-! the methods in pairs: the class's and the model's, from states alike to states alike -/
theorem le00 : nI 0 ≤ nI 0 := Int32.le_refl _
theorem le10 : ¬ nI 1 ≤ nI 0 := by decide
theorem le20 : ¬ nI 2 ≤ nI 0 := by decide
theorem le30 : ¬ nI 3 ≤ nI 0 := by decide
theorem ne20 : ¬ nI 2 = nI 0 := by decide
theorem ne30 : ¬ nI 3 = nI 0 := by decide
theorem ne21 : ¬ nI 2 = nI 1 := by decide
theorem wi_in {j lo hi : Nat} (h1 : lo ≤ j) (h2 : j ≤ hi) (h : hi < 2 ^ 31) : fX4_isWithin (nI j) (nI lo) (nI hi) = some (nI 1) := in_in h1 h2 h
theorem row_or (x : Int32) : (∃ r, r < 20 ∧ x = nI r) ∨ (fX4_isIndex x (nI 20) = some (nI 0) ∧ fX5_isRow x = some (nI 0)) := by
  rcases ix_or x (N := 20) (by decide) (by decide) with h | ⟨a, b⟩
  · exact Or.inl h
  · right
    have b' : fX5_in x (nI 0) (nI 19) = some (nI 0) := b
    refine ⟨a, ?_⟩
    unfold fX5_isRow
    rw [L0, L19, b', kE_b1, kE_bz0]
theorem key_or (x : Int32) : (∃ r, r < 16 ∧ x = nI r) ∨ (fX4_isIndex x (nI 16) = some (nI 0) ∧ fX5_isKey x = some (nI 0)) := by
  rcases ix_or x (N := 16) (by decide) (by decide) with h | ⟨a, b⟩
  · exact Or.inl h
  · right
    have b' : fX5_in x (nI 0) (nI 15) = some (nI 0) := b
    refine ⟨a, ?_⟩
    unfold fX5_isKey
    rw [L0, L15, b', kE_b1, kE_bz0]
section PR
variable {S : ST} {St : Nat → ST} {m old : Nat} {no nt ns : Nat → Int32} {ni ne np : Int32} {sr : Nat → SV} {so sc : Int32} {z sv : Nat → Int32} {sm : Int32}
theorem pr_blow (hc : RLc S St m old no nt ns ni ne np sr so sc) (hm : RLm S St m z sv sm) (th p1 p2 p3 : Int32) :
    ∃ (k : Nat) (r w : Int32) (S' : ST) (St' : Nat → ST) (m' old' : Nat) (no' nt' : Nat → Int32) (ne' : Int32) (sr' : Nat → SV) (z' sv' : Nat → Int32), fX4_blow no nt ns ni ne np sr so sc p1 p2 p3 = some (k, r, no', nt', ne', sr', nI old', nI m') ∧ fX5_blow th z sv sm p1 p2 p3 = some (r, w, z', sv', nI m') ∧ ((k = 0 ∧ w = nI 0) ∨ (k = 1 ∧ w = nI 1) ∨ (k = 2 ∧ w = nI 2) ∨ (k = 3 ∧ w = nI 3)) ∧ RLc S' St' m' old' no' nt' ns ni ne' np sr' (nI old') (nI m') ∧ RLm S' St' m' z' sv' (nI m') := by
  obtain rfl : so = nI old := hc.2.2.2.2.1
  obtain rfl : sc = nI m := hc.2.2.2.2.2.1
  obtain rfl : sm = nI m := hm.2.2
  obtain ⟨sr', old', sv', s1, s2, s3⟩ := RL_save hc hm
  obtain ⟨g, tk, en, pu, se⟩ := S
  have hw : WF g tk se := hc.1
  have hR : RS g tk en pu se no nt ns ni ne np := hc.2.1
  have hZ : RZ g tk en pu se z := hm.1
  obtain rfl : ne = en := hR.2.2.2.1
  rcases row_or p1 with ⟨r, hr, rfl⟩ | ⟨a, b⟩
  · have i1 := ix_in hr (by decide)
    have i2 := pX5_isRowT hr
    rcases ix_or p2 (N := 16) (by decide) (by decide) with ⟨f, hf, rfl⟩ | ⟨a, b⟩
    · have i3 := ix_in hf (by decide)
      have i4 := in_in (Nat.zero_le f) (show f ≤ 15 by omega) (by decide)
      rcases wi_or p3 (lo := 1) (hi := 3) (by decide) (by decide) with ⟨c, c1, c2, rfl⟩ | ⟨a, b⟩
      · have i5 := wi_in c1 c2 (by decide)
        have i6 := in_in c1 c2 (by decide)
        by_cases hl : 2 ≤ g r 15
        · have l1 := pX3_isLocked hw hR hr
          have l2 := pX5_isLocked hw hZ hr
          rw [bI_t hl] at l1 l2
          refine ⟨3, nI 0, (nI 3), (g, tk, ne, pu, se), St, m, old, no, nt, ne, sr, z, sv, ?_, ?_, (Or.inr (Or.inr (Or.inr ⟨rfl, rfl⟩))), hc, hm⟩
          · unfold fX4_blow; simp only [↓LM1, kE_let, kE_if, kE_b1, kE_b2, kE_b3, kE_b4, kE_b5, kE_b6, kE_b7, kE_b8, kE_b9, kE_j0, kE_j1, kE_j2, kE_j3, kE_j4, L0, L1, L2, L3, L4, L5, L6, L9, L15, L16, L19, L20, L63, L99, L9999, L12, L13, L64, L8, L14, n10, n01, le00, le10, le20, le30, ne20, ne30, ne21, if_true, if_false, not_true_eq_false, not_false_eq_true, i1, i3, i5, l1]
          · unfold fX5_blow; simp only [↓LM1, kE_let, kE_if, kE_b1, kE_b2, kE_b3, kE_b4, kE_b5, kE_b6, kE_b7, kE_b8, kE_b9, kE_j0, kE_j1, kE_j2, kE_j3, kE_j4, L0, L1, L2, L3, L4, L5, L6, L9, L15, L16, L19, L20, L63, L99, L9999, L12, L13, L64, L8, L14, n10, n01, le00, le10, le20, le30, ne20, ne30, ne21, if_true, if_false, not_true_eq_false, not_false_eq_true, i2, i4, i6, l2]
        · have l1 := pX3_isLocked hw hR hr
          have l2 := pX5_isLocked hw hZ hr
          rw [bI_f hl] at l1 l2
          obtain ⟨o', t', d1, d2⟩ := pX3_blowFuse (ey := ne) hw.1 hR.1 hr hf (c := c) c2
          obtain ⟨z', e1, e2⟩ := pX5_blowOne hZ hr hf (hw.1 r f) (c := c) (by omega)
          have hg' := blG_le hw.1 (r := r) (f := f) (c := c) c2
          obtain ⟨u1, u2⟩ := s3 (blG g r f c, tk, ne + nI c, pu, se) o' t' ns ni (ne + nI c) np z' (hw.wG hg') ⟨d2, hR.2.1, hR.2.2.1, rfl, hR.2.2.2.2⟩ e2
          refine ⟨0, nI (blG g r f c r f), nI 0, _, _, _, old', o', t', ne + nI c, sr', z', sv', ?_, ?_, Or.inl ⟨rfl, rfl⟩, u1, u2⟩
          · unfold fX4_blow; simp only [↓LM1, kE_let, kE_if, kE_b1, kE_b2, kE_b3, kE_b4, kE_b5, kE_b6, kE_b7, kE_b8, kE_b9, kE_j0, kE_j1, kE_j2, kE_j3, kE_j4, L0, L1, L2, L3, L4, L5, L6, L9, L15, L16, L19, L20, L63, L99, L9999, L12, L13, L64, L8, L14, n10, n01, le00, le10, le20, le30, ne20, ne30, ne21, if_true, if_false, not_true_eq_false, not_false_eq_true, i1, i3, i5, l1, s1, d1, pX3_strength hg' d2 hr hf]
          · unfold fX5_blow; simp only [↓LM1, kE_let, kE_if, kE_b1, kE_b2, kE_b3, kE_b4, kE_b5, kE_b6, kE_b7, kE_b8, kE_b9, kE_j0, kE_j1, kE_j2, kE_j3, kE_j4, L0, L1, L2, L3, L4, L5, L6, L9, L15, L16, L19, L20, L63, L99, L9999, L12, L13, L64, L8, L14, n10, n01, le00, le10, le20, le30, ne20, ne30, ne21, if_true, if_false, not_true_eq_false, not_false_eq_true, i2, i4, i6, l2, s2, e1, pX5_strength e2 hr hf]
      · refine ⟨2, nI 0, (nI 2), (g, tk, ne, pu, se), St, m, old, no, nt, ne, sr, z, sv, ?_, ?_, (Or.inr (Or.inr (Or.inl ⟨rfl, rfl⟩))), hc, hm⟩
        · unfold fX4_blow; simp only [↓LM1, kE_let, kE_if, kE_b1, kE_b2, kE_b3, kE_b4, kE_b5, kE_b6, kE_b7, kE_b8, kE_b9, kE_j0, kE_j1, kE_j2, kE_j3, kE_j4, L0, L1, L2, L3, L4, L5, L6, L9, L15, L16, L19, L20, L63, L99, L9999, L12, L13, L64, L8, L14, n10, n01, le00, le10, le20, le30, ne20, ne30, ne21, if_true, if_false, not_true_eq_false, not_false_eq_true, i1, i3, a]
        · unfold fX5_blow; simp only [↓LM1, kE_let, kE_if, kE_b1, kE_b2, kE_b3, kE_b4, kE_b5, kE_b6, kE_b7, kE_b8, kE_b9, kE_j0, kE_j1, kE_j2, kE_j3, kE_j4, L0, L1, L2, L3, L4, L5, L6, L9, L15, L16, L19, L20, L63, L99, L9999, L12, L13, L64, L8, L14, n10, n01, le00, le10, le20, le30, ne20, ne30, ne21, if_true, if_false, not_true_eq_false, not_false_eq_true, i2, i4, b]
    · have b' : fX5_in p2 (nI 0) (nI 15) = some (nI 0) := b
      refine ⟨1, nI 0, (nI 1), (g, tk, ne, pu, se), St, m, old, no, nt, ne, sr, z, sv, ?_, ?_, (Or.inr (Or.inl ⟨rfl, rfl⟩)), hc, hm⟩
      · unfold fX4_blow; simp only [↓LM1, kE_let, kE_if, kE_b1, kE_b2, kE_b3, kE_b4, kE_b5, kE_b6, kE_b7, kE_b8, kE_b9, kE_j0, kE_j1, kE_j2, kE_j3, kE_j4, L0, L1, L2, L3, L4, L5, L6, L9, L15, L16, L19, L20, L63, L99, L9999, L12, L13, L64, L8, L14, n10, n01, le00, le10, le20, le30, ne20, ne30, ne21, if_true, if_false, not_true_eq_false, not_false_eq_true, i1, a]
      · unfold fX5_blow; simp only [↓LM1, kE_let, kE_if, kE_b1, kE_b2, kE_b3, kE_b4, kE_b5, kE_b6, kE_b7, kE_b8, kE_b9, kE_j0, kE_j1, kE_j2, kE_j3, kE_j4, L0, L1, L2, L3, L4, L5, L6, L9, L15, L16, L19, L20, L63, L99, L9999, L12, L13, L64, L8, L14, n10, n01, le00, le10, le20, le30, ne20, ne30, ne21, if_true, if_false, not_true_eq_false, not_false_eq_true, i2, b']
  · refine ⟨1, nI 0, (nI 1), (g, tk, ne, pu, se), St, m, old, no, nt, ne, sr, z, sv, ?_, ?_, (Or.inr (Or.inl ⟨rfl, rfl⟩)), hc, hm⟩
    · unfold fX4_blow; simp only [↓LM1, kE_let, kE_if, kE_b1, kE_b2, kE_b3, kE_b4, kE_b5, kE_b6, kE_b7, kE_b8, kE_b9, kE_j0, kE_j1, kE_j2, kE_j3, kE_j4, L0, L1, L2, L3, L4, L5, L6, L9, L15, L16, L19, L20, L63, L99, L9999, L12, L13, L64, L8, L14, n10, n01, le00, le10, le20, le30, ne20, ne30, ne21, if_true, if_false, not_true_eq_false, not_false_eq_true, a]
    · unfold fX5_blow; simp only [↓LM1, kE_let, kE_if, kE_b1, kE_b2, kE_b3, kE_b4, kE_b5, kE_b6, kE_b7, kE_b8, kE_b9, kE_j0, kE_j1, kE_j2, kE_j3, kE_j4, L0, L1, L2, L3, L4, L5, L6, L9, L15, L16, L19, L20, L63, L99, L9999, L12, L13, L64, L8, L14, n10, n01, le00, le10, le20, le30, ne20, ne30, ne21, if_true, if_false, not_true_eq_false, not_false_eq_true, b]
theorem pr_put (hc : RLc S St m old no nt ns ni ne np sr so sc) (hm : RLm S St m z sv sm) (th mb p1 p2 : Int32) :
    ∃ (k : Nat) (r w : Int32) (S' : ST) (St' : Nat → ST) (m' old' : Nat) (no' nt' : Nat → Int32) (ne' np' : Int32) (sr' : Nat → SV) (z' sv' : Nat → Int32) (mb' : Int32), fX4_put no nt ns ni ne np sr so sc p1 p2 = some (k, r, no', nt', ne', np', sr', nI old', nI m') ∧ fX5_put th z sv sm mb p1 p2 = some (r, w, z', sv', nI m', mb') ∧ ((k = 0 ∧ w = nI 0) ∨ (k = 2 ∧ w = nI 1) ∨ (k = 3 ∧ w = nI 2)) ∧ RLc S' St' m' old' no' nt' ns ni ne' np' sr' (nI old') (nI m') ∧ RLm S' St' m' z' sv' (nI m') := by
  obtain rfl : so = nI old := hc.2.2.2.2.1
  obtain rfl : sc = nI m := hc.2.2.2.2.2.1
  obtain rfl : sm = nI m := hm.2.2
  obtain ⟨sr', old', sv', s1, s2, s3⟩ := RL_save hc hm
  obtain ⟨g, tk, en, pu, se⟩ := S
  have hw : WF g tk se := hc.1
  have hR : RS g tk en pu se no nt ns ni ne np := hc.2.1
  have hZ : RZ g tk en pu se z := hm.1
  obtain rfl : ne = en := hR.2.2.2.1
  obtain rfl : np = pu := hR.2.2.2.2
  rcases key_or p1 with ⟨k, hk, rfl⟩ | ⟨a, b⟩
  · have i1 := ix_in hk (by decide)
    have i2 := pX5_isKeyT hk
    rcases ix_or p2 (N := 64) (by decide) (by decide) with ⟨v, hv, rfl⟩ | ⟨a, b⟩
    · have i3 := ix_in hv (by decide)
      have l1 := pX3_nextRow hw hR
      have l2 := pX5_nextRow hw hZ
      have l3 := pX5_whyNotPut hw hZ hk hv
      by_cases hl : nextN g tk (decide (se 0 = 1)) = m1
      · rw [if_pos hl] at l3
        rw [hl] at l1
        refine ⟨3, nI 0, (nI 2), (g, tk, ne, np, se), St, m, old, no, nt, ne, np, sr, z, sv, mb, ?_, ?_, (Or.inr (Or.inr ⟨rfl, rfl⟩)), hc, hm⟩
        · unfold fX4_put; simp only [↓LM1, kE_let, kE_if, kE_b1, kE_b2, kE_b3, kE_b4, kE_b5, kE_b6, kE_b7, kE_b8, kE_b9, kE_j0, kE_j1, kE_j2, kE_j3, kE_j4, L0, L1, L2, L3, L4, L5, L6, L9, L15, L16, L19, L20, L63, L99, L9999, L12, L13, L64, L8, L14, n10, n01, le00, le10, le20, le30, ne20, ne30, ne21, if_true, if_false, not_true_eq_false, not_false_eq_true, i1, i3, l1]
        · unfold fX5_put; simp only [↓LM1, kE_let, kE_if, kE_b1, kE_b2, kE_b3, kE_b4, kE_b5, kE_b6, kE_b7, kE_b8, kE_b9, kE_j0, kE_j1, kE_j2, kE_j3, kE_j4, L0, L1, L2, L3, L4, L5, L6, L9, L15, L16, L19, L20, L63, L99, L9999, L12, L13, L64, L8, L14, n10, n01, le00, le10, le20, le30, ne20, ne30, ne21, if_true, if_false, not_true_eq_false, not_false_eq_true, l3]
      · rw [if_neg hl] at l3
        obtain ⟨o', t', d1, d2⟩ := pX3_putNext hw hR (k := k) (v := v) hk hv hl
        rcases nextN_or g tk (decide (se 0 = 1)) with hh | ⟨h1, h2, h3⟩
        · exact absurd hh hl
        obtain ⟨z', e1, e2⟩ := pX5_putInto hw hZ mb h1 (k := k) (v := v) hk hv
        rw [h3] at l2
        have hg' : ∀ r f, (wpM g tk ne se k v).1 r f ≤ 3 := mk1_le (wrN_le hw _ _ _ _).1 hw.2.2.2.2.1 _ _
        obtain ⟨u1, u2⟩ := s3 ((wpM g tk ne se k v).1, tk, (wpM g tk ne se k v).2.1, np + nI 1, se) o' t' ns ni (wpM g tk ne se k v).2.1 (np + nI 1) z' (hw.wG hg') ⟨d2, hR.2.1, hR.2.2.1, rfl, rfl⟩ e2
        refine ⟨0, nI (wpW g tk ne se k v).2.2, nI 0, _, _, _, old', o', t', (wpM g tk ne se k v).2.1, np + nI 1, sr', z', sv', nI (wpM g tk ne se k v).2.2, ?_, ?_, Or.inl ⟨rfl, rfl⟩, u1, u2⟩
        · unfold fX4_put; simp only [↓LM1, kE_let, kE_if, kE_b1, kE_b2, kE_b3, kE_b4, kE_b5, kE_b6, kE_b7, kE_b8, kE_b9, kE_j0, kE_j1, kE_j2, kE_j3, kE_j4, L0, L1, L2, L3, L4, L5, L6, L9, L15, L16, L19, L20, L63, L99, L9999, L12, L13, L64, L8, L14, n10, n01, le00, le10, le20, le30, ne20, ne30, ne21, if_true, if_false, not_true_eq_false, not_false_eq_true, i1, i3, l1, if_neg hl, s1, d1]
        · unfold fX5_put; simp only [↓LM1, kE_let, kE_if, kE_b1, kE_b2, kE_b3, kE_b4, kE_b5, kE_b6, kE_b7, kE_b8, kE_b9, kE_j0, kE_j1, kE_j2, kE_j3, kE_j4, L0, L1, L2, L3, L4, L5, L6, L9, L15, L16, L19, L20, L63, L99, L9999, L12, L13, L64, L8, L14, n10, n01, le00, le10, le20, le30, ne20, ne30, ne21, if_true, if_false, not_true_eq_false, not_false_eq_true, l3, s2, l2, e1]; rfl
    · have b' : fX5_in p2 (nI 0) (nI 63) = some (nI 0) := b
      refine ⟨2, nI 0, (nI 1), (g, tk, ne, np, se), St, m, old, no, nt, ne, np, sr, z, sv, mb, ?_, ?_, (Or.inr (Or.inl ⟨rfl, rfl⟩)), hc, hm⟩
      · unfold fX4_put; simp only [↓LM1, kE_let, kE_if, kE_b1, kE_b2, kE_b3, kE_b4, kE_b5, kE_b6, kE_b7, kE_b8, kE_b9, kE_j0, kE_j1, kE_j2, kE_j3, kE_j4, L0, L1, L2, L3, L4, L5, L6, L9, L15, L16, L19, L20, L63, L99, L9999, L12, L13, L64, L8, L14, n10, n01, le00, le10, le20, le30, ne20, ne30, ne21, if_true, if_false, not_true_eq_false, not_false_eq_true, i1, a]
      · unfold fX5_put fX5_whyNotPut; simp only [↓LM1, kE_let, kE_if, kE_b1, kE_b2, kE_b3, kE_b4, kE_b5, kE_b6, kE_b7, kE_b8, kE_b9, kE_j0, kE_j1, kE_j2, kE_j3, kE_j4, L0, L1, L2, L3, L4, L5, L6, L9, L15, L16, L19, L20, L63, L99, L9999, L12, L13, L64, L8, L14, n10, n01, le00, le10, le20, le30, ne20, ne30, ne21, if_true, if_false, not_true_eq_false, not_false_eq_true, i2, b']
  · refine ⟨2, nI 0, (nI 1), (g, tk, ne, np, se), St, m, old, no, nt, ne, np, sr, z, sv, mb, ?_, ?_, (Or.inr (Or.inl ⟨rfl, rfl⟩)), hc, hm⟩
    · unfold fX4_put; simp only [↓LM1, kE_let, kE_if, kE_b1, kE_b2, kE_b3, kE_b4, kE_b5, kE_b6, kE_b7, kE_b8, kE_b9, kE_j0, kE_j1, kE_j2, kE_j3, kE_j4, L0, L1, L2, L3, L4, L5, L6, L9, L15, L16, L19, L20, L63, L99, L9999, L12, L13, L64, L8, L14, n10, n01, le00, le10, le20, le30, ne20, ne30, ne21, if_true, if_false, not_true_eq_false, not_false_eq_true, a]
    · unfold fX5_put fX5_whyNotPut; simp only [↓LM1, kE_let, kE_if, kE_b1, kE_b2, kE_b3, kE_b4, kE_b5, kE_b6, kE_b7, kE_b8, kE_b9, kE_j0, kE_j1, kE_j2, kE_j3, kE_j4, L0, L1, L2, L3, L4, L5, L6, L9, L15, L16, L19, L20, L63, L99, L9999, L12, L13, L64, L8, L14, n10, n01, le00, le10, le20, le30, ne20, ne30, ne21, if_true, if_false, not_true_eq_false, not_false_eq_true, b]
theorem pr_drop (hc : RLc S St m old no nt ns ni ne np sr so sc) (hm : RLm S St m z sv sm) (th p1 : Int32) :
    ∃ (k : Nat) (r w : Int32) (S' : ST) (St' : Nat → ST) (m' old' : Nat) (no' nt' : Nat → Int32) (ne' : Int32) (sr' : Nat → SV) (z' sv' : Nat → Int32), fX4_drop no nt ns ni ne np sr so sc p1 = some (k, r, no', nt', ne', sr', nI old', nI m') ∧ fX5_drop th z sv sm p1 = some (r, w, z', sv', nI m') ∧ ((k = 0 ∧ w = nI 0) ∨ (k = 2 ∧ w = nI 1)) ∧ RLc S' St' m' old' no' nt' ns ni ne' np sr' (nI old') (nI m') ∧ RLm S' St' m' z' sv' (nI m') := by
  obtain rfl : so = nI old := hc.2.2.2.2.1
  obtain rfl : sc = nI m := hc.2.2.2.2.2.1
  obtain rfl : sm = nI m := hm.2.2
  obtain ⟨sr', old', sv', s1, s2, s3⟩ := RL_save hc hm
  obtain ⟨g, tk, en, pu, se⟩ := S
  have hw : WF g tk se := hc.1
  have hR : RS g tk en pu se no nt ns ni ne np := hc.2.1
  have hZ : RZ g tk en pu se z := hm.1
  obtain rfl : ne = en := hR.2.2.2.1
  obtain rfl : np = pu := hR.2.2.2.2
  rcases key_or p1 with ⟨k, hk, rfl⟩ | ⟨a, b⟩
  · have i1 := ix_in hk (by decide)
    have i2 := pX5_isKeyT hk
    obtain ⟨o', t', d1, d2⟩ := pX3_markEntries hw hR m1 hk (c := 3) (by decide)
    obtain ⟨z', e1, e2⟩ := pX5_markAll hw hZ m1 hk (c := 3) (by decide)
    have hg' := mkG_le hw.1 (M := mkP g tk (decide (se 0 = 1)) m1 k) (c := 3) (by decide) 20
    obtain ⟨u1, u2⟩ := s3 (mkG g (mkP g tk (decide (se 0 = 1)) m1 k) 3 20, tk, enS (mkP g tk (decide (se 0 = 1)) m1 k) (fun _ => 3) ne 20, np, se) o' t' ns ni (enS (mkP g tk (decide (se 0 = 1)) m1 k) (fun _ => 3) ne 20) np z' (hw.wG hg') ⟨d2, hR.2.1, hR.2.2.1, rfl, rfl⟩ e2
    refine ⟨0, nI (cnt (mkP g tk (decide (se 0 = 1)) m1 k) 20), nI 0, _, _, _, old', o', t', _, sr', z', sv', ?_, ?_, Or.inl ⟨rfl, rfl⟩, u1, u2⟩
    · unfold fX4_drop; simp only [↓LM1, kE_let, kE_if, kE_b1, kE_b2, kE_b3, kE_b4, kE_b5, kE_b6, kE_b7, kE_b8, kE_b9, kE_j0, kE_j1, kE_j2, kE_j3, kE_j4, L0, L1, L2, L3, L4, L5, L6, L9, L15, L16, L19, L20, L63, L99, L9999, L12, L13, L64, L8, L14, n10, n01, le00, le10, le20, le30, ne20, ne30, ne21, if_true, if_false, not_true_eq_false, not_false_eq_true, i1, s1, d1]
    · unfold fX5_drop; simp only [↓LM1, kE_let, kE_if, kE_b1, kE_b2, kE_b3, kE_b4, kE_b5, kE_b6, kE_b7, kE_b8, kE_b9, kE_j0, kE_j1, kE_j2, kE_j3, kE_j4, L0, L1, L2, L3, L4, L5, L6, L9, L15, L16, L19, L20, L63, L99, L9999, L12, L13, L64, L8, L14, n10, n01, le00, le10, le20, le30, ne20, ne30, ne21, if_true, if_false, not_true_eq_false, not_false_eq_true, i2, s2, e1]
  · refine ⟨2, nI 0, nI 1, (g, tk, ne, np, se), St, m, old, no, nt, ne, sr, z, sv, ?_, ?_, Or.inr ⟨rfl, rfl⟩, hc, hm⟩
    · unfold fX4_drop; simp only [↓LM1, kE_let, kE_if, kE_b1, kE_b2, kE_b3, kE_b4, kE_b5, kE_b6, kE_b7, kE_b8, kE_b9, kE_j0, kE_j1, kE_j2, kE_j3, kE_j4, L0, L1, L2, L3, L4, L5, L6, L9, L15, L16, L19, L20, L63, L99, L9999, L12, L13, L64, L8, L14, n10, n01, le00, le10, le20, le30, ne20, ne30, ne21, if_true, if_false, not_true_eq_false, not_false_eq_true, a]
    · unfold fX5_drop; simp only [↓LM1, kE_let, kE_if, kE_b1, kE_b2, kE_b3, kE_b4, kE_b5, kE_b6, kE_b7, kE_b8, kE_b9, kE_j0, kE_j1, kE_j2, kE_j3, kE_j4, L0, L1, L2, L3, L4, L5, L6, L9, L15, L16, L19, L20, L63, L99, L9999, L12, L13, L64, L8, L14, n10, n01, le00, le10, le20, le30, ne20, ne30, ne21, if_true, if_false, not_true_eq_false, not_false_eq_true, b]
theorem pr_lock (hc : RLc S St m old no nt ns ni ne np sr so sc) (hm : RLm S St m z sv sm) (th p1 : Int32) :
    ∃ (k : Nat) (r w : Int32) (S' : ST) (St' : Nat → ST) (m' old' : Nat) (no' nt' : Nat → Int32) (ne' : Int32) (sr' : Nat → SV) (z' sv' : Nat → Int32), fX4_lock no nt ns ni ne np sr so sc p1 = some (k, r, no', nt', ne', sr', nI old', nI m') ∧ fX5_lock th z sv sm p1 = some (r, w, z', sv', nI m') ∧ ((k = 0 ∧ w = nI 0) ∨ (k = 1 ∧ w = nI 1) ∨ (k = 3 ∧ w = nI 2)) ∧ RLc S' St' m' old' no' nt' ns ni ne' np sr' (nI old') (nI m') ∧ RLm S' St' m' z' sv' (nI m') := by
  obtain rfl : so = nI old := hc.2.2.2.2.1
  obtain rfl : sc = nI m := hc.2.2.2.2.2.1
  obtain rfl : sm = nI m := hm.2.2
  obtain ⟨sr', old', sv', s1, s2, s3⟩ := RL_save hc hm
  obtain ⟨g, tk, en, pu, se⟩ := S
  have hw : WF g tk se := hc.1
  have hR : RS g tk en pu se no nt ns ni ne np := hc.2.1
  have hZ : RZ g tk en pu se z := hm.1
  obtain rfl : ne = en := hR.2.2.2.1
  obtain rfl : np = pu := hR.2.2.2.2
  rcases row_or p1 with ⟨r, hr, rfl⟩ | ⟨a, b⟩
  · have i1 := ix_in hr (by decide)
    have l1 := pX3_isLocked hw hR hr
    have l2 := pX5_whyNotChange hw hZ hr
    by_cases hl : 2 ≤ g r 15
    · rw [bI_t hl] at l1
      rw [if_pos hl] at l2
      refine ⟨3, nI 0, nI 2, (g, tk, ne, np, se), St, m, old, no, nt, ne, sr, z, sv, ?_, ?_, Or.inr (Or.inr ⟨rfl, rfl⟩), hc, hm⟩
      · unfold fX4_lock; simp only [↓LM1, kE_let, kE_if, kE_b1, kE_b2, kE_b3, kE_b4, kE_b5, kE_b6, kE_b7, kE_b8, kE_b9, kE_j0, kE_j1, kE_j2, kE_j3, kE_j4, L0, L1, L2, L3, L4, L5, L6, L9, L15, L16, L19, L20, L63, L99, L9999, L12, L13, L64, L8, L14, n10, n01, le00, le10, le20, le30, ne20, ne30, ne21, if_true, if_false, not_true_eq_false, not_false_eq_true, i1, l1]
      · unfold fX5_lock; simp only [↓LM1, kE_let, kE_if, kE_b1, kE_b2, kE_b3, kE_b4, kE_b5, kE_b6, kE_b7, kE_b8, kE_b9, kE_j0, kE_j1, kE_j2, kE_j3, kE_j4, L0, L1, L2, L3, L4, L5, L6, L9, L15, L16, L19, L20, L63, L99, L9999, L12, L13, L64, L8, L14, n10, n01, le00, le10, le20, le30, ne20, ne30, ne21, if_true, if_false, not_true_eq_false, not_false_eq_true, l2]
    · rw [bI_f hl] at l1
      rw [if_neg hl] at l2
      obtain ⟨o', t', d1, d2⟩ := pX3_blowFuse (ey := ne) hw.1 hR.1 hr (show 15 < 16 by decide) (c := 3) (by decide)
      obtain ⟨z', e1, e2⟩ := pX5_blowOne hZ hr (show 15 < 16 by decide) (hw.1 r 15) (c := 3) (by decide)
      have hg' := blG_le hw.1 (r := r) (f := 15) (c := 3) (by decide)
      have hR' : RS (blG g r 15 3) tk (ne + nI 3) np se o' t' ns ni (ne + nI 3) np := ⟨d2, hR.2.1, hR.2.2.1, rfl, rfl⟩
      obtain ⟨u1, u2⟩ := s3 (blG g r 15 3, tk, ne + nI 3, np, se) o' t' ns ni (ne + nI 3) np z' (hw.wG hg') hR' e2
      refine ⟨0, nI (cnt (fun r' => decide (2 ≤ blG g r 15 3 r' 15)) 20), nI 0, _, _, _, old', o', t', ne + nI 3, sr', z', sv', ?_, ?_, Or.inl ⟨rfl, rfl⟩, u1, u2⟩
      · unfold fX4_lock; simp only [↓LM1, kE_let, kE_if, kE_b1, kE_b2, kE_b3, kE_b4, kE_b5, kE_b6, kE_b7, kE_b8, kE_b9, kE_j0, kE_j1, kE_j2, kE_j3, kE_j4, L0, L1, L2, L3, L4, L5, L6, L9, L15, L16, L19, L20, L63, L99, L9999, L12, L13, L64, L8, L14, n10, n01, le00, le10, le20, le30, ne20, ne30, ne21, if_true, if_false, not_true_eq_false, not_false_eq_true, i1, l1, s1, d1, pX3_lockedRows (hw.wG hg') hR']
      · unfold fX5_lock; simp only [↓LM1, kE_let, kE_if, kE_b1, kE_b2, kE_b3, kE_b4, kE_b5, kE_b6, kE_b7, kE_b8, kE_b9, kE_j0, kE_j1, kE_j2, kE_j3, kE_j4, L0, L1, L2, L3, L4, L5, L6, L9, L15, L16, L19, L20, L63, L99, L9999, L12, L13, L64, L8, L14, n10, n01, le00, le10, le20, le30, ne20, ne30, ne21, if_true, if_false, not_true_eq_false, not_false_eq_true, l2, s2, e1, pX5_lockedMany (hw.wG hg') e2]
  · refine ⟨1, nI 0, nI 1, (g, tk, ne, np, se), St, m, old, no, nt, ne, sr, z, sv, ?_, ?_, Or.inr (Or.inl ⟨rfl, rfl⟩), hc, hm⟩
    · unfold fX4_lock; simp only [↓LM1, kE_let, kE_if, kE_b1, kE_b2, kE_b3, kE_b4, kE_b5, kE_b6, kE_b7, kE_b8, kE_b9, kE_j0, kE_j1, kE_j2, kE_j3, kE_j4, L0, L1, L2, L3, L4, L5, L6, L9, L15, L16, L19, L20, L63, L99, L9999, L12, L13, L64, L8, L14, n10, n01, le00, le10, le20, le30, ne20, ne30, ne21, if_true, if_false, not_true_eq_false, not_false_eq_true, a]
    · unfold fX5_lock fX5_whyNotChange; simp only [↓LM1, kE_let, kE_if, kE_b1, kE_b2, kE_b3, kE_b4, kE_b5, kE_b6, kE_b7, kE_b8, kE_b9, kE_j0, kE_j1, kE_j2, kE_j3, kE_j4, L0, L1, L2, L3, L4, L5, L6, L9, L15, L16, L19, L20, L63, L99, L9999, L12, L13, L64, L8, L14, n10, n01, le00, le10, le20, le30, ne20, ne30, ne21, if_true, if_false, not_true_eq_false, not_false_eq_true, b]
theorem pr_refresh (hc : RLc S St m old no nt ns ni ne np sr so sc) (hm : RLm S St m z sv sm) (th p1 : Int32) :
    ∃ (k : Nat) (r w : Int32) (S' : ST) (St' : Nat → ST) (m' old' : Nat) (no' nt' : Nat → Int32) (ne' : Int32) (sr' : Nat → SV) (z' sv' : Nat → Int32), fX4_refresh no nt ns ni ne np sr so sc p1 = some (k, r, no', nt', ne', sr', nI old', nI m') ∧ fX5_refresh th z sv sm p1 = some (r, w, z', sv', nI m') ∧ ((k = 0 ∧ w = nI 0) ∨ (k = 1 ∧ w = nI 1) ∨ (k = 3 ∧ w = nI 2)) ∧ RLc S' St' m' old' no' nt' ns ni ne' np sr' (nI old') (nI m') ∧ RLm S' St' m' z' sv' (nI m') := by
  obtain rfl : so = nI old := hc.2.2.2.2.1
  obtain rfl : sc = nI m := hc.2.2.2.2.2.1
  obtain rfl : sm = nI m := hm.2.2
  obtain ⟨sr', old', sv', s1, s2, s3⟩ := RL_save hc hm
  obtain ⟨g, tk, en, pu, se⟩ := S
  have hw : WF g tk se := hc.1
  have hR : RS g tk en pu se no nt ns ni ne np := hc.2.1
  have hZ : RZ g tk en pu se z := hm.1
  obtain rfl : ne = en := hR.2.2.2.1
  obtain rfl : np = pu := hR.2.2.2.2
  rcases row_or p1 with ⟨r, hr, rfl⟩ | ⟨a, b⟩
  · have i1 := ix_in hr (by decide)
    have l1 := pX3_isLocked hw hR hr
    have l2 := pX5_whyNotChange hw hZ hr
    by_cases hl : 2 ≤ g r 15
    · rw [bI_t hl] at l1
      rw [if_pos hl] at l2
      refine ⟨3, nI 0, nI 2, (g, tk, ne, np, se), St, m, old, no, nt, ne, sr, z, sv, ?_, ?_, Or.inr (Or.inr ⟨rfl, rfl⟩), hc, hm⟩
      · unfold fX4_refresh; simp only [↓LM1, kE_let, kE_if, kE_b1, kE_b2, kE_b3, kE_b4, kE_b5, kE_b6, kE_b7, kE_b8, kE_b9, kE_j0, kE_j1, kE_j2, kE_j3, kE_j4, L0, L1, L2, L3, L4, L5, L6, L9, L15, L16, L19, L20, L63, L99, L9999, L12, L13, L64, L8, L14, n10, n01, le00, le10, le20, le30, ne20, ne30, ne21, if_true, if_false, not_true_eq_false, not_false_eq_true, i1, l1]
      · unfold fX5_refresh; simp only [↓LM1, kE_let, kE_if, kE_b1, kE_b2, kE_b3, kE_b4, kE_b5, kE_b6, kE_b7, kE_b8, kE_b9, kE_j0, kE_j1, kE_j2, kE_j3, kE_j4, L0, L1, L2, L3, L4, L5, L6, L9, L15, L16, L19, L20, L63, L99, L9999, L12, L13, L64, L8, L14, n10, n01, le00, le10, le20, le30, ne20, ne30, ne21, if_true, if_false, not_true_eq_false, not_false_eq_true, l2]
    · rw [bI_f hl] at l1
      rw [if_neg hl] at l2
      obtain ⟨o', t', d1, d2⟩ := pX3_refreshRow hw hR hr
      obtain ⟨z', e1, e2⟩ := pX5_refreshAll hw hZ hr
      have hg' := blP_le hw.1 (r := r) (P := rfP g r) (C := fun _ => 3) (fun _ _ => Nat.le_refl 3) 16
      obtain ⟨u1, u2⟩ := s3 (blP g r (rfP g r) (fun _ => 3) 16, tk, enS (rfP g r) (fun _ => 3) ne 16, np, se) o' t' ns ni (enS (rfP g r) (fun _ => 3) ne 16) np z' (hw.wG hg') ⟨d2, hR.2.1, hR.2.2.1, rfl, rfl⟩ e2
      refine ⟨0, nI (cnt (fun f => decide (g r f = 2)) 16), nI 0, _, _, _, old', o', t', enS (rfP g r) (fun _ => 3) ne 16, sr', z', sv', ?_, ?_, Or.inl ⟨rfl, rfl⟩, u1, u2⟩
      · unfold fX4_refresh; simp only [↓LM1, kE_let, kE_if, kE_b1, kE_b2, kE_b3, kE_b4, kE_b5, kE_b6, kE_b7, kE_b8, kE_b9, kE_j0, kE_j1, kE_j2, kE_j3, kE_j4, L0, L1, L2, L3, L4, L5, L6, L9, L15, L16, L19, L20, L63, L99, L9999, L12, L13, L64, L8, L14, n10, n01, le00, le10, le20, le30, ne20, ne30, ne21, if_true, if_false, not_true_eq_false, not_false_eq_true, i1, l1, s1, d1]
      · unfold fX5_refresh; simp only [↓LM1, kE_let, kE_if, kE_b1, kE_b2, kE_b3, kE_b4, kE_b5, kE_b6, kE_b7, kE_b8, kE_b9, kE_j0, kE_j1, kE_j2, kE_j3, kE_j4, L0, L1, L2, L3, L4, L5, L6, L9, L15, L16, L19, L20, L63, L99, L9999, L12, L13, L64, L8, L14, n10, n01, le00, le10, le20, le30, ne20, ne30, ne21, if_true, if_false, not_true_eq_false, not_false_eq_true, l2, s2, e1]
  · refine ⟨1, nI 0, nI 1, (g, tk, ne, np, se), St, m, old, no, nt, ne, sr, z, sv, ?_, ?_, Or.inr (Or.inl ⟨rfl, rfl⟩), hc, hm⟩
    · unfold fX4_refresh; simp only [↓LM1, kE_let, kE_if, kE_b1, kE_b2, kE_b3, kE_b4, kE_b5, kE_b6, kE_b7, kE_b8, kE_b9, kE_j0, kE_j1, kE_j2, kE_j3, kE_j4, L0, L1, L2, L3, L4, L5, L6, L9, L15, L16, L19, L20, L63, L99, L9999, L12, L13, L64, L8, L14, n10, n01, le00, le10, le20, le30, ne20, ne30, ne21, if_true, if_false, not_true_eq_false, not_false_eq_true, a]
    · unfold fX5_refresh fX5_whyNotChange; simp only [↓LM1, kE_let, kE_if, kE_b1, kE_b2, kE_b3, kE_b4, kE_b5, kE_b6, kE_b7, kE_b8, kE_b9, kE_j0, kE_j1, kE_j2, kE_j3, kE_j4, L0, L1, L2, L3, L4, L5, L6, L9, L15, L16, L19, L20, L63, L99, L9999, L12, L13, L64, L8, L14, n10, n01, le00, le10, le20, le30, ne20, ne30, ne21, if_true, if_false, not_true_eq_false, not_false_eq_true, b]
theorem pr_heat (hc : RLc S St m old no nt ns ni ne np sr so sc) (hm : RLm S St m z sv sm) (th p1 : Int32) :
    ∃ (k : Nat) (r w : Int32) (S' : ST) (St' : Nat → ST) (m' old' : Nat) (no' nt' : Nat → Int32) (sr' : Nat → SV) (z' sv' : Nat → Int32), fX4_heat no nt ns ni ne np sr so sc p1 = some (k, r, no', nt', sr', nI old', nI m') ∧ fX5_heat th z sv sm p1 = some (r, w, z', sv', nI m') ∧ ((k = 0 ∧ w = nI 0) ∨ (k = 2 ∧ w = nI 1)) ∧ RLc S' St' m' old' no' nt' ns ni ne np sr' (nI old') (nI m') ∧ RLm S' St' m' z' sv' (nI m') := by
  obtain rfl : so = nI old := hc.2.2.2.2.1
  obtain rfl : sc = nI m := hc.2.2.2.2.2.1
  obtain rfl : sm = nI m := hm.2.2
  obtain ⟨sr', old', sv', s1, s2, s3⟩ := RL_save hc hm
  obtain ⟨g, tk, en, pu, se⟩ := S
  have hw : WF g tk se := hc.1
  have hR : RS g tk en pu se no nt ns ni ne np := hc.2.1
  have hZ : RZ g tk en pu se z := hm.1
  rcases wi_or p1 (lo := 1) (hi := 9) (by decide) (by decide) with ⟨d, h1, h2, rfl⟩ | ⟨a, b⟩
  · have i1 := wi_in h1 h2 (by decide)
    have i2 := in_in h1 h2 (by decide)
    obtain ⟨o', t', d1, d2⟩ := pX3_heatRows hw.1 hR.1 (d := d) (by omega)
    obtain ⟨z', e1, e2⟩ := pX5_heatAll hw.1 hZ (d := d) (by omega)
    obtain ⟨u1, u2⟩ := s3 (htG g d, tk, en, pu, se) o' t' ns ni ne np z' (hw.wG (htG_le hw.1 d)) ⟨d2, hR.2⟩ e2
    refine ⟨0, nI (sumN (fun r => cnt (htB g d r) 16) 20), nI 0, _, _, _, old', o', t', sr', z', sv', ?_, ?_, Or.inl ⟨rfl, rfl⟩, u1, u2⟩
    · unfold fX4_heat; simp only [↓LM1, kE_let, kE_if, kE_b1, kE_b2, kE_b3, kE_b4, kE_b5, kE_b6, kE_b7, kE_b8, kE_b9, kE_j0, kE_j1, kE_j2, kE_j3, kE_j4, L0, L1, L2, L3, L4, L5, L6, L9, L15, L16, L19, L20, L63, L99, L9999, L12, L13, L64, L8, L14, n10, n01, le00, le10, le20, le30, ne20, ne30, ne21, if_true, if_false, not_true_eq_false, not_false_eq_true, i1, s1, d1]
    · unfold fX5_heat; simp only [↓LM1, kE_let, kE_if, kE_b1, kE_b2, kE_b3, kE_b4, kE_b5, kE_b6, kE_b7, kE_b8, kE_b9, kE_j0, kE_j1, kE_j2, kE_j3, kE_j4, L0, L1, L2, L3, L4, L5, L6, L9, L15, L16, L19, L20, L63, L99, L9999, L12, L13, L64, L8, L14, n10, n01, le00, le10, le20, le30, ne20, ne30, ne21, if_true, if_false, not_true_eq_false, not_false_eq_true, i2, s2, e1]
  · refine ⟨2, nI 0, nI 1, (g, tk, en, pu, se), St, m, old, no, nt, sr, z, sv, ?_, ?_, Or.inr ⟨rfl, rfl⟩, hc, hm⟩
    · unfold fX4_heat; simp only [↓LM1, kE_let, kE_if, kE_b1, kE_b2, kE_b3, kE_b4, kE_b5, kE_b6, kE_b7, kE_b8, kE_b9, kE_j0, kE_j1, kE_j2, kE_j3, kE_j4, L0, L1, L2, L3, L4, L5, L6, L9, L15, L16, L19, L20, L63, L99, L9999, L12, L13, L64, L8, L14, n10, n01, le00, le10, le20, le30, ne20, ne30, ne21, if_true, if_false, not_true_eq_false, not_false_eq_true, a]
    · unfold fX5_heat; simp only [↓LM1, kE_let, kE_if, kE_b1, kE_b2, kE_b3, kE_b4, kE_b5, kE_b6, kE_b7, kE_b8, kE_b9, kE_j0, kE_j1, kE_j2, kE_j3, kE_j4, L0, L1, L2, L3, L4, L5, L6, L9, L15, L16, L19, L20, L63, L99, L9999, L12, L13, L64, L8, L14, n10, n01, le00, le10, le20, le30, ne20, ne30, ne21, if_true, if_false, not_true_eq_false, not_false_eq_true, b]
theorem pr_pass (hc : RLc S St m old no nt ns ni ne np sr so sc) (hm : RLm S St m z sv sm) (th p1 : Int32) :
    ∃ (k : Nat) (r w : Int32) (S' : ST) (St' : Nat → ST) (m' old' : Nat) (ni' : Int32) (sr' : Nat → SV) (z' sv' : Nat → Int32), fX4_pass no nt ns ni ne np sr so sc p1 = some (k, r, ni', sr', nI old', nI m') ∧ fX5_pass th z sv sm p1 = some (r, w, z', sv', nI m') ∧ ((k = 0 ∧ w = nI 0) ∨ (k = 2 ∧ w = nI 1) ∨ (k = 3 ∧ w = nI 2)) ∧ RLc S' St' m' old' no nt ns ni' ne np sr' (nI old') (nI m') ∧ RLm S' St' m' z' sv' (nI m') := by
  obtain rfl : so = nI old := hc.2.2.2.2.1
  obtain rfl : sc = nI m := hc.2.2.2.2.2.1
  obtain rfl : sm = nI m := hm.2.2
  obtain ⟨sr', old', sv', s1, s2, s3⟩ := RL_save hc hm
  obtain ⟨g, tk, en, pu, se⟩ := S
  have hw : WF g tk se := hc.1
  have hR : RS g tk en pu se no nt ns ni ne np := hc.2.1
  have hZ : RZ g tk en pu se z := hm.1
  obtain rfl : ni = nI tk := hR.2.2.1
  have h2t := hw.2.1
  rcases wi_or p1 (lo := 1) (hi := 99) (by decide) (by decide) with ⟨d, h1, h2, rfl⟩ | ⟨a, b⟩
  · have i1 := wi_in h1 h2 (by decide)
    have i2 := in_in h1 h2 (by decide)
    by_cases hl : 9999 < tk + d
    · have q1 : nI 9999 < nI (tk + d) := by rw [nI_ltI (by omega) (by omega)]; exact hl
      have q2 : ¬ nI (tk + d) ≤ nI 9999 := by rw [nI_leI (by omega) (by omega)]; omega
      refine ⟨3, nI 0, nI 2, (g, tk, en, pu, se), St, m, old, nI tk, sr, z, sv, ?_, ?_, Or.inr (Or.inr ⟨rfl, rfl⟩), hc, hm⟩
      · unfold fX4_pass; simp only [↓LM1, kE_let, kE_if, kE_b1, kE_b2, kE_b3, kE_b4, kE_b5, kE_b6, kE_b7, kE_b8, kE_b9, kE_j0, kE_j1, kE_j2, kE_j3, kE_j4, L0, L1, L2, L3, L4, L5, L6, L9, L15, L16, L19, L20, L63, L99, L9999, L12, L13, L64, L8, L14, n10, n01, le00, le10, le20, le30, ne20, ne30, ne21, if_true, if_false, not_true_eq_false, not_false_eq_true, i1, nI_add, if_pos q1]
      · unfold fX5_pass; simp (disch := omega) only [↓LM1, kE_let, kE_if, kE_b1, kE_b2, kE_b3, kE_b4, kE_b5, kE_b6, kE_b7, kE_b8, kE_b9, kE_j0, kE_j1, kE_j2, kE_j3, kE_j4, L0, L1, L2, L3, L4, L5, L6, L9, L15, L16, L19, L20, L63, L99, L9999, L12, L13, L64, L8, L14, n10, n01, le00, le10, le20, le30, ne20, ne30, ne21, if_true, if_false, not_true_eq_false, not_false_eq_true, i2, kE_ck, nI_clamp, hZ.1, nI_add, if_neg q2]
    · have q1 : ¬ nI 9999 < nI (tk + d) := by rw [nI_ltI (by omega) (by omega)]; exact hl
      have q2 : nI (tk + d) ≤ nI 9999 := by rw [nI_leI (by omega) (by omega)]; omega
      obtain ⟨u1, u2⟩ := s3 (g, tk + d, en, pu, se) no nt ns (nI (tk + d)) ne np (upd z 0 (nI (tk + d))) ⟨hw.1, by show tk + d ≤ 9999; omega, hw.2.2⟩ ⟨hR.1, hR.2.1, rfl, hR.2.2.2⟩ (hZ.wTk (tk + d))
      refine ⟨0, nI (tk + d), nI 0, _, _, _, old', nI (tk + d), sr', _, sv', ?_, ?_, Or.inl ⟨rfl, rfl⟩, u1, u2⟩
      · unfold fX4_pass; simp only [↓LM1, kE_let, kE_if, kE_b1, kE_b2, kE_b3, kE_b4, kE_b5, kE_b6, kE_b7, kE_b8, kE_b9, kE_j0, kE_j1, kE_j2, kE_j3, kE_j4, L0, L1, L2, L3, L4, L5, L6, L9, L15, L16, L19, L20, L63, L99, L9999, L12, L13, L64, L8, L14, n10, n01, le00, le10, le20, le30, ne20, ne30, ne21, if_true, if_false, not_true_eq_false, not_false_eq_true, i1, nI_add, if_neg q1, s1]
      · unfold fX5_pass; simp (disch := omega) only [↓LM1, kE_let, kE_if, kE_b1, kE_b2, kE_b3, kE_b4, kE_b5, kE_b6, kE_b7, kE_b8, kE_b9, kE_j0, kE_j1, kE_j2, kE_j3, kE_j4, L0, L1, L2, L3, L4, L5, L6, L9, L15, L16, L19, L20, L63, L99, L9999, L12, L13, L64, L8, L14, n10, n01, le00, le10, le20, le30, ne20, ne30, ne21, if_true, if_false, not_true_eq_false, not_false_eq_true, i2, kE_ck, nI_clamp, hZ.1, nI_add, if_pos q2, s2, pk_us]
  · refine ⟨2, nI 0, nI 1, (g, tk, en, pu, se), St, m, old, nI tk, sr, z, sv, ?_, ?_, Or.inr (Or.inl ⟨rfl, rfl⟩), hc, hm⟩
    · unfold fX4_pass; simp only [↓LM1, kE_let, kE_if, kE_b1, kE_b2, kE_b3, kE_b4, kE_b5, kE_b6, kE_b7, kE_b8, kE_b9, kE_j0, kE_j1, kE_j2, kE_j3, kE_j4, L0, L1, L2, L3, L4, L5, L6, L9, L15, L16, L19, L20, L63, L99, L9999, L12, L13, L64, L8, L14, n10, n01, le00, le10, le20, le30, ne20, ne30, ne21, if_true, if_false, not_true_eq_false, not_false_eq_true, a]
    · unfold fX5_pass; simp only [↓LM1, kE_let, kE_if, kE_b1, kE_b2, kE_b3, kE_b4, kE_b5, kE_b6, kE_b7, kE_b8, kE_b9, kE_j0, kE_j1, kE_j2, kE_j3, kE_j4, L0, L1, L2, L3, L4, L5, L6, L9, L15, L16, L19, L20, L63, L99, L9999, L12, L13, L64, L8, L14, n10, n01, le00, le10, le20, le30, ne20, ne30, ne21, if_true, if_false, not_true_eq_false, not_false_eq_true, b]
def loS (j : Nat) : Nat := if j = 1 ∨ j = 2 then 1 else 0
def hiS (j : Nat) : Nat := if j = 1 ∨ j = 2 then 3 else 1
theorem set_e : ∀ j, j < 4 → lowS j = nI (loS j) ∧ highS j = nI (hiS j) ∧ fX5_leastOf (nI j) = some (nI (loS j)) ∧ fX5_mostOf (nI j) = some (nI (hiS j)) ∧ loS j ≤ hiS j ∧ hiS j ≤ 3 := by decide +kernel
theorem pr_set (hc : RLc S St m old no nt ns ni ne np sr so sc) (hm : RLm S St m z sv sm) (th p1 p2 : Int32) :
    ∃ (k : Nat) (r w : Int32) (S' : ST) (St' : Nat → ST) (m' old' : Nat) (ns' : Nat → Int32) (sr' : Nat → SV) (z' sv' : Nat → Int32), fX4_set no nt ns ni ne np sr so sc p1 p2 = some (k, r, ns', sr', nI old', nI m') ∧ fX5_set th z sv sm p1 p2 = some (r, w, z', sv', nI m') ∧ ((k = 0 ∧ w = nI 0) ∨ (k = 1 ∧ w = nI 1) ∨ (k = 2 ∧ w = nI 2)) ∧ RLc S' St' m' old' no nt ns' ni ne np sr' (nI old') (nI m') ∧ RLm S' St' m' z' sv' (nI m') := by
  obtain rfl : so = nI old := hc.2.2.2.2.1
  obtain rfl : sc = nI m := hc.2.2.2.2.2.1
  obtain rfl : sm = nI m := hm.2.2
  obtain ⟨sr', old', sv', s1, s2, s3⟩ := RL_save hc hm
  obtain ⟨g, tk, en, pu, se⟩ := S
  have hw : WF g tk se := hc.1
  have hR : RS g tk en pu se no nt ns ni ne np := hc.2.1
  have hZ : RZ g tk en pu se z := hm.1
  rcases ix_or p1 (N := 4) (by decide) (by decide) with ⟨j, hj, rfl⟩ | ⟨a, b⟩
  · have i1 := ix_in hj (by decide)
    have i2 := in_in (Nat.zero_le j) (show j ≤ 3 by omega) (by decide)
    obtain ⟨t1, t2, t3, t4, t5, t6⟩ := set_e j hj
    have ck4 : ∀ {β : Type} (b : Option β), k_ck (nI j) 4 b = b := fun b => kE_ck hj (by decide)
    have cl : (nI j).toNatClampNeg = j := nI_clamp (by omega)
    have ck3 : ∀ {β : Type} (b : Option β), k_ck (nI (3 + j)) 327 b = b := fun b => kE_ck (by omega) (by decide)
    have cl3 : (nI (3 + j)).toNatClampNeg = 3 + j := nI_clamp (by omega)
    rcases wi_or p2 (lo := loS j) (hi := hiS j) (by omega) t5 with ⟨v, v1, v2, rfl⟩ | ⟨a, b⟩
    · have i3 := wi_in v1 v2 (by omega)
      have i4 := in_in v1 v2 (by omega)
      have hw' : WF g tk (upS se j v) := by
        obtain ⟨w1, w2, w3, w4, w5, w6, w7, w8⟩ := hw
        unfold loS at v1
        unfold hiS at v2
        refine ⟨w1, w2, ?_, ?_, ?_, ?_, ?_, ?_⟩ <;> unfold upS <;> split <;> first | assumption | (rename_i q; subst q; simp at v1 v2; omega)
      obtain ⟨u1, u2⟩ := s3 (g, tk, en, pu, upS se j v) no nt (upd ns j (nI v)) ni ne np (upd z (3 + j) (nI v)) hw' ⟨hR.1, fun k hk => by
        show upd ns j (nI v) k = nI (upS se j v k)
        rw [upd_z]
        unfold upS
        by_cases e : k = j
        · rw [if_pos e, if_pos e]
        · rw [if_neg e, if_neg e]; exact hR.2.1 k hk, hR.2.2⟩ (hZ.wSe hj)
      refine ⟨0, nI (se j), nI 0, _, _, _, old', _, sr', _, sv', ?_, ?_, Or.inl ⟨rfl, rfl⟩, u1, u2⟩
      · unfold fX4_set; simp only [↓LM1, kE_let, kE_if, kE_b1, kE_b2, kE_b3, kE_b4, kE_b5, kE_b6, kE_b7, kE_b8, kE_b9, kE_j0, kE_j1, kE_j2, kE_j3, kE_j4, L0, L1, L2, L3, L4, L5, L6, L9, L15, L16, L19, L20, L63, L99, L9999, L12, L13, L64, L8, L14, n10, n01, le00, le10, le20, le30, ne20, ne30, ne21, if_true, if_false, not_true_eq_false, not_false_eq_true, i1, ck4, cl, t1, t2, i3, s1, hR.2.1 j hj]
      · unfold fX5_set; simp only [↓LM1, kE_let, kE_if, kE_b1, kE_b2, kE_b3, kE_b4, kE_b5, kE_b6, kE_b7, kE_b8, kE_b9, kE_j0, kE_j1, kE_j2, kE_j3, kE_j4, L0, L1, L2, L3, L4, L5, L6, L9, L15, L16, L19, L20, L63, L99, L9999, L12, L13, L64, L8, L14, n10, n01, le00, le10, le20, le30, ne20, ne30, ne21, if_true, if_false, not_true_eq_false, not_false_eq_true, i2, t3, t4, i4, s2, nI_add, ck3, cl3, hZ.2.2.2.1 j hj]
    · refine ⟨2, nI 0, nI 2, (g, tk, en, pu, se), St, m, old, ns, sr, z, sv, ?_, ?_, Or.inr (Or.inr ⟨rfl, rfl⟩), hc, hm⟩
      · unfold fX4_set; simp only [↓LM1, kE_let, kE_if, kE_b1, kE_b2, kE_b3, kE_b4, kE_b5, kE_b6, kE_b7, kE_b8, kE_b9, kE_j0, kE_j1, kE_j2, kE_j3, kE_j4, L0, L1, L2, L3, L4, L5, L6, L9, L15, L16, L19, L20, L63, L99, L9999, L12, L13, L64, L8, L14, n10, n01, le00, le10, le20, le30, ne20, ne30, ne21, if_true, if_false, not_true_eq_false, not_false_eq_true, i1, ck4, cl, t1, t2, a]
      · unfold fX5_set; simp only [↓LM1, kE_let, kE_if, kE_b1, kE_b2, kE_b3, kE_b4, kE_b5, kE_b6, kE_b7, kE_b8, kE_b9, kE_j0, kE_j1, kE_j2, kE_j3, kE_j4, L0, L1, L2, L3, L4, L5, L6, L9, L15, L16, L19, L20, L63, L99, L9999, L12, L13, L64, L8, L14, n10, n01, le00, le10, le20, le30, ne20, ne30, ne21, if_true, if_false, not_true_eq_false, not_false_eq_true, i2, t3, t4, b]
  · have b' : fX5_in p1 (nI 0) (nI 3) = some (nI 0) := b
    refine ⟨1, nI 0, nI 1, (g, tk, en, pu, se), St, m, old, ns, sr, z, sv, ?_, ?_, Or.inr (Or.inl ⟨rfl, rfl⟩), hc, hm⟩
    · unfold fX4_set; simp only [↓LM1, kE_let, kE_if, kE_b1, kE_b2, kE_b3, kE_b4, kE_b5, kE_b6, kE_b7, kE_b8, kE_b9, kE_j0, kE_j1, kE_j2, kE_j3, kE_j4, L0, L1, L2, L3, L4, L5, L6, L9, L15, L16, L19, L20, L63, L99, L9999, L12, L13, L64, L8, L14, n10, n01, le00, le10, le20, le30, ne20, ne30, ne21, if_true, if_false, not_true_eq_false, not_false_eq_true, a]
    · unfold fX5_set; simp only [↓LM1, kE_let, kE_if, kE_b1, kE_b2, kE_b3, kE_b4, kE_b5, kE_b6, kE_b7, kE_b8, kE_b9, kE_j0, kE_j1, kE_j2, kE_j3, kE_j4, L0, L1, L2, L3, L4, L5, L6, L9, L15, L16, L19, L20, L63, L99, L9999, L12, L13, L64, L8, L14, n10, n01, le00, le10, le20, le30, ne20, ne30, ne21, if_true, if_false, not_true_eq_false, not_false_eq_true, b']
theorem pr_undo (hc : RLc S St m old no nt ns ni ne np sr so sc) (hm : RLm S St m z sv sm) (th : Int32) :
    ∃ (k : Nat) (r w : Int32) (S' : ST) (m' : Nat) (no' nt' ns' : Nat → Int32) (ni' ne' np' : Int32) (z' : Nat → Int32), fX4_undo no nt ns ni ne np sr so sc = some (k, r, no', nt', ns', ni', ne', np', nI m') ∧ fX5_undo th z sv sm = some (r, w, z', nI m') ∧ ((k = 0 ∧ w = nI 0) ∨ (k = 3 ∧ w = nI 1)) ∧ RLc S' St m' old no' nt' ns' ni' ne' np' sr so (nI m') ∧ RLm S' St m' z' sv (nI m') := by
  obtain rfl : so = nI old := hc.2.2.2.2.1
  obtain rfl : sc = nI m := hc.2.2.2.2.2.1
  obtain rfl : sm = nI m := hm.2.2
  obtain ⟨h1, h2, h3, h4, -, -, h7, h8⟩ := hc
  by_cases h0 : m = 0
  · subst h0
    refine ⟨3, nI 0, nI 1, S, 0, no, nt, ns, ni, ne, np, z, ?_, ?_, Or.inr ⟨rfl, rfl⟩, ⟨h1, h2, h3, h4, rfl, rfl, h7, h8⟩, hm⟩
    · unfold fX4_undo; simp only [↓LM1, kE_let, kE_if, kE_b1, kE_b2, kE_b3, kE_b4, kE_b5, kE_b6, kE_b7, kE_b8, kE_b9, kE_j0, kE_j1, kE_j2, kE_j3, kE_j4, L0, L1, L2, L3, L4, L5, L6, L9, L15, L16, L19, L20, L63, L99, L9999, L12, L13, L64, L8, L14, n10, n01, le00, le10, le20, le30, ne20, ne30, ne21, if_true, if_false, not_true_eq_false, not_false_eq_true]
    · rw [pX5_undo0, L0, L1]
  · have hp : 0 < m := by omega
    obtain ⟨o', t', st', ti', ey', pt', e1, e2⟩ := pX2_restore hp h3 h4 h7 no nt ns ni ne np
    have hle : ¬ nI m ≤ nI 0 := by rw [nI_leI (by omega) (by omega)]; omega
    refine ⟨0, nI (m - 1), nI 0, St (m - 1), m - 1, o', t', st', ti', ey', pt', _, ?_, ?_, Or.inl ⟨rfl, rfl⟩, ⟨h8 (m - 1) (by omega), e2, by omega, h4, rfl, rfl, fun j hj => h7 j (by omega), fun j hj => h8 j (by omega)⟩, ⟨pX5_undoR (z := z) hp hm.2.1, fun j hj => hm.2.1 j (by omega), rfl⟩⟩
    · unfold fX4_undo
      simp only [kE_j1, kE_if, L0, L1]
      rw [if_neg hle, if_neg n10, e1]; rfl
    · rw [pX5_undoS _ _ _ hp h3, L0]
end PR
