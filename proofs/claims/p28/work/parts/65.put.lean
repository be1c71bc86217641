/-! a put is as it was told ahead; with sure fuses it reads as an entry at once -/
theorem wrS_o (tk : Nat) (se : Nat → Nat) (r W k v : Nat) {r' : Nat} (h : r' ≠ r) (n : Nat) : ∀ s : (Nat → Nat → Nat) × Int32 × Nat, (wrS tk se r W k v n s).1 r' = s.1 r' := by
  induction n with
  | zero => intro s; rfl
  | succ n ih =>
    intro s
    unfold wrS
    split
    · rw [ih]; exact blP_other _ _ _ _ _ _ h
    · rfl
theorem wrS_t (tk : Nat) (se : Nat → Nat) (r W k v : Nat) (n : Nat) : ∀ s : (Nat → Nat → Nat) × Int32 × Nat, 1 ≤ s.2.2 → s.2.2 ≤ se 2 → 1 ≤ (wrS tk se r W k v n s).2.2 ∧ (wrS tk se r W k v n s).2.2 ≤ se 2 := by
  induction n with
  | zero => intro s a b; exact ⟨a, b⟩
  | succ n ih =>
    intro s a b
    unfold wrS
    split
    · rename_i c
      exact ih _ (Nat.le_add_left _ _) c.1
    · exact ⟨a, b⟩
theorem mkG_not {g : Nat → Nat → Nat} {M : Nat → Bool} {c n r : Nat} (h : M r = false) : mkG g M c n r = g r := by
  funext f
  unfold mkG
  rw [if_neg (by rw [h]; simp)]
theorem wnt_ok : ∀ k, k < 16 → ∀ v, v < 64 → kd (wnt k v) = 4 ∧ ky (wnt k v) = k ∧ vl (wnt k v) = v := by decide +kernel
theorem add_back (a b : Int32) : a + (b - a) = b := by rw [Int32.add_comm, Int32.sub_add_cancel]
section PT
variable {g : Nat → Nat → Nat} {tk : Nat} {en pu : Int32} {se : Nat → Nat} {St : Nat → ST} {m old : Nat} {no nt ns : Nat → Int32} {ni ne np : Int32} {sr : Nat → SV} {so sc : Int32}
theorem wp_other {k v r' : Nat} (h : r' ≠ nxtN (mkN g tk (decide (se 0 = 1))) 20) : (wpW g tk en se k v).1 r' = g r' := by
  unfold wpW wrN
  rw [wrS_o _ _ _ _ _ _ h]
  exact blP_other _ _ _ _ _ _ h
theorem wp_tries {k v : Nat} (h2 : 1 ≤ se 2) : 1 ≤ (wpW g tk en se k v).2.2 ∧ (wpW g tk en se k v).2.2 ≤ se 2 := wrS_t _ _ _ _ _ _ 2 _ (Nat.le_refl 1) h2
theorem wp_marks {k v : Nat} : (wpM g tk en se k v).2.2 ≤ cnt (entB g tk (decide (se 0 = 1)) k) 20 ∧ (¬ se 3 = 1 → (wpM g tk en se k v).2.2 = 0) := by
  unfold wpM mk1
  by_cases h : se 3 = 1
  · rw [if_pos h]
    refine ⟨cnt_mono' 20 (fun i _ q => ?_), fun q => absurd h q⟩
    unfold mkP at q
    have q := of_decide_eq_true q
    have hi : i ≠ nxtN (mkN g tk (decide (se 0 = 1))) 20 := by rintro rfl; exact q.1 rfl
    have e := q.2.1
    unfold entB at e ⊢
    rw [mkN_row (wp_other (en := en) (k := k) (v := v) hi)] at e
    exact e
  · rw [if_neg h]
    exact ⟨Nat.zero_le _, fun _ => rfl⟩
/-- with sure fuses the row reads as wanted after one pass -/
theorem wp_sure (hw : WF g tk se) {k v : Nat} (hk : k < 16) (hv : v < 64) (h1 : se 1 = 3) (hr : nxtN (mkN g tk (decide (se 0 = 1))) 20 < 20) : (wpW g tk en se k v).2.2 = 1 ∧ mkN (wpW g tk en se k v).1 tk (decide (se 0 = 1)) (nxtN (mkN g tk (decide (se 0 = 1))) 20) = wnt k v := by
  have hf := nxtN_free (mkN g tk (decide (se 0 = 1))) 20 _ (Nat.le_refl _) hr
  unfold wpW
  generalize nxtN (mkN g tk (decide (se 0 = 1))) 20 = r at hf hr ⊢
  have hW := wnt_lt hk hv
  have e : mkN (wr1 g tk se r (wnt k v) en).1 tk (decide (se 0 = 1)) r = wnt k v := by
    refine bm_ext (n := 16) (mkN_lt _ _ _ _) (by omega) (fun j hj => ?_)
    have hb : rdB (g r) r tk (decide (se 0 = 1)) j = false := by rw [← mkN_bit g tk _ r hj, hf]; exact Nat.zero_testBit j
    rw [mkN_bit _ _ _ _ hj]
    have ha : (wr1 g tk se r (wnt k v) en).1 r j = if (wnt k v).testBit j = true then max (g r j) 3 else g r j := by
      show blP g r (PW g tk (decide (se 0 = 1)) r (wnt k v) 0) (CW g se r 0) 16 r j = _
      unfold blP PW CW
      by_cases q : (wnt k v).testBit j = true
      · rw [if_pos ⟨rfl, hj, by simp [q]⟩, if_pos q, if_pos rfl, h1]
      · rw [if_neg (fun z => q (by have := z.2.2; simp at this; exact this)), if_neg q]
    unfold rdB at hb ⊢
    rw [ha]
    by_cases q : (wnt k v).testBit j = true
    · rw [if_pos q, q]
      have h3 : (tk + r + j) % 3 < max (g r j) 3 := by omega
      have h2 : 2 ≤ max (g r j) 3 := by omega
      rw [decide_eq_true h2, decide_eq_true h3]
      split <;> rfl
    · rw [if_neg q, hb]; simpa using q
  obtain ⟨t1, t2, t3⟩ := wnt_ok k hk v hv
  have ht : tellB (wr1 g tk se r (wnt k v) en).1 tk (decide (se 0 = 1)) r k v = true := by
    unfold tellB
    rw [e]
    exact decide_eq_true ⟨t1, t2, t3⟩
  have hN : wrN g tk se r k v en = wr1 g tk se r (wnt k v) en := by
    unfold wrN wrS
    rw [if_neg (fun q => q.2 ht)]
  rw [hN]
  exact ⟨rfl, e⟩
theorem wpM_at {k v : Nat} : (wpM g tk en se k v).1 (nxtN (mkN g tk (decide (se 0 = 1))) 20) = (wpW g tk en se k v).1 (nxtN (mkN g tk (decide (se 0 = 1))) 20) := by
  unfold wpM mk1
  split
  · exact mkG_not (by unfold mkP; simp)
  · rfl
theorem wpM_free {k v i : Nat} (h1 : nxtN (mkN g tk (decide (se 0 = 1))) 20 < i) (h2 : i < 20) : entB (wpM g tk en se k v).1 tk (decide (se 0 = 1)) k i = false := by
  have hf := nxtN_free (mkN g tk (decide (se 0 = 1))) 20 i (by omega) h2
  have hw : (wpW g tk en se k v).1 i = g i := wp_other (by omega)
  have he : entB (wpW g tk en se k v).1 tk (decide (se 0 = 1)) k i = false := by
    unfold entB
    rw [mkN_row hw, hf]
    simp [show ¬ kd 0 = 4 by decide]
  have hm : (wpM g tk en se k v).1 i = (wpW g tk en se k v).1 i := by
    unfold wpM mk1
    split
    · exact mkG_not (by unfold mkP; rw [he]; simp)
    · rfl
  unfold entB at he ⊢
  rw [mkN_row hm]
  exact he
theorem wpN_0 {k v : Nat} (h : ¬ nextN g tk (decide (se 0 = 1)) = m1) : wpN g tk en se k v 0 = nI (wpW g tk en se k v).2.2 := by simp [wpN, h]
theorem wpN_1 {k v : Nat} (h : ¬ nextN g tk (decide (se 0 = 1)) = m1) : wpN g tk en se k v 1 = nI (kd (mkN (wpM g tk en se k v).1 tk (decide (se 0 = 1)) (nxtN (mkN g tk (decide (se 0 = 1))) 20))) := by simp [wpN, h]
theorem wpN_2 {k v : Nat} (h : ¬ nextN g tk (decide (se 0 = 1)) = m1) : wpN g tk en se k v 2 = (wpM g tk en se k v).2.1 - en := by simp [wpN, h]
theorem wpN_3 {k v : Nat} (h : ¬ nextN g tk (decide (se 0 = 1)) = m1) : wpN g tk en se k v 3 = valN (wpM g tk en se k v).1 tk (decide (se 0 = 1)) k := by simp [wpN, h]
theorem wpN_4 {k v : Nat} (h : ¬ nextN g tk (decide (se 0 = 1)) = m1) : wpN g tk en se k v 4 = nI (wpM g tk en se k v).2.2 := by simp [wpN, h]
theorem wpN_n {k v w : Nat} (h : nextN g tk (decide (se 0 = 1)) = m1) : wpN g tk en se k v w = m1 := by simp [wpN, h]
set_option maxHeartbeats 2000000 in
theorem oc_Lput (hc : OC (g, tk, en, pu, se) St m old no nt ns ni ne np sr so sc) {k v : Nat} (hk : k < 16) (hv : v < 64) (hl : ¬ nextN g tk (decide (se 0 = 1)) = m1) (a b c : Nat → Int32) (x y z : Int32) : ∃ S' no' nt' ne' np' a' b' c' x' y' z' sr' old', S'.2.1 = tk ∧ S'.2.2.2.2 = se ∧ fL_put no nt ns ni ne np a b c x y z sr so sc (nI k) (nI v) = some (nI 1, no', nt', ne', np', a', b', c', x', y', z', sr', nI old', nI (saveM m)) ∧ OC S' (saveF St m (g, tk, en, pu, se)) (saveM m) old' no' nt' ns ni ne' np' sr' (nI old') (nI (saveM m)) := by
  have hw : WF g tk se := hc.1
  obtain ⟨a1, b1, c1, x1, y1, z1, h1⟩ := oc_ifPut hc hk hv (show 0 < 5 by decide) a b c x y z
  obtain ⟨a2, b2, c2, x2, y2, z2, h2⟩ := oc_ifPut hc hk hv (show 1 < 5 by decide) a1 b1 c1 x1 y1 z1
  obtain ⟨a3, b3, c3, x3, y3, z3, h3⟩ := oc_ifPut hc hk hv (show 2 < 5 by decide) a2 b2 c2 x2 y2 z2
  obtain ⟨a4, b4, c4, x4, y4, z4, h4⟩ := oc_ifPut hc hk hv (show 3 < 5 by decide) a3 b3 c3 x3 y3 z3
  obtain ⟨a5, b5, c5, x5, y5, z5, h5⟩ := oc_ifPut hc hk hv (show 4 < 5 by decide) a4 b4 c4 x4 y4 z4
  rw [wpN_0 hl] at h1
  rw [wpN_1 hl] at h2
  rw [wpN_2 hl] at h3
  rw [wpN_3 hl] at h4
  rw [wpN_4 hl] at h5
  obtain ⟨no', nt', ne', np', sr', old', e1, f1⟩ := oc_put hc hk hv hl
  rcases nextN_or g tk (decide (se 0 = 1)) with q | ⟨hr, hlk, hnx⟩
  · exact absurd q hl
  have hfree := nxtN_free (mkN g tk (decide (se 0 = 1))) 20 _ (Nat.le_refl _) hr
  have u10 := oc_cnt hc (show 10 < 13 by decide)
  have u8 := oc_cnt hc (show 8 < 13 by decide)
  have u11 := oc_cnt hc (show 11 < 13 by decide)
  rw [ct_10, hnx] at u10
  rw [ct_8] at u8
  rw [ct_11] at u11
  have r1 := oc_row hc hr (show 1 < 9 by decide)
  have r7 := oc_row hc hr (show 7 < 9 by decide)
  rw [tr_1, kd_0.mpr hfree] at r1
  rw [tr_7, bI_f hlk] at r7
  have k2 := oc_key hc hk (show 2 < 6 by decide)
  rw [ty_2] at k2
  have s1 := oc_set hc (show 1 < 4 by decide)
  have s2 := oc_set hc (show 2 < 4 by decide)
  have s3 := oc_set hc (show 3 < 4 by decide)
  have v1 := oc_row f1 hr (show 1 < 9 by decide)
  have v2 := oc_row f1 hr (show 2 < 9 by decide)
  have v3 := oc_row f1 hr (show 3 < 9 by decide)
  have v4 := oc_row f1 hr (show 4 < 9 by decide)
  have v5 := oc_row f1 hr (show 5 < 9 by decide)
  rw [tr_1] at v1
  rw [tr_2] at v2
  rw [tr_3] at v3
  rw [tr_4] at v4
  rw [tr_5] at v5
  have w8 := oc_cnt f1 (show 8 < 13 by decide)
  have w11 := oc_cnt f1 (show 11 < 13 by decide)
  rw [ct_8] at w8
  rw [ct_11] at w11
  have kk0 := oc_key f1 hk (show 0 < 6 by decide)
  have kk1 := oc_key f1 hk (show 1 < 6 by decide)
  rw [ty_0] at kk0
  rw [ty_1] at kk1
  obtain ⟨t1, t2⟩ := wp_tries (g := g) (tk := tk) (en := en) (k := k) (v := v) hw.2.2.2.2.2.1
  obtain ⟨m3, m4⟩ := wp_marks (g := g) (tk := tk) (en := en) (se := se) (k := k) (v := v)
  have m5 : cnt (entB g tk (decide (se 0 = 1)) k) 20 ≤ 20 := cnt_le _ _
  have hs2 : se 2 ≤ 3 := hw.2.2.2.2.2.2.1
  have hs1 : se 1 ≤ 3 := hw.2.2.2.2.1
  have hs3 : se 3 ≤ 1 := hw.2.2.2.2.2.2.2
  have g0 : ¬ nI (nxtN (mkN g tk (decide (se 0 = 1))) 20) = m1 := nI_nm1 (by omega)
  have g1 : ¬ nI (wpM g tk en se k v).2.2 < nI 0 := nI_nlt0 (by omega)
  have g2 : ¬ nI (cnt (entB g tk (decide (se 0 = 1)) k) 20) < nI (wpM g tk en se k v).2.2 := by rw [nI_ltI (by omega) (by omega)]; omega
  have g3 : ¬ nI (wpW g tk en se k v).2.2 < nI 1 := by rw [nI_ltI (by omega) (by decide)]; omega
  have g4 : ¬ nI (se 2) < nI (wpW g tk en se k v).2.2 := by rw [nI_ltI (by omega) (by omega)]; omega
  have g5 : se 3 = 1 ∨ (¬ nI (se 3) = nI 1 ∧ nI (wpM g tk en se k v).2.2 = nI 0) := by
    by_cases q : se 3 = 1
    · exact Or.inl q
    · exact Or.inr ⟨by rw [nI_eq (by omega) (by decide)]; exact q, by rw [m4 q]⟩
  refine ⟨_, no', nt', ne', np', a5, b5, c5, x5, y5, z5, sr', old', rfl, rfl, ?_, f1⟩
  unfold fL_put
  by_cases h13 : se 1 = 3
  · obtain ⟨p1, p2⟩ := wp_sure (en := en) hw hk hv h13 hr
    obtain ⟨o1, o2, o3⟩ := wnt_ok k hk v hv
    have hM : mkN (wpM g tk en se k v).1 tk (decide (se 0 = 1)) (nxtN (mkN g tk (decide (se 0 = 1))) 20) = wnt k v := by rw [mkN_row wpM_at, p2]
    have hent : entB (wpM g tk en se k v).1 tk (decide (se 0 = 1)) k (nxtN (mkN g tk (decide (se 0 = 1))) 20) = true := by
      unfold entB
      rw [hM]
      exact decide_eq_true ⟨o1, o2⟩
    have hval : valN (wpM g tk en se k v).1 tk (decide (se 0 = 1)) k = nI v := by
      unfold valN
      rw [lastV_at hr hent (fun i i1 i2 => wpM_free i1 i2)]
      unfold vlV
      rw [hM, o3]
    have hrow : rowN (wpM g tk en se k v).1 tk (decide (se 0 = 1)) k = nI (nxtN (mkN g tk (decide (se 0 = 1))) 20) := by
      unfold rowN
      rw [lastV_at hr hent (fun i i1 i2 => wpM_free i1 i2)]
    have hz := (kd_4.mp o1).2.2
    rw [hM, o1] at h2 v1
    rw [hM, o2] at v2
    rw [hM, o3] at v3
    rw [hM, hz] at v4
    rw [hM] at v5
    rw [hval] at h4 kk0
    rw [hrow] at kk1
    rw [h13] at s1
    rw [p1] at h1 e1 g3 g4
    rcases g5 with q | ⟨q, q'⟩
    · rw [q] at s3
      simp only [↓LM1, kE_let, kE_if, kE_b1, kE_b2, kE_b3, kE_b4, kE_b5, kE_b6, kE_b7, kE_b8, kE_b9, kE_j0, kE_j1, kE_j2, kE_j3, kE_j4, L0, L1, L2, L3, L4, L5, L6, L9, L15, L16, L19, L20, L63, L99, L9999, L12, L13, L64, L8, L14, n10, n01, le00, le10, le20, le30, ne20, ne30, ne21, if_true, if_false, not_true_eq_false, not_false_eq_true, kE_j8, kE_b7, kE_b8, L7, L10, L11, u10, h1, h2, h3, h4, h5, u8, u11, r1, r7, k2, s1, s2, s3, g0, g1, g2, g3, g4, e1, v1, v2, v3, v4, v5, w8, w11, kk0, kk1, add_back]
    · rw [q'] at h5 g1 g2
      simp only [↓LM1, kE_let, kE_if, kE_b1, kE_b2, kE_b3, kE_b4, kE_b5, kE_b6, kE_b7, kE_b8, kE_b9, kE_j0, kE_j1, kE_j2, kE_j3, kE_j4, L0, L1, L2, L3, L4, L5, L6, L9, L15, L16, L19, L20, L63, L99, L9999, L12, L13, L64, L8, L14, n10, n01, le00, le10, le20, le30, ne20, ne30, ne21, if_true, if_false, not_true_eq_false, not_false_eq_true, kE_j8, kE_b7, kE_b8, L7, L10, L11, u10, h1, h2, h3, h4, h5, u8, u11, r1, r7, k2, s1, s2, s3, g0, g1, g2, g3, g4, e1, v1, v2, v3, v4, v5, w8, w11, kk0, kk1, add_back, q]
  · have n13 : ¬ nI (se 1) = nI 3 := by rw [nI_eq (by omega) (by decide)]; exact h13
    rcases g5 with q | ⟨q, q'⟩
    · rw [q] at s3
      simp only [↓LM1, kE_let, kE_if, kE_b1, kE_b2, kE_b3, kE_b4, kE_b5, kE_b6, kE_b7, kE_b8, kE_b9, kE_j0, kE_j1, kE_j2, kE_j3, kE_j4, L0, L1, L2, L3, L4, L5, L6, L9, L15, L16, L19, L20, L63, L99, L9999, L12, L13, L64, L8, L14, n10, n01, le00, le10, le20, le30, ne20, ne30, ne21, if_true, if_false, not_true_eq_false, not_false_eq_true, kE_j8, kE_b7, kE_b8, L7, L10, L11, u10, h1, h2, h3, h4, h5, u8, u11, r1, r7, k2, s1, s2, s3, g0, g1, g2, g3, g4, e1, v1, w8, w11, kk0, add_back, n13]
    · rw [q'] at h5 g1 g2
      simp only [↓LM1, kE_let, kE_if, kE_b1, kE_b2, kE_b3, kE_b4, kE_b5, kE_b6, kE_b7, kE_b8, kE_b9, kE_j0, kE_j1, kE_j2, kE_j3, kE_j4, L0, L1, L2, L3, L4, L5, L6, L9, L15, L16, L19, L20, L63, L99, L9999, L12, L13, L64, L8, L14, n10, n01, le00, le10, le20, le30, ne20, ne30, ne21, if_true, if_false, not_true_eq_false, not_false_eq_true, kE_j8, kE_b7, kE_b8, L7, L10, L11, u10, h1, h2, h3, h4, h5, u8, u11, r1, r7, k2, s1, s2, s3, g0, g1, g2, g3, g4, e1, v1, w8, w11, kk0, add_back, n13, q]
end PT
