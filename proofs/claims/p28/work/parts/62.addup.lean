/-! counts of kinds, keys and rows go together -/
section UP
variable {g : Nat → Nat → Nat} {tk : Nat} {en pu : Int32} {se : Nat → Nat} {St : Nat → ST} {m old : Nat} {no nt ns : Nat → Int32} {ni ne np : Int32} {sr : Nat → SV} {so sc : Int32} {th : Bool} {r k : Nat}
theorem tr_0 : trN g tk th r 0 = nI (mkN g tk th r) := by simp [trN]
theorem tr_1 : trN g tk th r 1 = nI (kd (mkN g tk th r)) := by simp [trN]
theorem tr_2 : trN g tk th r 2 = nI (ky (mkN g tk th r)) := by simp [trN]
theorem tr_3 : trN g tk th r 3 = nI (vl (mkN g tk th r)) := by simp [trN]
theorem tr_4 : trN g tk th r 4 = nI (mkN g tk th r / 1024 % 16) := by simp [trN]
theorem tr_5 : trN g tk th r 5 = nI (zer (mkN g tk th r)) := by simp [trN]
theorem tr_6 : trN g tk th r 6 = nI (dbtN (g r)) := by simp [trN]
theorem tr_7 : trN g tk th r 7 = bI (2 ≤ g r 15) := by simp [trN]
theorem tr_8 : trN g tk th r 8 = nI (sumN (g r) 16) := by simp [trN]
theorem ty_0 : tyN g tk th k 0 = valN g tk th k := by simp [tyN]
theorem ty_1 : tyN g tk th k 1 = rowN g tk th k := by simp [tyN]
theorem ty_2 : tyN g tk th k 2 = nI (cnt (entB g tk th k) 20) := by simp [tyN]
theorem ty_3 : tyN g tk th k 3 = nI (cnt (rofB g tk th k) 20) := by simp [tyN]
theorem ty_4 : tyN g tk th k 4 = maxN (rofB g tk th k) (vlV g tk th) 20 := by simp [tyN]
theorem ct_0 : ctN g tk th en pu m 0 = nI tk := by simp [ctN, rkN]
theorem ct_5 : ctN g tk th en pu m 5 = nI (cnt (fun r => decide (kd (mkN g tk th r) = 4)) 20) := by simp [ctN, rkN]
theorem ct_6 : ctN g tk th en pu m 6 = nI (cnt (fun r => decide (2 ≤ g r 15)) 20) := by simp [ctN, rkN]
theorem ct_7 : ctN g tk th en pu m 7 = nI (sumN (fun r => dbtN (g r)) 20) := by simp [ctN, rkN]
theorem ct_8 : ctN g tk th en pu m 8 = en := by simp [ctN, rkN]
theorem ct_9 : ctN g tk th en pu m 9 = nI (cnt (fun k => decide (valN g tk th k ≠ m1)) 16) := by simp [ctN, rkN]
theorem ct_10 : ctN g tk th en pu m 10 = nextN g tk th := by simp [ctN, rkN]
theorem ct_11 : ctN g tk th en pu m 11 = pu := by simp [ctN, rkN]
theorem ct_k {i : Nat} (hi : i < 5) : ctN g tk th en pu m (1 + i) = nI (cnt (fun r => decide (kd (mkN g tk th r) = i)) 20) := by
  rcases (show i = 0 ∨ i = 1 ∨ i = 2 ∨ i = 3 ∨ i = 4 by omega) with rfl | rfl | rfl | rfl | rfl <;> simp [ctN, rkN]
theorem entB_rof (i : Nat) (h : entB g tk th k i = true) : rofB g tk th k i = true := by
  unfold entB at h; unfold rofB
  simp at h ⊢
  exact ⟨h.2, Or.inl h.1⟩
theorem vlV_e : vlV g tk th = fun i => nI ((fun j => vl (mkN g tk th j)) i) := rfl
theorem val_max : valN g tk th k ≤ maxN (rofB g tk th k) (vlV g tk th) 20 := by
  have hv : ∀ i, (fun j => vl (mkN g tk th j)) i < 2 ^ 31 := fun i => by have := vl_lt (mkN g tk th i); show vl _ < _; omega
  rw [vlV_e]
  rcases lastV_or (entB g tk th k) nI 20 with ⟨a, b⟩ | ⟨r, a, b, c⟩
  · unfold valN; rw [b]; exact m1_maxN _ _ hv 20
  · unfold valN; rw [c]; exact (maxN_ge _ _ hv 20).2 r a (entB_rof r b)
theorem up_key (hc : OC (g, tk, en, pu, se) St m old no nt ns ni ne np sr so sc) {i : Nat} (hi : i < 16) (K : Int32 → Int32 → Option Int32) (rec : Int32 → Int32 → Int32 → Option Int32) (a b : Nat) : fL_addUp_s99 K no nt ns ni rec (nI a) (nI b) (nI i) = rec (nI (a + cnt (entB g tk (decide (se 0 = 1)) i) 20)) (nI (b + (if valN g tk (decide (se 0 = 1)) i = m1 then 0 else 1))) (nI (i + 1)) := by
  have e0 := oc_key hc hi (show 0 < 6 by decide)
  have e1 := oc_key hc hi (show 1 < 6 by decide)
  have e2 := oc_key hc hi (show 2 < 6 by decide)
  have e3 := oc_key hc hi (show 3 < 6 by decide)
  have e4 := oc_key hc hi (show 4 < 6 by decide)
  rw [ty_0] at e0
  rw [ty_1] at e1
  rw [ty_2] at e2
  rw [ty_3] at e3
  rw [ty_4] at e4
  have c1 : cnt (entB g tk (decide (se 0 = 1)) i) 20 ≤ 20 := cnt_le _ _
  have c2 : cnt (rofB g tk (decide (se 0 = 1)) i) 20 ≤ 20 := cnt_le _ _
  have c3 : cnt (entB g tk (decide (se 0 = 1)) i) 20 ≤ cnt (rofB g tk (decide (se 0 = 1)) i) 20 := cnt_mono' 20 (fun j _ h => entB_rof j h)
  have h0 := oc_his hc hi (a := 0) (by decide)
  have h1 := oc_his hc hi (a := cnt (rofB g tk (decide (se 0 = 1)) i) 20) (by omega)
  have hmx := val_max (g := g) (tk := tk) (th := decide (se 0 = 1)) (k := i)
  generalize maxN (rofB g tk (decide (se 0 = 1)) i) (vlV g tk (decide (se 0 = 1))) 20 = mx at e4 hmx
  have hlast : earN (rofB g tk (decide (se 0 = 1)) i) (vlV g tk (decide (se 0 = 1))) 20 (nI (cnt (rofB g tk (decide (se 0 = 1)) i) 20)) = m1 := by
    rcases earN_or (rofB g tk (decide (se 0 = 1)) i) (vlV g tk (decide (se 0 = 1))) 20 (cnt (rofB g tk (decide (se 0 = 1)) i) 20) (by omega) with ⟨_, h⟩ | ⟨h, _⟩
    · exact h
    · omega
  rw [hlast] at h1
  obtain ⟨zh, hz1, hz2⟩ : ∃ zh, fX4_history no nt ns ni (nI i) (nI 0) = some zh ∧ ((zh < nI 0) ↔ (cnt (rofB g tk (decide (se 0 = 1)) i) 20 ≤ 0)) := by
    refine ⟨_, h0, ?_⟩
    rcases earN_or (rofB g tk (decide (se 0 = 1)) i) (vlV g tk (decide (se 0 = 1))) 20 0 (by decide) with ⟨q1, q2⟩ | ⟨q1, j, _, _, q2⟩
    · rw [q2]; exact ⟨fun _ => q1, fun _ => m1_lt0⟩
    · rw [q2]
      have := vl_lt (mkN g tk (decide (se 0 = 1)) j)
      exact ⟨fun q => absurd q (nI_nlt0 (by omega)), fun q => by omega⟩
  have hle : (nI (cnt (rofB g tk (decide (se 0 = 1)) i) 20) ≤ nI 0) ↔ (cnt (rofB g tk (decide (se 0 = 1)) i) 20 ≤ 0) := by
    rw [nI_leI (by omega) (by decide)]
  have hnl : ¬ nI (cnt (rofB g tk (decide (se 0 = 1)) i) 20) < nI (cnt (entB g tk (decide (se 0 = 1)) i) 20) := by
    rw [nI_ltI (by omega) (by omega)]; omega
  have h16 : ¬ nI 16 ≤ nI i := by rw [nI_leI (by decide) (by omega)]; omega
  rcases lastV_or (entB g tk (decide (se 0 = 1)) i) nI 20 with ⟨q1, q2⟩ | ⟨r, q1, q2, q3⟩
  · have v0 : valN g tk (decide (se 0 = 1)) i = m1 := q2 _
    have v1 : rowN g tk (decide (se 0 = 1)) i = m1 := q2 _
    have v2 : cnt (entB g tk (decide (se 0 = 1)) i) 20 = 0 := cnt_zero q1
    rw [v0] at hmx e0
    rw [v1] at e1
    rw [v2] at e2 hnl
    rw [v0, v2, if_pos rfl]
    unfold fL_addUp_s99
    by_cases hr : cnt (rofB g tk (decide (se 0 = 1)) i) 20 ≤ 0
    · have z1 := hz2.mpr hr
      have z2 := hle.mpr hr
      simp only [↓LM1, kE_let, kE_if, kE_b1, kE_b2, kE_b3, kE_b4, kE_b5, kE_b6, kE_b7, kE_b8, kE_b9, kE_j0, kE_j1, kE_j2, kE_j3, kE_j4, L0, L1, L2, L3, L4, L5, L6, L9, L15, L16, L19, L20, L63, L99, L9999, L12, L13, L64, L8, L14, n10, n01, le00, le10, le20, le30, ne20, ne30, ne21, if_true, if_false, not_true_eq_false, not_false_eq_true, e0, e1, e2, e3, e4, h16, hz1, z1, z2, h1, hnl, hmx, m1_lt0, nI_add, Nat.add_zero]
    · have z1 : ¬ zh < nI 0 := fun q => hr (hz2.mp q)
      have z2 : ¬ nI (cnt (rofB g tk (decide (se 0 = 1)) i) 20) ≤ nI 0 := fun q => hr (hle.mp q)
      simp only [↓LM1, kE_let, kE_if, kE_b1, kE_b2, kE_b3, kE_b4, kE_b5, kE_b6, kE_b7, kE_b8, kE_b9, kE_j0, kE_j1, kE_j2, kE_j3, kE_j4, L0, L1, L2, L3, L4, L5, L6, L9, L15, L16, L19, L20, L63, L99, L9999, L12, L13, L64, L8, L14, n10, n01, le00, le10, le20, le30, ne20, ne30, ne21, if_true, if_false, not_true_eq_false, not_false_eq_true, e0, e1, e2, e3, e4, h16, hz1, z1, z2, h1, hnl, hmx, m1_lt0, nI_add, Nat.add_zero]
  · have v0 : valN g tk (decide (se 0 = 1)) i = nI (vl (mkN g tk (decide (se 0 = 1)) r)) := q3 _
    have v1 : rowN g tk (decide (se 0 = 1)) i = nI r := q3 _
    have v2 := cnt_pos q1 q2
    have hvl := vl_lt (mkN g tk (decide (se 0 = 1)) r)
    have hen : kd (mkN g tk (decide (se 0 = 1)) r) = 4 ∧ ky (mkN g tk (decide (se 0 = 1)) r) = i := by
      unfold entB at q2; simpa using q2
    have r1 := oc_row hc q1 (show 1 < 9 by decide)
    have r2 := oc_row hc q1 (show 2 < 9 by decide)
    have r3 := oc_row hc q1 (show 3 < 9 by decide)
    rw [tr_1, hen.1] at r1
    rw [tr_2, hen.2] at r2
    rw [tr_3] at r3
    rw [v0] at hmx e0
    rw [v1] at e1
    rw [v0, if_neg (nI_nm1 (by omega))]
    have w1 : ¬ nI (vl (mkN g tk (decide (se 0 = 1)) r)) < nI 0 := nI_nlt0 (by omega)
    have w2 : ¬ nI r < nI 0 := nI_nlt0 (by omega)
    have w3 : ¬ nI (cnt (entB g tk (decide (se 0 = 1)) i) 20) ≤ nI 0 := by rw [nI_leI (by omega) (by decide)]; omega
    unfold fL_addUp_s99
    by_cases hr : cnt (rofB g tk (decide (se 0 = 1)) i) 20 ≤ 0
    · omega
    · have z1 : ¬ zh < nI 0 := fun q => hr (hz2.mp q)
      have z2 : ¬ nI (cnt (rofB g tk (decide (se 0 = 1)) i) 20) ≤ nI 0 := fun q => hr (hle.mp q)
      simp only [↓LM1, kE_let, kE_if, kE_b1, kE_b2, kE_b3, kE_b4, kE_b5, kE_b6, kE_b7, kE_b8, kE_b9, kE_j0, kE_j1, kE_j2, kE_j3, kE_j4, L0, L1, L2, L3, L4, L5, L6, L9, L15, L16, L19, L20, L63, L99, L9999, L12, L13, L64, L8, L14, n10, n01, le00, le10, le20, le30, ne20, ne30, ne21, if_true, if_false, not_true_eq_false, not_false_eq_true, e0, e1, e2, e3, e4, h16, hz1, z1, z2, h1, hnl, hmx, m1_lt0, nI_add, Nat.add_zero, r1, r2, r3, w1, w2, w3]
theorem up_row (hc : OC (g, tk, en, pu, se) St m old no nt ns ni ne np sr so sc) {i : Nat} (hi : i < 20) (K : Int32 → Int32 → Int32 → Option Int32) (rec : Int32 → Int32 → Int32 → Int32 → Option Int32) (a b : Nat) (z : Int32) : fL_addUp_s36 K no nt ns ni rec (nI a) (nI b) z (nI i) = rec (nI (a + (if 2 ≤ g i 15 then 1 else 0))) (nI (b + dbtN (g i))) (if mkN g tk (decide (se 0 = 1)) i = 0 then z else nI i) (nI (i + 1)) := by
  have r1 := oc_row hc hi (show 1 < 9 by decide)
  have r6 := oc_row hc hi (show 6 < 9 by decide)
  have r7 := oc_row hc hi (show 7 < 9 by decide)
  rw [tr_1] at r1
  rw [tr_6] at r6
  rw [tr_7] at r7
  have h20 : ¬ nI 20 ≤ nI i := by rw [nI_leI (by decide) (by omega)]; omega
  have hk := kd_le (mkN g tk (decide (se 0 = 1)) i)
  unfold fL_addUp_s36
  by_cases h0 : mkN g tk (decide (se 0 = 1)) i = 0
  · rw [kd_0.mpr h0] at r1
    rw [if_pos h0]
    simp only [↓LM1, kE_let, kE_if, kE_b1, kE_b2, kE_b3, kE_b4, kE_b5, kE_b6, kE_b7, kE_b8, kE_b9, kE_j0, kE_j1, kE_j2, kE_j3, kE_j4, L0, L1, L2, L3, L4, L5, L6, L9, L15, L16, L19, L20, L63, L99, L9999, L12, L13, L64, L8, L14, n10, n01, le00, le10, le20, le30, ne20, ne30, ne21, if_true, if_false, not_true_eq_false, not_false_eq_true, L7, h20, r1, r6, r7, nI_add]
  · have hz : ¬ nI (kd (mkN g tk (decide (se 0 = 1)) i)) ≤ nI 0 := by
      rw [nI_leI (by omega) (by decide)]
      intro q
      exact h0 (kd_0.mp (by omega))
    rw [if_neg h0]
    simp only [↓LM1, kE_let, kE_if, kE_b1, kE_b2, kE_b3, kE_b4, kE_b5, kE_b6, kE_b7, kE_b8, kE_b9, kE_j0, kE_j1, kE_j2, kE_j3, kE_j4, L0, L1, L2, L3, L4, L5, L6, L9, L15, L16, L19, L20, L63, L99, L9999, L12, L13, L64, L8, L14, n10, n01, le00, le10, le20, le30, ne20, ne30, ne21, if_true, if_false, not_true_eq_false, not_false_eq_true, L7, h20, r1, r6, r7, hz, nI_add]
theorem nxtN_s (M : Nat → Nat) (n : Nat) : nxtN M (n + 1) = if M n = 0 then nxtN M n else n + 1 := Eq.trans rfl rfl
theorem dn_up (n : Nat) : nI n + m1 + nI 1 = nI n := by
  cases n with
  | zero => decide
  | succ n => rw [nI_dn, nI_add]
theorem up_l2 (hc : OC (g, tk, en, pu, se) St m old no nt ns ni ne np sr so sc) (K33 : Int32 → Option Int32) : k_l2 (fL_addUp_s12 K33 no nt ns ni ne np sc) 5000 (nI 0) (nI 1) = K33 (nI 20) := by
  have s1 : sumN (fun k => cnt (fun r => decide (kd (mkN g tk (decide (se 0 = 1)) r) = k)) 20) 5 = 20 := by
    have h := cnt_split (fun _ => true) (fun r => kd (mkN g tk (decide (se 0 = 1)) r)) (K := 5) (fun i => by have := kd_le (mkN g tk (decide (se 0 = 1)) i); show kd _ < 5; omega) 20
    simp only [Bool.true_and] at h
    exact h.trans (by decide)
  refine kE_l2 5 5000 (fun i => nI (sumN (fun k => cnt (fun r => decide (kd (mkN g tk (decide (se 0 = 1)) r) = k)) 20) i)) (fun i => nI (1 + i)) (fun i K hi => ?_) (fun K => ?_) (by decide)
  · have e := oc_cnt hc (show 1 + i < 13 by omega)
    rw [ct_k hi] at e
    have h5 : ¬ nI 5 < nI (1 + i) := by rw [nI_ltI (by decide) (by omega)]; omega
    unfold fL_addUp_s12
    simp only [↓LM1, kE_let, kE_if, kE_b1, kE_b2, kE_b3, kE_b4, kE_b5, kE_b6, kE_b7, kE_b8, kE_b9, kE_j0, kE_j1, kE_j2, kE_j3, kE_j4, L0, L1, L2, L3, L4, L5, L6, L9, L15, L16, L19, L20, L63, L99, L9999, L12, L13, L64, L8, L14, n10, n01, le00, le10, le20, le30, ne20, ne30, ne21, if_true, if_false, not_true_eq_false, not_false_eq_true, h5, e, nI_add, sumN_s, Nat.add_assoc]
  · have h5 : nI 5 < nI (1 + 5) := by decide
    unfold fL_addUp_s12
    simp only [L5, kE_if, h5, if_true, s1]
theorem up_l4 (hc : OC (g, tk, en, pu, se) St m old no nt ns ni ne np sr so sc) (K90 : Int32 → Int32 → Int32 → Option Int32) : k_l4 (fL_addUp_s36 K90 no nt ns ni) 5000 (nI 0) (nI 0) m1 (nI 0) = K90 (nI (cnt (fun r => decide (2 ≤ g r 15)) 20)) (nI (sumN (fun r => dbtN (g r)) 20)) (nI (nxtN (mkN g tk (decide (se 0 = 1))) 20) + m1) := by
  refine Eq.trans (congrArg (fun z => k_l4 (fL_addUp_s36 K90 no nt ns ni) 5000 (nI 0) (nI 0) z (nI 0)) dn_st0.symm) ?_
  refine kE_l4 20 5000 (fun i => nI (cnt (fun r => decide (2 ≤ g r 15)) i)) (fun i => nI (sumN (fun r => dbtN (g r)) i)) (fun i => nI (nxtN (mkN g tk (decide (se 0 = 1))) i) + m1) nI (fun i K hi => ?_) (fun K => ?_) (by decide)
  · have e1 : cnt (fun r => decide (2 ≤ g r 15)) (i + 1) = cnt (fun r => decide (2 ≤ g r 15)) i + (if 2 ≤ g i 15 then 1 else 0) := by rw [cnt_s]; simp
    have e2 : nI (nxtN (mkN g tk (decide (se 0 = 1))) (i + 1)) + m1 = if mkN g tk (decide (se 0 = 1)) i = 0 then nI (nxtN (mkN g tk (decide (se 0 = 1))) i) + m1 else nI i := by
      rw [nxtN_s]
      by_cases h : mkN g tk (decide (se 0 = 1)) i = 0
      · rw [if_pos h, if_pos h]
      · rw [if_neg h, if_neg h, nI_dn]
    rw [up_row hc hi, e1, e2, sumN_s]
  · have h20 : nI 20 ≤ nI 20 := Int32.le_refl _
    unfold fL_addUp_s36
    simp only [L20, kE_if, h20, if_true]
theorem up_l3 (hc : OC (g, tk, en, pu, se) St m old no nt ns ni ne np sr so sc) (K : Int32 → Int32 → Option Int32) : k_l3 (fL_addUp_s99 K no nt ns ni) 5000 (nI 0) (nI 0) (nI 0) = K (nI (cnt (fun r => decide (kd (mkN g tk (decide (se 0 = 1)) r) = 4)) 20)) (nI (cnt (fun k => decide (valN g tk (decide (se 0 = 1)) k ≠ m1)) 16)) := by
  have s2 : sumN (fun k => cnt (entB g tk (decide (se 0 = 1)) k) 20) 16 = cnt (fun r => decide (kd (mkN g tk (decide (se 0 = 1)) r) = 4)) 20 := by
    have h := cnt_split (fun r => decide (kd (mkN g tk (decide (se 0 = 1)) r) = 4)) (fun r => ky (mkN g tk (decide (se 0 = 1)) r)) (K := 16) (fun i => ky_lt _) 20
    rw [← h]
    refine sumN_congr 16 (fun k _ => cnt_congr (fun r _ => ?_))
    unfold entB
    simp
  refine kE_l3 16 5000 (fun i => nI (sumN (fun k => cnt (entB g tk (decide (se 0 = 1)) k) 20) i)) (fun i => nI (cnt (fun k => decide (valN g tk (decide (se 0 = 1)) k ≠ m1)) i)) nI (fun i K hi => ?_) (fun K => ?_) (by decide)
  · have e1 : cnt (fun k => decide (valN g tk (decide (se 0 = 1)) k ≠ m1)) (i + 1) = cnt (fun k => decide (valN g tk (decide (se 0 = 1)) k ≠ m1)) i + (if valN g tk (decide (se 0 = 1)) i = m1 then 0 else 1) := by
      rw [cnt_s]
      by_cases h : valN g tk (decide (se 0 = 1)) i = m1 <;> simp [h]
    rw [up_key hc hi, e1, sumN_s]
  · have h16 : nI 16 ≤ nI 16 := Int32.le_refl _
    unfold fL_addUp_s99
    simp only [L16, kE_if, h16, if_true, s2]
theorem oc_addUp (hc : OC (g, tk, en, pu, se) St m old no nt ns ni ne np sr so sc) : fL_addUp no nt ns ni ne np sc = some (nI 1) := by
  have x5 := oc_cnt hc (show 5 < 13 by decide)
  have x6 := oc_cnt hc (show 6 < 13 by decide)
  have x7 := oc_cnt hc (show 7 < 13 by decide)
  have x9 := oc_cnt hc (show 9 < 13 by decide)
  have x10 := oc_cnt hc (show 10 < 13 by decide)
  rw [ct_5] at x5
  rw [ct_6] at x6
  rw [ct_7] at x7
  rw [ct_9] at x9
  rw [ct_10] at x10
  have hnx := nxtN_le (mkN g tk (decide (se 0 = 1))) 20
  have y2 := up_l2 hc
  have y3 := up_l3 hc
  have y4 := up_l4 hc
  generalize cnt (fun r => decide (kd (mkN g tk (decide (se 0 = 1)) r) = 4)) 20 = w5 at x5 y3
  generalize cnt (fun k => decide (valN g tk (decide (se 0 = 1)) k ≠ m1)) 16 = w9 at x9 y3
  generalize cnt (fun r => decide (2 ≤ g r 15)) 20 = w6 at x6 y4
  generalize sumN (fun r => dbtN (g r)) 20 = w7 at x7 y4
  have hx : nextN g tk (decide (se 0 = 1)) = if nxtN (mkN g tk (decide (se 0 = 1))) 20 = 20 ∨ 2 ≤ g (nxtN (mkN g tk (decide (se 0 = 1))) 20) 15 then m1 else nI (nxtN (mkN g tk (decide (se 0 = 1))) 20) := by unfold nextN; rfl
  have hrow := fun h => oc_row hc (r := nxtN (mkN g tk (decide (se 0 = 1))) 20) (w := 7) h (by decide)
  generalize nxtN (mkN g tk (decide (se 0 = 1))) 20 = nx at hx hnx y4 hrow
  unfold fL_addUp
  simp only [↓LM1, L0, L1, kE_j1, y2, kE_j3, y4, kE_j2, y3]
  by_cases q : nx = 20
  · subst q
    have q1 : nI 20 + m1 = nI 19 := by decide
    rw [if_pos (Or.inl rfl)] at hx
    rw [hx] at x10
    simp only [↓LM1, kE_let, kE_if, kE_b1, kE_b2, kE_b3, kE_b4, kE_b5, kE_b6, kE_b7, kE_b8, kE_b9, kE_j0, kE_j1, kE_j2, kE_j3, kE_j4, L0, L1, L2, L3, L4, L5, L6, L9, L15, L16, L19, L20, L63, L99, L9999, L12, L13, L64, L8, L14, n10, n01, le00, le10, le20, le30, ne20, ne30, ne21, if_true, if_false, not_true_eq_false, not_false_eq_true, L7, L10, q1, x5, x6, x7, x9, x10]
  · have q1 : ¬ nI nx + m1 = nI 19 := by
      intro h
      have h2 : nI nx + m1 + nI 1 = nI 19 + nI 1 := by rw [h]
      rw [dn_up, nI_add] at h2
      exact q (nI_inj (by omega) (by decide) h2)
    have r7 := hrow (by omega)
    rw [tr_7] at r7
    by_cases hl : 2 ≤ g nx 15
    · rw [bI_t hl] at r7
      rw [if_pos (Or.inr hl)] at hx
      rw [hx] at x10
      simp only [↓LM1, kE_let, kE_if, kE_b1, kE_b2, kE_b3, kE_b4, kE_b5, kE_b6, kE_b7, kE_b8, kE_b9, kE_j0, kE_j1, kE_j2, kE_j3, kE_j4, L0, L1, L2, L3, L4, L5, L6, L9, L15, L16, L19, L20, L63, L99, L9999, L12, L13, L64, L8, L14, n10, n01, le00, le10, le20, le30, ne20, ne30, ne21, if_true, if_false, not_true_eq_false, not_false_eq_true, L7, L10, q1, dn_up, r7, x5, x6, x7, x9, x10]
    · rw [bI_f hl] at r7
      rw [if_neg (by rintro (h | h); exact q h; exact hl h)] at hx
      rw [hx] at x10
      simp only [↓LM1, kE_let, kE_if, kE_b1, kE_b2, kE_b3, kE_b4, kE_b5, kE_b6, kE_b7, kE_b8, kE_b9, kE_j0, kE_j1, kE_j2, kE_j3, kE_j4, L0, L1, L2, L3, L4, L5, L6, L9, L15, L16, L19, L20, L63, L99, L9999, L12, L13, L64, L8, L14, n10, n01, le00, le10, le20, le30, ne20, ne30, ne21, if_true, if_false, not_true_eq_false, not_false_eq_true, L7, L10, q1, dn_up, r7, x5, x6, x7, x9, x10]
end UP
