/-! the loop, the end, and so the whole law -/
theorem cell_some (xs : Nat → Int32) {sL j : Nat} (hs : sL ≤ 260) (hj : j < 2 ^ 31) : ∃ v, fL_cell sL xs (nI j) = some v := by
  unfold fL_cell
  have e : Int32.ofNat sL = nI sL := rfl
  rw [e]
  by_cases h : sL ≤ j
  · exact ⟨_, by simp only [kE_if, kE_let]; rw [if_pos ((nI_leI (by omega) hj).mpr h)]⟩
  · exact ⟨_, by simp only [kE_if, kE_let]; rw [if_neg (fun q => h ((nI_leI (by omega) hj).mp q)), kE_ck (by omega) (by omega)]⟩
section LW
variable {g : Nat → Nat → Nat} {tk : Nat} {en pu : Int32} {se : Nat → Nat} {St : Nat → ST} {m old : Nat} {no nt ns : Nat → Int32} {ni ne np : Int32} {sr : Nat → SV} {so sc : Int32}
theorem ar_any (hc : OC (g, tk, en, pu, se) St m old no nt ns ni ne np sr so sc) (ht : tk + 5 ≤ 9999) {q kk r : Nat} (hk : kk < 11) (q1 : 1 ≤ q) (q5 : q ≤ 5) (hr : r < 20) (v : Int32) (a b c : Nat → Int32) (x y z : Int32) (K : KTy) : ArmOK tk K (lw_G (nI q) v (nI r) (nI kk) no nt ns ni ne np a b c x y z sr so sc K) := by
  rcases (show kk < 5 ∨ kk = 5 ∨ kk = 6 ∨ kk = 7 ∨ kk = 8 ∨ kk = 9 ∨ kk = 10 by omega) with h | rfl | rfl | rfl | rfl | rfl | rfl
  · exact ar_put hc h q1 q5 v _ a b c x y z K
  · exact ar_set hc _ v _ a b c x y z K
  · exact ar_refresh hc _ hr v a b c x y z K
  · exact ar_heat hc _ _ v a b c x y z K
  · exact ar_pass hc ht _ _ v a b c x y z K
  · exact ar_drop hc q1 q5 _ v a b c x y z K
  · exact ar_lock hc _ hr v a b c x y z K
theorem lw_step (hc : OC (g, tk, en, pu, se) St m old no nt ns ni ne np sr so sc) (ht : tk + 5 ≤ 9999) {q i sL : Nat} (hs : sL ≤ 260) (q1 : 1 ≤ q) (q5 : q ≤ 5) (hi : i < 26) (xs : Nat → Int32) (K525 : (Nat → Int32) → (Nat → Int32) → (Nat → Int32) → Int32 → Int32 → Int32 → (Nat → Int32) → (Nat → Int32) → (Nat → Int32) → Int32 → Int32 → Int32 → (Nat → SV) → Int32 → Int32 → Option Int32) (rec : Int32 → (Nat → Int32) → (Nat → Int32) → (Nat → Int32) → Int32 → Int32 → Int32 → (Nat → Int32) → (Nat → Int32) → (Nat → Int32) → Int32 → Int32 → Int32 → (Nat → SV) → Int32 → Int32 → Option Int32) (a b c : Nat → Int32) (x y z : Int32) : ∃ (S' : ST) (St' : Nat → ST) (m' old' : Nat) (no' nt' ns' : Nat → Int32) (ni' ne' np' : Int32) (a' b' c' : Nat → Int32) (x' y' z' : Int32) (sr' : Nat → SV) (so' sc' : Int32), S'.2.1 ≤ tk + 5 ∧ OC S' St' m' old' no' nt' ns' ni' ne' np' sr' so' sc' ∧ fL_law_s40 K525 sL xs (nI q) rec (nI i) no nt ns ni ne np a b c x y z sr so sc = rec (nI (i + 1)) no' nt' ns' ni' ne' np' a' b' c' x' y' z' sr' so' sc' := by
  obtain ⟨v, hv⟩ := cell_some xs (j := 1 + i) hs (by omega)
  obtain ⟨r, hr, e1⟩ := low_lt (v >>> nI 4) (show 0 < 20 by decide) (by decide)
  obtain ⟨kk, hk, e2⟩ := low_lt v (show 0 < 11 by decide) (by decide)
  obtain ⟨S', St', m', old', no', nt', ns', ni', ne', np', a', b', c', x', y', z', sr', so', sc', s1, c1, f1⟩ := ar_any hc ht hk q1 q5 hr (v >>> nI 4) a b c x y z (lw_F rec (nI i) (v >>> nI 4) (nI r))
  obtain ⟨g', tk', en', pu', se'⟩ := S'
  have hadd := oc_addUp c1
  obtain ⟨St2, m2, old2, no2, nt2, ns2, ni2, ne2, np2, sr2, so2, sc2, h1, c2⟩ := oc_Lsealed c1 hr (v >>> nI 4)
  refine ⟨_, St2, m2, old2, no2, nt2, ns2, ni2, ne2, np2, a', b', c', x', y', z', sr2, so2, sc2, s1, c2, ?_⟩
  have h26 : ¬ (26 : Int32) ≤ nI i := by rw [show (26 : Int32) = nI 26 by decide, nI_leI (by decide) (by omega)]; omega
  rw [s40_eq, k_if_n h26]
  simp only [kE_let, L1, nI_add, hv, kE_b1, L4, L31, nI_31 (show 4 < 32 by decide), L20, L11, e1, e2, f1]
  unfold lw_F
  simp only [kE_if, kE_let, kE_b1, kE_b10, L0, L1, n10, if_false, hadd, h1, nI_add]
theorem lw_loop {q sL : Nat} (hs : sL ≤ 260) (q1 : 1 ≤ q) (q5 : q ≤ 5) (xs : Nat → Int32) (K525 : (Nat → Int32) → (Nat → Int32) → (Nat → Int32) → Int32 → Int32 → Int32 → (Nat → Int32) → (Nat → Int32) → (Nat → Int32) → Int32 → Int32 → Int32 → (Nat → SV) → Int32 → Int32 → Option Int32) : ∀ (n i fu : Nat) (S : ST) (St : Nat → ST) (m old : Nat) (no nt ns : Nat → Int32) (ni ne np : Int32) (a b c : Nat → Int32) (x y z : Int32) (sr : Nat → SV) (so sc : Int32), i + n = 26 → n < fu → S.2.1 ≤ 5 * i → OC S St m old no nt ns ni ne np sr so sc → ∃ (S' : ST) (St' : Nat → ST) (m' old' : Nat) (no' nt' ns' : Nat → Int32) (ni' ne' np' : Int32) (a' b' c' : Nat → Int32) (x' y' z' : Int32) (sr' : Nat → SV) (so' sc' : Int32), OC S' St' m' old' no' nt' ns' ni' ne' np' sr' so' sc' ∧ S'.2.1 ≤ 130 ∧ k_l16 (fL_law_s40 K525 sL xs (nI q)) fu (nI i) no nt ns ni ne np a b c x y z sr so sc = K525 no' nt' ns' ni' ne' np' a' b' c' x' y' z' sr' so' sc' := by
  intro n
  induction n with
  | zero =>
    intro i fu S St m old no nt ns ni ne np a b c x y z sr so sc hi hf ht hc
    obtain rfl : i = 26 := by omega
    obtain ⟨fu, rfl⟩ : ∃ x, fu = x + 1 := ⟨fu - 1, by omega⟩
    refine ⟨S, St, m, old, no, nt, ns, ni, ne, np, a, b, c, x, y, z, sr, so, sc, hc, ht, ?_⟩
    show fL_law_s40 K525 sL xs (nI q) (k_l16 _ fu) (nI 26) no nt ns ni ne np a b c x y z sr so sc = _
    rw [s40_eq, k_if_p (show (26 : Int32) ≤ nI 26 by decide)]
  | succ n ih =>
    intro i fu S St m old no nt ns ni ne np a b c x y z sr so sc hi hf ht hc
    obtain ⟨fu, rfl⟩ : ∃ x, fu = x + 1 := ⟨fu - 1, by omega⟩
    obtain ⟨g, tk, en, pu, se⟩ := S
    have ht' : tk ≤ 5 * i := ht
    obtain ⟨S1, St1, m1', old1, no1, nt1, ns1, ni1, ne1, np1, a1, b1, c1, x1, y1, z1, sr1, so1, sc1, t1, o1, e1⟩ := lw_step hc (by omega) hs q1 q5 (show i < 26 by omega) xs K525 (k_l16 (fL_law_s40 K525 sL xs (nI q)) fu) a b c x y z
    obtain ⟨S2, St2, m2, old2, no2, nt2, ns2, ni2, ne2, np2, a2, b2, c2, x2, y2, z2, sr2, so2, sc2, o2, t2, e2⟩ := ih (i + 1) fu S1 St1 m1' old1 no1 nt1 ns1 ni1 ne1 np1 a1 b1 c1 x1 y1 z1 sr1 so1 sc1 (by omega) (by omega) (by omega) o1
    exact ⟨S2, St2, m2, old2, no2, nt2, ns2, ni2, ne2, np2, a2, b2, c2, x2, y2, z2, sr2, so2, sc2, o2, t2, e1.trans e2⟩
/-- the worst row, row by row -/
theorem ws_n (hc : OC (g, tk, en, pu, se) St m old no nt ns ni ne np sr so sc) {i : Nat} (hi : i < 20) (T : Int32 → Option Int32) : (k_b1 (fX4_row no nt ns ni (nI i) 1) fun (z32 : Int32) => k_j1 T (fun K616 => k_if (z32 = 4) (k_b1 (fX4_row no nt ns ni (nI i) 7) fun (z38 : Int32) => k_if (z38 = 0) (k_b1 (fX4_row no nt ns ni (nI i) 6) fun (z39 : Int32) => K616 z39) (K616 0)) (K616 0))) = T (nI (wrsD g tk (decide (se 0 = 1)) i)) := by
  have r1 := oc_row hc hi (show 1 < 9 by decide)
  have r6 := oc_row hc hi (show 6 < 9 by decide)
  have r7 := oc_row hc hi (show 7 < 9 by decide)
  rw [tr_1] at r1
  rw [tr_6] at r6
  rw [tr_7] at r7
  have kl := kd_le (mkN g tk (decide (se 0 = 1)) i)
  unfold wrsD
  by_cases h4 : kd (mkN g tk (decide (se 0 = 1)) i) = 4
  · rw [h4] at r1
    by_cases hl : 2 ≤ g i 15
    · rw [bI_t hl] at r7
      rw [if_neg (fun q => q.2 hl)]
      simp only [↓LM1, kE_let, kE_if, kE_b1, kE_b2, kE_b3, kE_b4, kE_b5, kE_b6, kE_b7, kE_b8, kE_b9, kE_j0, kE_j1, kE_j2, kE_j3, kE_j4, L0, L1, L2, L3, L4, L5, L6, L9, L15, L16, L19, L20, L63, L99, L9999, L12, L13, L64, L8, L14, n10, n01, le00, le10, le20, le30, ne20, ne30, ne21, if_true, if_false, not_true_eq_false, not_false_eq_true, L7, r1, r7]
    · rw [bI_f hl] at r7
      rw [if_pos ⟨h4, hl⟩]
      simp only [↓LM1, kE_let, kE_if, kE_b1, kE_b2, kE_b3, kE_b4, kE_b5, kE_b6, kE_b7, kE_b8, kE_b9, kE_j0, kE_j1, kE_j2, kE_j3, kE_j4, L0, L1, L2, L3, L4, L5, L6, L9, L15, L16, L19, L20, L63, L99, L9999, L12, L13, L64, L8, L14, n10, n01, le00, le10, le20, le30, ne20, ne30, ne21, if_true, if_false, not_true_eq_false, not_false_eq_true, L7, r1, r7, r6]
  · have n4 : ¬ nI (kd (mkN g tk (decide (se 0 = 1)) i)) = nI 4 := by rw [nI_eq (by omega) (by decide)]; exact h4
    rw [if_neg (fun q => h4 q.1)]
    simp only [↓LM1, kE_let, kE_if, kE_b1, kE_b2, kE_b3, kE_b4, kE_b5, kE_b6, kE_b7, kE_b8, kE_b9, kE_j0, kE_j1, kE_j2, kE_j3, kE_j4, L0, L1, L2, L3, L4, L5, L6, L9, L15, L16, L19, L20, L63, L99, L9999, L12, L13, L64, L8, L14, n10, n01, le00, le10, le20, le30, ne20, ne30, ne21, if_true, if_false, not_true_eq_false, not_false_eq_true, L7, r1, n4]
theorem ws_loop (hc : OC (g, tk, en, pu, se) St m old no nt ns ni ne np sr so sc) (K679 : Int32 → Option Int32) : k_l2 (fL_law_s575 K679 no nt ns ni (wrsN (wrsD g tk (decide (se 0 = 1))) 20).1) 5000 (nI 1) (nI 0) = K679 (nI 1) := by
  refine kE_l2 20 5000 (fun _ => nI 1) nI (fun i K hi => ?_) (fun K => ?_) (by decide)
  · have h20 : ¬ (20 : Int32) ≤ nI i := by rw [L20, nI_leI (by decide) (by omega)]; omega
    unfold fL_law_s575
    rw [k_if_n h20]
    refine (ws_n hc hi _).trans ?_
    simp only [↓LM1, L0, L1, L6, kE_if, kE_j1, kE_let, nI_add]
    rcases wrsN_or (wrsD g tk (decide (se 0 = 1))) 20 with ⟨h1, h2, h3⟩ | ⟨w, h1, h2, h3, h4, h5, h6⟩
    · rw [h1, h3 i hi]
      simp only [n10, if_false, if_true]
    · rw [h2]
      have hd : wrsD g tk (decide (se 0 = 1)) w = dbtN (g w) := by
        unfold wrsD at h4 ⊢
        split
        · rfl
        · rename_i hx; rw [if_neg hx] at h4; omega
      have dl := dbtN_le (g w)
      have r6 := oc_row hc h1 (show 6 < 9 by decide)
      rw [tr_6, ← hd] at r6
      have g0 : ¬ nI w = m1 := nI_nm1 (by omega)
      have di := h5 i hi
      have g1 : ¬ nI (wrsD g tk (decide (se 0 = 1)) w) < nI (wrsD g tk (decide (se 0 = 1)) i) := by rw [nI_ltI (by omega) (by omega)]; omega
      by_cases hw : w ≤ i
      · have g2 : nI w ≤ nI i := by rw [nI_leI (by omega) (by omega)]; exact hw
        simp only [n10, if_false, if_true, g0, r6, kE_b1, g1, g2]
      · have g2 : ¬ nI w ≤ nI i := by rw [nI_leI (by omega) (by omega)]; exact hw
        have dj := h6 i (by omega)
        have g3 : ¬ nI (wrsD g tk (decide (se 0 = 1)) w) ≤ nI (wrsD g tk (decide (se 0 = 1)) i) := by rw [nI_leI (by omega) (by omega)]; omega
        simp only [n10, if_false, if_true, g0, r6, kE_b1, g1, g2, g3]
  · have h20 : nI 20 ≤ nI 20 := Int32.le_refl _
    unfold fL_law_s575
    simp only [L20, kE_if, h20, if_true]
theorem mkN_3 (g : Nat → Nat → Nat) (t r : Nat) : mkN g (t + 3) false r = mkN g t false r := by
  unfold mkN
  refine bm_congr (fun f _ => ?_)
  unfold rdB
  rw [show (t + 3 + r + f) % 3 = (t + r + f) % 3 by omega]
theorem valN_3 (g : Nat → Nat → Nat) (t k : Nat) : valN g (t + 3) false k = valN g t false k := by
  have e1 : entB g (t + 3) false k = entB g t false k := by funext r; unfold entB; rw [mkN_3]
  have e2 : vlV g (t + 3) false = vlV g t false := by funext r; unfold vlV; rw [mkN_3]
  unfold valN
  rw [e1, e2]
/-- what the law asks at its end -/
theorem lw_end (hc : OC (g, tk, en, pu, se) St m old no nt ns ni ne np sr so sc) : (k_b1 (fX4_setting ns (nI 0)) fun (z25 : Int32) => k_j1 (fun (z26 : Int32) => k_b1 (fX4_ifRead no nt ns ni (nI 0) z26) fun (z27 : Int32) => k_if (z27 = nI 0) (k_b1 (fX4_ifRead no nt ns ni (nI 3) (nI 0)) fun (z28 : Int32) => k_b1 (fX4_ifRead no nt ns ni (nI 0) (nI 0)) fun (z29 : Int32) => k_if (z28 = z29) (some (nI 1)) (some (nI 0))) (some (nI 0))) (fun K700 => k_if (z25 = nI 1) (K700 (nI 1)) (K700 (nI 0)))) = some (nI 1) := by
  have s0 := oc_set hc (show 0 < 4 by decide)
  have hw : WF g tk se := hc.1
  have a1 := oc_ifRead hc (a := 0) (th := decide (se 0 = 1)) (by decide)
  have a2 := oc_ifRead hc (a := 3) (th := false) (by decide)
  have a3 := oc_ifRead hc (a := 0) (th := false) (by decide)
  rw [Nat.add_zero] at a1 a3
  rw [cnt_zero (P := fun k => decide (valN g tk (decide (se 0 = 1)) k ≠ valN g tk (decide (se 0 = 1)) k)) (n := 16) (fun i _ => by simp)] at a1
  simp only [valN_3] at a2
  rw [bI_f Bool.false_ne_true] at a2 a3
  have h0 := hw.2.2.1
  by_cases h : se 0 = 1
  · rw [bI_t (decide_eq_true h)] at a1
    rw [h] at s0
    simp only [↓LM1, kE_let, kE_if, kE_b1, kE_b2, kE_b3, kE_b4, kE_b5, kE_b6, kE_b7, kE_b8, kE_b9, kE_j0, kE_j1, kE_j2, kE_j3, kE_j4, L0, L1, L2, L3, L4, L5, L6, L9, L15, L16, L19, L20, L63, L99, L9999, L12, L13, L64, L8, L14, n10, n01, le00, le10, le20, le30, ne20, ne30, ne21, if_true, if_false, not_true_eq_false, not_false_eq_true, s0, a1, a2, a3]
  · have n0 : ¬ nI (se 0) = nI 1 := by rw [nI_eq (by omega) (by decide)]; exact h
    rw [bI_f (by simpa using h)] at a1
    have e := Option.some.inj (a1.symm.trans a3)
    rw [← e] at a2
    simp only [↓LM1, kE_let, kE_if, kE_b1, kE_b2, kE_b3, kE_b4, kE_b5, kE_b6, kE_b7, kE_b8, kE_b9, kE_j0, kE_j1, kE_j2, kE_j3, kE_j4, L0, L1, L2, L3, L4, L5, L6, L9, L15, L16, L19, L20, L63, L99, L9999, L12, L13, L64, L8, L14, n10, n01, le00, le10, le20, le30, ne20, ne30, ne21, if_true, if_false, not_true_eq_false, not_false_eq_true, s0, a1, a2, n0]
end LW
def se0 (k : Nat) : Nat := if k = 1 then 3 else 1
def st0 : ST := (fun _ _ => 0, 0, nI 0, nI 0, se0)
theorem oc_0 : OC st0 (fun _ => st0) 0 0 v0 v0 set0 (nI 0) (nI 0) (nI 0) (fun _ => sv0) (nI 0) (nI 0) :=
  ⟨⟨fun _ _ => Nat.zero_le 3, by decide, by decide, by decide, by decide, by decide, by decide, by decide⟩, ⟨fun r _ => ⟨show nI 0 = nI (omN (fun _ => 0)) by decide +kernel, show nI 0 = nI (tmN (fun _ => 0)) by decide +kernel⟩, by decide +kernel, rfl, rfl, rfl⟩, by decide, by decide, rfl, rfl, fun j hj => absurd hj (Nat.not_lt_zero j), fun j hj => absurd hj (Nat.not_lt_zero j)⟩
theorem share_0 : fX4_sureShare v0 v0 = some FP.dconst1 := by decide +kernel
theorem cmp_0 : Op.cmpValue (FP.dcmp FP.dconst1 FP.dconst1) .l = nI 0 := by decide +kernel
theorem lw_worst {g : Nat → Nat → Nat} {tk : Nat} {en pu : Int32} {se : Nat → Nat} {St : Nat → ST} {m old : Nat} {no nt ns : Nat → Int32} {ni ne np : Int32} {sr : Nat → SV} {so sc : Int32} (hc : OC (g, tk, en, pu, se) St m old no nt ns ni ne np sr so sc) (F : Int32 → Option Int32) : k_j1 F (fun K570 => k_if ((wrsN (wrsD g tk (decide (se 0 = 1))) 20).1 = m1) (K570 (nI 1)) (k_b1 (fX4_row no nt ns ni (wrsN (wrsD g tk (decide (se 0 = 1))) 20).1 (nI 1)) fun (z40 : Int32) => k_if (z40 = nI 4) (k_b1 (fX4_row no nt ns ni (wrsN (wrsD g tk (decide (se 0 = 1))) 20).1 (nI 7)) fun (z41 : Int32) => k_if (z41 = nI 0) (k_b1 (fX4_row no nt ns ni (wrsN (wrsD g tk (decide (se 0 = 1))) 20).1 (nI 6)) fun (z42 : Int32) => k_if (z42 ≤ nI 0) (K570 (nI 0)) (K570 (nI 1))) (K570 (nI 0))) (K570 (nI 0)))) = F (nI 1) := by
  rw [kE_j1]
  rcases wrsN_or (wrsD g tk (decide (se 0 = 1))) 20 with ⟨h1, h2, h3⟩ | ⟨w, h1, h2, h3, h4, h5, h6⟩
  · rw [h1, k_if_p rfl]
  · rw [h2, k_if_n (nI_nm1 (by omega))]
    have r1 := oc_row hc h1 (show 1 < 9 by decide)
    have r6 := oc_row hc h1 (show 6 < 9 by decide)
    have r7 := oc_row hc h1 (show 7 < 9 by decide)
    rw [tr_1] at r1
    rw [tr_6] at r6
    rw [tr_7] at r7
    unfold wrsD at h4
    by_cases hx : kd (mkN g tk (decide (se 0 = 1)) w) = 4 ∧ ¬ 2 ≤ g w 15
    · rw [if_pos hx] at h4
      have dl := dbtN_le (g w)
      rw [hx.1] at r1
      rw [bI_f hx.2] at r7
      have g1 : ¬ nI (dbtN (g w)) ≤ nI 0 := by rw [nI_leI (by omega) (by decide)]; omega
      simp only [kE_if, kE_b1, r1, r6, r7, if_true, if_false, g1]
    · rw [if_neg hx] at h4; omega
theorem ws_loop' {g : Nat → Nat → Nat} {tk : Nat} {en pu : Int32} {se : Nat → Nat} {St : Nat → ST} {m old : Nat} {no nt ns : Nat → Int32} {ni ne np : Int32} {sr : Nat → SV} {so sc : Int32} (hc : OC (g, tk, en, pu, se) St m old no nt ns ni ne np sr so sc) (F : Int32 → Option Int32) : k_j1 F (fun K679 => k_l2 (fL_law_s575 K679 no nt ns ni (wrsN (wrsD g tk (decide (se 0 = 1))) 20).1) 5000 (nI 1) (nI 0)) = F (nI 1) := by
  rw [kE_j1]
  exact ws_loop hc F
theorem lw_fin {q L : Nat} (hL : L ≤ 260) (q1 : 1 ≤ q) (q5 : q ≤ 5) (xs : Nat → Int32) (K525 : (Nat → Int32) → (Nat → Int32) → (Nat → Int32) → Int32 → Int32 → Int32 → (Nat → Int32) → (Nat → Int32) → (Nat → Int32) → Int32 → Int32 → Int32 → (Nat → SV) → Int32 → Int32 → Option Int32) (hK : ∀ (g : Nat → Nat → Nat) (tk : Nat) (en pu : Int32) (se : Nat → Nat) (St' : Nat → ST) (m' old' : Nat) (no' nt' ns' : Nat → Int32) (ni' ne' np' : Int32) (a' b' c' : Nat → Int32) (x' y' z' : Int32) (sr' : Nat → SV) (so' sc' : Int32), OC (g, tk, en, pu, se) St' m' old' no' nt' ns' ni' ne' np' sr' so' sc' → K525 no' nt' ns' ni' ne' np' a' b' c' x' y' z' sr' so' sc' = some (nI 1)) : k_l16 (fL_law_s40 K525 L xs (nI q)) 5000 (nI 0) v0 v0 set0 (nI 0) (nI 0) (nI 0) v0 v0 set0 (nI 0) (nI 0) (nI 0) (fun _ => sv0) (nI 0) (nI 0) = some (nI 1) := by
  obtain ⟨S', St', m', old', no', nt', ns', ni', ne', np', a', b', c', x', y', z', sr', so', sc', o1, t1, f1⟩ := lw_loop hL q1 q5 xs K525 26 0 5000 st0 (fun _ => st0) 0 0 v0 v0 set0 (nI 0) (nI 0) (nI 0) v0 v0 set0 (nI 0) (nI 0) (nI 0) (fun _ => sv0) (nI 0) (nI 0) (by decide) (by decide) (Nat.zero_le _) oc_0
  obtain ⟨g, tk, en, pu, se⟩ := S'
  exact f1.trans (hK g tk en pu se St' m' old' no' nt' ns' ni' ne' np' a' b' c' x' y' z' sr' so' sc' o1)
/-- the whole law answers 1 -/
theorem law_true (xs : Nat → Int32) {L : Nat} (hL : L ≤ 260) : fL_top xs L = some 1 := by
  obtain ⟨v, hv⟩ := cell_some xs (j := 0) hL (by decide)
  obtain ⟨j, hj, e1⟩ := low_lt v (show 0 < 5 by decide) (by decide)
  have hadd := oc_addUp oc_0
  unfold fL_top fL_law
  rw [share_0, kE_b1, kE_let, cmp_0]
  rw [LM1, L0, L1, L3, L4, L5, L6, L7, k_if_p rfl, hadd, kE_b1, k_if_n n10, hv, kE_b1, e1, kE_b1, kE_let, nI_add, kE_j15]
  refine lw_fin hL (show 1 ≤ 1 + j by omega) (by omega) xs _ (fun g tk en pu se St' m' old' no' nt' ns' ni' ne' np' a' b' c' x' y' z' sr' so' sc' o1 => ?_)
  show k_b1 (fX4_worst no' nt' ns' ni') _ = _
  rw [oc_worst o1, kE_b1]
  refine (lw_worst o1 _).trans ?_
  show k_j1 _ _ = _
  refine (ws_loop' o1 _).trans ?_
  show k_if _ _ _ = _
  rw [k_if_n n10]
  exact lw_end o1
