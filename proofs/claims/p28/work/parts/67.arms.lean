/-! each arm of the switch goes on, with an object as it should be -/
theorem k_if_p {β : Type} {P : Prop} [Decidable P] {a b : Option β} (h : P) : k_if P a b = a := by rw [kE_if, if_pos h]
theorem k_if_n {β : Type} {P : Prop} [Decidable P] {a b : Option β} (h : ¬ P) : k_if P a b = b := by rw [kE_if, if_neg h]
abbrev KTy : Type := Int32 → (Nat → Int32) → (Nat → Int32) → (Nat → Int32) → Int32 → Int32 → Int32 → (Nat → Int32) → (Nat → Int32) → (Nat → Int32) → Int32 → Int32 → Int32 → (Nat → SV) → Int32 → Int32 → Option Int32
def ArmOK (tk : Nat) (K : KTy) (v : Option Int32) : Prop := ∃ (S' : ST) (St' : Nat → ST) (m' old' : Nat) (no' nt' ns' : Nat → Int32) (ni' ne' np' : Int32) (a' b' c' : Nat → Int32) (x' y' z' : Int32) (sr' : Nat → SV) (so' sc' : Int32), S'.2.1 ≤ tk + 5 ∧ OC S' St' m' old' no' nt' ns' ni' ne' np' sr' so' sc' ∧ v = K (nI 1) no' nt' ns' ni' ne' np' a' b' c' x' y' z' sr' so' sc'
theorem cnt_one {P Q : Nat → Bool} {n r : Nat} (hr : r < n) (h0 : P r = false) (h1 : Q r = true) (h : ∀ i, i ≠ r → Q i = P i) : cnt Q n = cnt P n + 1 := by
  induction n with
  | zero => omega
  | succ n ih =>
    rw [cnt_s, cnt_s]
    by_cases e : r = n
    · subst e
      rw [h0, h1, cnt_congr (P := Q) (Q := P) (fun i hi => h i (by omega))]
      simp
    · rw [ih (by omega), h n (fun q => e q.symm)]; omega
section AR
variable {g : Nat → Nat → Nat} {tk : Nat} {en pu : Int32} {se : Nat → Nat} {St : Nat → ST} {m old : Nat} {no nt ns : Nat → Int32} {ni ne np : Int32} {sr : Nat → SV} {so sc : Int32}
theorem upS_e (se : Nat → Nat) (k v j : Nat) : upS se k v j = if j = k then v else se j := rfl
theorem mk_mark (g : Nat → Nat → Nat) (P : Nat → Bool) (t : Nat) (th : Bool) {i : Nat} (hi : i < 20) (h : P i = true) : mkN (mkG g P 3 20) t th i = mkN g t th i ||| 16384 := by
  have e : mkG g P 3 20 i = blG g i 14 3 i := by
    funext f
    unfold mkG blG upG
    by_cases hf : f = 14
    · subst hf; rw [if_pos ⟨hi, rfl, h⟩, if_pos ⟨rfl, rfl⟩]
    · rw [if_neg (fun q => hf q.2.1), if_neg (fun q => hf q.2)]
  rw [mkN_row e, mkN_bl g t th i (show 14 < 16 by decide)]
theorem dr_none (g : Nat → Nat → Nat) (tk : Nat) (th : Bool) (k : Nat) (hl : ∀ i, i < 20 → ¬ 2 ≤ g i 15) : valN (mkG g (mkP g tk th m1 k) 3 20) tk th k = m1 := by
  unfold valN
  refine lastV_none (fun i hi => ?_)
  cases hp : mkP g tk th m1 k i
  · have hr : mkG g (mkP g tk th m1 k) 3 20 i = g i := mkG_not hp
    unfold mkP at hp
    have hp := of_decide_eq_false hp
    cases he : entB (mkG g (mkP g tk th m1 k) 3 20) tk th k i
    · rfl
    · exfalso
      unfold entB at he
      rw [mkN_row hr] at he
      exact hp ⟨nI_nm1 (by omega), he, hl i hi⟩
  · unfold entB
    rw [mk_mark g _ tk th hi hp]
    exact decide_eq_false (fun q => kd_mark4 _ q.1)
theorem dr_all (g : Nat → Nat → Nat) (tk : Nat) (th : Bool) (k : Nat) (hl : ∀ i, i < 20 → ¬ 2 ≤ g i 15) : cnt (mkP g tk th m1 k) 20 = cnt (entB g tk th k) 20 := by
  refine cnt_congr (fun i hi => ?_)
  unfold mkP
  cases he : entB g tk th k i
  · simp
  · exact decide_eq_true ⟨nI_nm1 (by omega), rfl, hl i hi⟩
theorem dr_le (g : Nat → Nat → Nat) (tk : Nat) (th : Bool) (k : Nat) : cnt (mkP g tk th m1 k) 20 ≤ cnt (entB g tk th k) 20 := cnt_mono' 20 (fun i _ q => by unfold mkP at q; exact (of_decide_eq_true q).2.1)
theorem ar_put (hc : OC (g, tk, en, pu, se) St m old no nt ns ni ne np sr so sc) {q kk : Nat} (hk : kk < 5) (q1 : 1 ≤ q) (q5 : q ≤ 5) (v : Int32) (rr : Int32) (a b c : Nat → Int32) (x y z : Int32) (K : KTy) : ArmOK tk K (lw_G (nI q) v rr (nI kk) no nt ns ni ne np a b c x y z sr so sc K) := by
  have h5 : ¬ (5 : Int32) ≤ nI kk := by rw [L5, nI_leI (by decide) (by omega)]; omega
  unfold lw_G
  rw [k_if_n h5]
  have u10 := oc_cnt hc (show 10 < 13 by decide)
  rw [ct_10] at u10
  by_cases hl : nextN g tk (decide (se 0 = 1)) = m1
  · obtain ⟨a1, b1, c1, x1, y1, z1, h1⟩ := oc_ifPut hc (show 1 < 16 by decide) (show 1 < 64 by decide) (show 0 < 5 by decide) a b c x y z
    rw [wpN_n hl] at h1
    rw [hl] at u10
    refine ⟨_, St, m, old, no, nt, ns, ni, ne, np, a1, b1, c1, x1, y1, z1, sr, so, sc, Nat.le_add_right _ _, hc, ?_⟩
    simp only [↓LM1, kE_let, kE_if, kE_b1, kE_b2, kE_b3, kE_b4, kE_b5, kE_b6, kE_b7, kE_b8, kE_b9, kE_j0, kE_j1, kE_j2, kE_j3, kE_j4, L0, L1, L2, L3, L4, L5, L6, L9, L15, L16, L19, L20, L63, L99, L9999, L12, L13, L64, L8, L14, n10, n01, le00, le10, le20, le30, ne20, ne30, ne21, if_true, if_false, not_true_eq_false, not_false_eq_true, kE_j14, kE_b7, L10, u10, h1]
  · obtain ⟨j1, hj1, e1⟩ := low_lt v (show 0 < q by omega) (by omega)
    obtain ⟨j2, hj2, e2⟩ := low_lt (v >>> nI 3) (show 0 < 64 by decide) (by decide)
    obtain ⟨S', no', nt', ne', np', a', b', c', x', y', z', sr', old', s1, s2, f1, f2⟩ := oc_Lput hc (show j1 < 16 by omega) hj2 hl a b c x y z
    refine ⟨S', _, _, old', no', nt', ns, ni, ne', np', a', b', c', x', y', z', sr', _, _, by rw [s1]; exact Nat.le_add_right _ _, f2, ?_⟩
    simp only [↓LM1, kE_let, kE_if, kE_b1, kE_b2, kE_b3, kE_b4, kE_b5, kE_b6, kE_b7, kE_b8, kE_b9, kE_j0, kE_j1, kE_j2, kE_j3, kE_j4, L0, L1, L2, L3, L4, L5, L6, L9, L15, L16, L19, L20, L63, L99, L9999, L12, L13, L64, L8, L14, n10, n01, le00, le10, le20, le30, ne20, ne30, ne21, if_true, if_false, not_true_eq_false, not_false_eq_true, kE_j14, kE_b14, L10, L31, nI_31 (show 3 < 32 by decide), u10, hl, e1, e2, f1]
theorem ar_set (hc : OC (g, tk, en, pu, se) St m old no nt ns ni ne np sr so sc) (q : Int32) (v rr : Int32) (a b c : Nat → Int32) (x y z : Int32) (K : KTy) : ArmOK tk K (lw_G q v rr (nI 5) no nt ns ni ne np a b c x y z sr so sc K) := by
  have hw : WF g tk se := hc.1
  obtain ⟨j1, hj1, e1⟩ := low_lt v (show 0 < 3 by decide) (by decide)
  obtain ⟨j2, hj2, e2⟩ := low_lt (v >>> nI 2) (show 0 < 3 by decide) (by decide)
  obtain ⟨j3, hj3, e3⟩ := low_lt (v >>> nI 4) (show 0 < 2 by decide) (by decide)
  obtain ⟨j4, hj4, e4⟩ := low_lt (v >>> nI 5) (show 0 < 2 by decide) (by decide)
  unfold lw_G
  rw [k_if_p (show (5 : Int32) ≤ nI 5 by decide), k_if_p (show nI 5 = 5 by decide)]
  have go : ∀ n, (n = 2 ∨ n = 3) → (∃ (ns1 : Nat → Int32) (sr1 : Nat → SV) (old1 : Nat) (ns2 : Nat → Int32) (sr2 : Nat → SV) (old2 : Nat) (ns3 : Nat → Int32) (sr3 : Nat → SV) (old3 : Nat) (ns4 : Nat → Int32) (sr4 : Nat → SV) (old4 : Nat) (m1' m2' m3' m4' : Nat) (St4 : Nat → ST), fX4_set no nt ns ni ne np sr so sc (nI 1) (nI n) = some (nI (se 1), ns1, sr1, nI old1, nI m1') ∧ fX4_set no nt ns1 ni ne np sr1 (nI old1) (nI m1') (nI 2) (nI (1 + j2)) = some (nI (se 2), ns2, sr2, nI old2, nI m2') ∧ fX4_set no nt ns2 ni ne np sr2 (nI old2) (nI m2') (nI 0) (nI j3) = some (nI (se 0), ns3, sr3, nI old3, nI m3') ∧ fX4_set no nt ns3 ni ne np sr3 (nI old3) (nI m3') (nI 3) (nI j4) = some (nI (se 3), ns4, sr4, nI old4, nI m4') ∧ OC (g, tk, en, pu, upS (upS (upS (upS se 1 n) 2 (1 + j2)) 0 j3) 3 j4) St4 m4' old4 no nt ns4 ni ne np sr4 (nI old4) (nI m4')) := by
    intro n hn
    obtain ⟨ns1, sr1, old1, f1, c1⟩ := oc_sets hc (k := 1) (v := n) (Or.inr (Or.inl ⟨rfl, by omega, by omega⟩))
    obtain ⟨ns2, sr2, old2, f2, c2⟩ := oc_sets c1 (k := 2) (v := 1 + j2) (Or.inr (Or.inr (Or.inl ⟨rfl, by omega, by omega⟩)))
    obtain ⟨ns3, sr3, old3, f3, c3⟩ := oc_sets c2 (k := 0) (v := j3) (Or.inl ⟨rfl, by omega⟩)
    obtain ⟨ns4, sr4, old4, f4, c4⟩ := oc_sets c3 (k := 3) (v := j4) (Or.inr (Or.inr (Or.inr ⟨rfl, by omega⟩)))
    simp only [upS_e] at f2 f3 f4
    exact ⟨ns1, sr1, old1, ns2, sr2, old2, ns3, sr3, old3, ns4, sr4, old4, _, _, _, _, _, f1, f2, f3, f4, c4⟩
  have t1 : ¬ nI (se 1) < nI 1 := by have := hw.2.2.2.1; have := hw.2.2.2.2.1; rw [nI_ltI (by omega) (by decide)]; omega
  have t2 : ¬ nI (se 2) < nI 1 := by have := hw.2.2.2.2.2.1; have := hw.2.2.2.2.2.2.1; rw [nI_ltI (by omega) (by decide)]; omega
  have t3 : ¬ nI (se 0) < nI 0 := by have := hw.2.2.1; exact nI_nlt0 (by omega)
  have t4 : ¬ nI (se 3) < nI 0 := by have := hw.2.2.2.2.2.2.2; exact nI_nlt0 (by omega)
  by_cases h4 : j1 = 2
  · subst h4
    obtain ⟨ns1, sr1, old1, ns2, sr2, old2, ns3, sr3, old3, ns4, sr4, old4, m1', m2', m3', m4', St4, f1, f2, f3, f4, c4⟩ := go 3 (Or.inr rfl)
    refine ⟨_, _, _, old4, no, nt, ns4, ni, ne, np, a, b, c, x, y, z, sr4, _, _, Nat.le_add_right _ _, c4, ?_⟩
    simp only [↓LM1, kE_let, kE_if, kE_b1, kE_b2, kE_b3, kE_b4, kE_b5, kE_b6, kE_b7, kE_b8, kE_b9, kE_j0, kE_j1, kE_j2, kE_j3, kE_j4, L0, L1, L2, L3, L4, L5, L6, L9, L15, L16, L19, L20, L63, L99, L9999, L12, L13, L64, L8, L14, n10, n01, le00, le10, le20, le30, ne20, ne30, ne21, if_true, if_false, not_true_eq_false, not_false_eq_true, kE_j5, L31, nI_31 (show 2 < 32 by decide), nI_31 (show 4 < 32 by decide), nI_31 (show 5 < 32 by decide), e1, e2, e3, e4, nI_add, f1, f2, f3, f4, t1, t2, t3, t4]
  · have h4' : ¬ nI (2 + j1) = nI 4 := by rw [nI_eq (by omega) (by decide)]; omega
    obtain ⟨ns1, sr1, old1, ns2, sr2, old2, ns3, sr3, old3, ns4, sr4, old4, m1', m2', m3', m4', St4, f1, f2, f3, f4, c4⟩ := go (2 + j1) (by omega)
    refine ⟨_, _, _, old4, no, nt, ns4, ni, ne, np, a, b, c, x, y, z, sr4, _, _, Nat.le_add_right _ _, c4, ?_⟩
    simp only [↓LM1, kE_let, kE_if, kE_b1, kE_b2, kE_b3, kE_b4, kE_b5, kE_b6, kE_b7, kE_b8, kE_b9, kE_j0, kE_j1, kE_j2, kE_j3, kE_j4, L0, L1, L2, L3, L4, L5, L6, L9, L15, L16, L19, L20, L63, L99, L9999, L12, L13, L64, L8, L14, n10, n01, le00, le10, le20, le30, ne20, ne30, ne21, if_true, if_false, not_true_eq_false, not_false_eq_true, kE_j5, L31, nI_31 (show 2 < 32 by decide), nI_31 (show 4 < 32 by decide), nI_31 (show 5 < 32 by decide), e1, e2, e3, e4, nI_add, h4', f1, f2, f3, f4, t1, t2, t3, t4]
theorem ar_refresh (hc : OC (g, tk, en, pu, se) St m old no nt ns ni ne np sr so sc) (q : Int32) {r : Nat} (hr : r < 20) (v : Int32) (a b c : Nat → Int32) (x y z : Int32) (K : KTy) : ArmOK tk K (lw_G q v (nI r) (nI 6) no nt ns ni ne np a b c x y z sr so sc K) := by
  unfold lw_G
  rw [k_if_p (show (5 : Int32) ≤ nI 6 by decide), k_if_n (show ¬ nI 6 = 5 by decide), k_if_p (show nI 6 = 6 by decide)]
  have r7 := oc_row hc hr (show 7 < 9 by decide)
  rw [tr_7] at r7
  by_cases hl : 2 ≤ g r 15
  · rw [bI_t hl] at r7
    refine ⟨_, St, m, old, no, nt, ns, ni, ne, np, a, b, c, x, y, z, sr, so, sc, Nat.le_add_right _ _, hc, ?_⟩
    simp only [↓LM1, kE_let, kE_if, kE_b1, kE_b2, kE_b3, kE_b4, kE_b5, kE_b6, kE_b7, kE_b8, kE_b9, kE_j0, kE_j1, kE_j2, kE_j3, kE_j4, L0, L1, L2, L3, L4, L5, L6, L9, L15, L16, L19, L20, L63, L99, L9999, L12, L13, L64, L8, L14, n10, n01, le00, le10, le20, le30, ne20, ne30, ne21, if_true, if_false, not_true_eq_false, not_false_eq_true, kE_j7, L7, r7]
  · rw [bI_f hl] at r7
    obtain ⟨S', St', m', old', no', nt', ne', sr', f1, s1, s2, c1⟩ := oc_Lrefresh hc hr hl
    refine ⟨S', St', m', old', no', nt', ns, ni, ne', np, a, b, c, x, y, z, sr', _, _, by rw [s1]; exact Nat.le_add_right _ _, c1, ?_⟩
    simp only [↓LM1, kE_let, kE_if, kE_b1, kE_b2, kE_b3, kE_b4, kE_b5, kE_b6, kE_b7, kE_b8, kE_b9, kE_j0, kE_j1, kE_j2, kE_j3, kE_j4, L0, L1, L2, L3, L4, L5, L6, L9, L15, L16, L19, L20, L63, L99, L9999, L12, L13, L64, L8, L14, n10, n01, le00, le10, le20, le30, ne20, ne30, ne21, if_true, if_false, not_true_eq_false, not_false_eq_true, kE_j7, kE_b7, L7, r7, f1]
theorem ar_heat (hc : OC (g, tk, en, pu, se) St m old no nt ns ni ne np sr so sc) (q : Int32) (rr : Int32) (v : Int32) (a b c : Nat → Int32) (x y z : Int32) (K : KTy) : ArmOK tk K (lw_G q v rr (nI 7) no nt ns ni ne np a b c x y z sr so sc K) := by
  unfold lw_G
  rw [k_if_p (show (5 : Int32) ≤ nI 7 by decide), k_if_n (show ¬ nI 7 = 5 by decide), k_if_n (show ¬ nI 7 = 6 by decide), k_if_p (show nI 7 = 7 by decide)]
  obtain ⟨j1, hj1, e1⟩ := low_lt v (show 0 < 9 by decide) (by decide)
  obtain ⟨no', nt', a', b', c', x', y', z', sr', old', f1, c1⟩ := oc_Lheat hc (show 1 ≤ 1 + j1 by omega) (by omega) a b c x y z
  refine ⟨_, _, _, old', no', nt', ns, ni, ne, np, a', b', c', x', y', z', sr', _, _, Nat.le_add_right _ _, c1, ?_⟩
  simp only [↓LM1, kE_let, kE_if, kE_b1, kE_b2, kE_b3, kE_b4, kE_b5, kE_b6, kE_b7, kE_b8, kE_b9, kE_j0, kE_j1, kE_j2, kE_j3, kE_j4, L0, L1, L2, L3, L4, L5, L6, L9, L15, L16, L19, L20, L63, L99, L9999, L12, L13, L64, L8, L14, n10, n01, le00, le10, le20, le30, ne20, ne30, ne21, if_true, if_false, not_true_eq_false, not_false_eq_true, kE_b12, e1, nI_add, f1]
theorem ar_pass (hc : OC (g, tk, en, pu, se) St m old no nt ns ni ne np sr so sc) (ht : tk + 5 ≤ 9999) (q : Int32) (rr : Int32) (v : Int32) (a b c : Nat → Int32) (x y z : Int32) (K : KTy) : ArmOK tk K (lw_G q v rr (nI 8) no nt ns ni ne np a b c x y z sr so sc K) := by
  unfold lw_G
  rw [k_if_p (show (5 : Int32) ≤ nI 8 by decide), k_if_n (show ¬ nI 8 = 5 by decide), k_if_n (show ¬ nI 8 = 6 by decide), k_if_n (show ¬ nI 8 = 7 by decide), k_if_p (show nI 8 = 8 by decide)]
  obtain ⟨j1, hj1, e1⟩ := low_lt v (show 0 < 5 by decide) (by decide)
  obtain ⟨sr', old', f1, c1⟩ := oc_pass hc (show 1 ≤ 1 + j1 by omega) (by omega) (by omega)
  have u0 := oc_cnt hc (show 0 < 13 by decide)
  rw [ct_0] at u0
  refine ⟨_, _, _, old', no, nt, ns, _, ne, np, a, b, c, x, y, z, sr', _, _, (show tk + (1 + j1) ≤ tk + 5 by omega), c1, ?_⟩
  simp only [↓LM1, kE_let, kE_if, kE_b1, kE_b2, kE_b3, kE_b4, kE_b5, kE_b6, kE_b7, kE_b8, kE_b9, kE_j0, kE_j1, kE_j2, kE_j3, kE_j4, L0, L1, L2, L3, L4, L5, L6, L9, L15, L16, L19, L20, L63, L99, L9999, L12, L13, L64, L8, L14, n10, n01, le00, le10, le20, le30, ne20, ne30, ne21, if_true, if_false, not_true_eq_false, not_false_eq_true, e1, u0, nI_add, f1, Nat.add_assoc]
theorem ar_drop (hc : OC (g, tk, en, pu, se) St m old no nt ns ni ne np sr so sc) {q : Nat} (q1 : 1 ≤ q) (q5 : q ≤ 5) (rr : Int32) (v : Int32) (a b c : Nat → Int32) (x y z : Int32) (K : KTy) : ArmOK tk K (lw_G (nI q) v rr (nI 9) no nt ns ni ne np a b c x y z sr so sc K) := by
  unfold lw_G
  rw [k_if_p (show (5 : Int32) ≤ nI 9 by decide), k_if_n (show ¬ nI 9 = 5 by decide), k_if_n (show ¬ nI 9 = 6 by decide), k_if_n (show ¬ nI 9 = 7 by decide), k_if_n (show ¬ nI 9 = 8 by decide), k_if_p (show nI 9 = 9 by decide)]
  obtain ⟨j1, hj1, e1⟩ := low_lt v (show 0 < q by omega) (by omega)
  have hk : j1 < 16 := by omega
  obtain ⟨no', nt', ne', sr', old', f1, c1⟩ := oc_drop hc hk
  have k2 := oc_key hc hk (show 2 < 6 by decide)
  have k0 := oc_key c1 hk (show 0 < 6 by decide)
  have u6 := oc_cnt hc (show 6 < 13 by decide)
  rw [ty_2] at k2
  rw [ty_0] at k0
  rw [ct_6] at u6
  have hle := dr_le g tk (decide (se 0 = 1)) j1
  have he : cnt (entB g tk (decide (se 0 = 1)) j1) 20 ≤ 20 := cnt_le _ _
  have hll : cnt (fun r => decide (2 ≤ g r 15)) 20 ≤ 20 := cnt_le _ _
  have t1 : ¬ nI (cnt (entB g tk (decide (se 0 = 1)) j1) 20) < nI (cnt (mkP g tk (decide (se 0 = 1)) m1 j1) 20) := by rw [nI_ltI (by omega) (by omega)]; omega
  refine ⟨_, _, _, old', no', nt', ns, ni, ne', np, a, b, c, x, y, z, sr', _, _, Nat.le_add_right _ _, c1, ?_⟩
  by_cases h0 : cnt (fun r => decide (2 ≤ g r 15)) 20 = 0
  · have hl : ∀ i, i < 20 → ¬ 2 ≤ g i 15 := fun i hi => by simpa using cnt_z h0 i hi
    rw [dr_none g tk _ j1 hl] at k0
    rw [dr_all g tk _ j1 hl] at f1 t1
    rw [h0] at u6
    have t2 : ¬ nI 0 < nI 0 := nI_nlt0 (by decide)
    simp only [↓LM1, kE_let, kE_if, kE_b1, kE_b2, kE_b3, kE_b4, kE_b5, kE_b6, kE_b7, kE_b8, kE_b9, kE_j0, kE_j1, kE_j2, kE_j3, kE_j4, L0, L1, L2, L3, L4, L5, L6, L9, L15, L16, L19, L20, L63, L99, L9999, L12, L13, L64, L8, L14, n10, n01, le00, le10, le20, le30, ne20, ne30, ne21, if_true, if_false, not_true_eq_false, not_false_eq_true, kE_b7, e1, f1, k2, k0, u6, t1, t2]
  · have t2 : nI 0 < nI (cnt (fun r => decide (2 ≤ g r 15)) 20) := by rw [nI_ltI (by decide) (by omega)]; omega
    simp only [↓LM1, kE_let, kE_if, kE_b1, kE_b2, kE_b3, kE_b4, kE_b5, kE_b6, kE_b7, kE_b8, kE_b9, kE_j0, kE_j1, kE_j2, kE_j3, kE_j4, L0, L1, L2, L3, L4, L5, L6, L9, L15, L16, L19, L20, L63, L99, L9999, L12, L13, L64, L8, L14, n10, n01, le00, le10, le20, le30, ne20, ne30, ne21, if_true, if_false, not_true_eq_false, not_false_eq_true, kE_b7, e1, f1, k2, k0, u6, t1, t2]
theorem ar_lock (hc : OC (g, tk, en, pu, se) St m old no nt ns ni ne np sr so sc) (q : Int32) {r : Nat} (hr : r < 20) (v : Int32) (a b c : Nat → Int32) (x y z : Int32) (K : KTy) : ArmOK tk K (lw_G q v (nI r) (nI 10) no nt ns ni ne np a b c x y z sr so sc K) := by
  unfold lw_G
  rw [k_if_p (show (5 : Int32) ≤ nI 10 by decide), k_if_n (show ¬ nI 10 = 5 by decide), k_if_n (show ¬ nI 10 = 6 by decide), k_if_n (show ¬ nI 10 = 7 by decide), k_if_n (show ¬ nI 10 = 8 by decide), k_if_n (show ¬ nI 10 = 9 by decide)]
  obtain ⟨j1, hj1, e1⟩ := low_lt (v >>> nI 5) (show 0 < 4 by decide) (by decide)
  have r7 := oc_row hc hr (show 7 < 9 by decide)
  rw [tr_7] at r7
  by_cases h0 : j1 = 0
  · subst h0
    by_cases hl : 2 ≤ g r 15
    · rw [bI_t hl] at r7
      refine ⟨_, St, m, old, no, nt, ns, ni, ne, np, a, b, c, x, y, z, sr, so, sc, Nat.le_add_right _ _, hc, ?_⟩
      simp only [↓LM1, kE_let, kE_if, kE_b1, kE_b2, kE_b3, kE_b4, kE_b5, kE_b6, kE_b7, kE_b8, kE_b9, kE_j0, kE_j1, kE_j2, kE_j3, kE_j4, L0, L1, L2, L3, L4, L5, L6, L9, L15, L16, L19, L20, L63, L99, L9999, L12, L13, L64, L8, L14, n10, n01, le00, le10, le20, le30, ne20, ne30, ne21, if_true, if_false, not_true_eq_false, not_false_eq_true, L31, nI_31 (show 5 < 32 by decide), L7, e1, r7]
    · rw [bI_f hl] at r7
      obtain ⟨no', nt', ne', sr', old', f1, c1⟩ := oc_lock hc hr hl
      have u6 := oc_cnt hc (show 6 < 13 by decide)
      rw [ct_6] at u6
      have w7 := oc_row c1 hr (show 7 < 9 by decide)
      have hb : 2 ≤ blG g r 15 3 r 15 := by unfold blG upG; rw [if_pos ⟨rfl, rfl⟩]; omega
      rw [tr_7, bI_t hb] at w7
      have hcnt : cnt (fun i => decide (2 ≤ blG g r 15 3 i 15)) 20 = cnt (fun i => decide (2 ≤ g i 15)) 20 + 1 := cnt_one hr (decide_eq_false hl) (decide_eq_true hb) (fun i hi => by
        unfold blG upG
        rw [if_neg (fun q => hi q.1)])
      rw [hcnt] at f1
      refine ⟨_, _, _, old', no', nt', ns, ni, ne', np, a, b, c, x, y, z, sr', _, _, Nat.le_add_right _ _, c1, ?_⟩
      simp only [↓LM1, kE_let, kE_if, kE_b1, kE_b2, kE_b3, kE_b4, kE_b5, kE_b6, kE_b7, kE_b8, kE_b9, kE_j0, kE_j1, kE_j2, kE_j3, kE_j4, L0, L1, L2, L3, L4, L5, L6, L9, L15, L16, L19, L20, L63, L99, L9999, L12, L13, L64, L8, L14, n10, n01, le00, le10, le20, le30, ne20, ne30, ne21, if_true, if_false, not_true_eq_false, not_false_eq_true, kE_b7, kE_j7, L31, nI_31 (show 5 < 32 by decide), L7, e1, r7, u6, f1, w7, nI_add]
  · have t0 : ¬ nI j1 = nI 0 := by rw [nI_eq (by omega) (by decide)]; exact h0
    refine ⟨_, St, m, old, no, nt, ns, ni, ne, np, a, b, c, x, y, z, sr, so, sc, Nat.le_add_right _ _, hc, ?_⟩
    simp only [↓LM1, kE_let, kE_if, kE_b1, kE_b2, kE_b3, kE_b4, kE_b5, kE_b6, kE_b7, kE_b8, kE_b9, kE_j0, kE_j1, kE_j2, kE_j3, kE_j4, L0, L1, L2, L3, L4, L5, L6, L9, L15, L16, L19, L20, L63, L99, L9999, L12, L13, L64, L8, L14, n10, n01, le00, le10, le20, le30, ne20, ne30, ne21, if_true, if_false, not_true_eq_false, not_false_eq_true, L31, nI_31 (show 5 < 32 by decide), L7, e1, t0]
end AR
