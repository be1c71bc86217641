/-! heat lets fuses weaken as told; refreshing makes all sure that read thrice -/
theorem sumN_le' {F G : Nat → Nat} (n : Nat) (h : ∀ i, i < n → F i ≤ G i) : sumN F n ≤ sumN G n := by
  induction n with
  | zero => exact Nat.le_refl _
  | succ n ih => rw [sumN_s, sumN_s]; have := h n (by omega); have := ih (fun i hi => h i (by omega)); omega
theorem ht_row (g : Nat → Nat → Nat) (d r n : Nat) : sumN (g r) n = sumN (htG g d r) n + cnt (htB g d r) n := by
  induction n with
  | zero => rfl
  | succ n ih =>
    rw [sumN_s, sumN_s, cnt_s, ih]
    have e : g r n = htG g d r n + (if htB g d r n = true then 1 else 0) := by
      unfold htG
      by_cases h : htB g d r n = true
      · rw [if_pos h, if_pos h]
        unfold htB at h
        have : (g r n = 1 ∧ 3 ≤ d) ∨ (g r n = 2 ∧ 6 ≤ d) := by simpa using h
        omega
      · rw [if_neg h, if_neg h, Nat.add_zero]
    omega
theorem ht_all (g : Nat → Nat → Nat) (d n : Nat) : sumN (fun r => sumN (g r) 16) n = sumN (fun r => sumN (htG g d r) 16) n + sumN (fun r => cnt (htB g d r) 16) n := by
  induction n with
  | zero => rfl
  | succ n ih => rw [sumN_s (fun r => sumN (g r) 16) n, sumN_s (fun r => sumN (htG g d r) 16) n, sumN_s (fun r => cnt (htB g d r) 16) n, ih]; have := ht_row g d n 16; omega
theorem ht_dbt (g : Nat → Nat → Nat) (d : Nat) : sumN (fun r => cnt (htB g d r) 16) 20 ≤ sumN (fun r => dbtN (g r)) 20 := by
  refine sumN_le' 20 (fun r _ => cnt_mono' 16 (fun f _ h => ?_))
  unfold htB at h
  have : (g r f = 1 ∧ 3 ≤ d) ∨ (g r f = 2 ∧ 6 ≤ d) := by simpa using h
  simp; omega
theorem ht_none (g : Nat → Nat → Nat) {d : Nat} (h : d < 3) : sumN (fun r => cnt (htB g d r) 16) 20 = 0 := by
  rw [sumN_congr (G := fun _ => 0) 20 (fun r _ => cnt_zero (fun f _ => ?_)), sumN_0]
  unfold htB
  simp; omega
theorem ht_full (g : Nat → Nat → Nat) {d : Nat} (h : 6 ≤ d) : sumN (fun r => cnt (htB g d r) 16) 20 = sumN (fun r => dbtN (g r)) 20 := by
  refine sumN_congr 20 (fun r _ => cnt_congr (fun f _ => ?_))
  unfold htB
  rw [decide_eq_decide]
  omega
theorem wh_0 {g : Nat → Nat → Nat} {tk d : Nat} {se : Nat → Nat} : whN g tk se d 0 = nI (sumN (fun r => cnt (htB g d r) 16) 20) := by unfold whN; rw [if_pos rfl]
theorem wh_1 {g : Nat → Nat → Nat} {tk d : Nat} {se : Nat → Nat} : ∃ a, a ≤ 20 ∧ whN g tk se d 1 = nI a := by unfold whN; exact ⟨_, cnt_le _ _, by rw [if_neg (by decide), if_pos rfl]⟩
theorem wh_2 {g : Nat → Nat → Nat} {tk d : Nat} {se : Nat → Nat} : ∃ a, a ≤ 16 ∧ whN g tk se d 2 = nI a := by unfold whN; exact ⟨_, cnt_le _ _, by rw [if_neg (by decide), if_neg (by decide)]⟩
theorem tot_le {g : Nat → Nat → Nat} (hg : ∀ r f, g r f ≤ 3) (n : Nat) : sumN (fun r => sumN (g r) 16) n ≤ n * 48 := by
  have h : ∀ r, sumN (g r) 16 ≤ 48 := fun r => by have := sumN_le (g r) (hg r) 16; omega
  exact sumN_le _ h n
section HT
variable {g : Nat → Nat → Nat} {tk : Nat} {en pu : Int32} {se : Nat → Nat} {St : Nat → ST} {m old : Nat} {no nt ns : Nat → Int32} {ni ne np : Int32} {sr : Nat → SV} {so sc : Int32}
theorem ht_l1 (hc : OC (g, tk, en, pu, se) St m old no nt ns ni ne np sr so sc) (K : Int32 → Option (Int32 × (Nat → Int32) × (Nat → Int32) × (Nat → Int32) × (Nat → Int32) × (Nat → Int32) × Int32 × Int32 × Int32 × (Nat → SV) × Int32 × Int32)) : k_l2 (fL_heat_s36 K no nt ns ni) 5000 (nI 0) (nI 0) = K (nI (sumN (fun r => sumN (g r) 16) 20)) := by
  refine kE_l2 20 5000 (fun i => nI (sumN (fun r => sumN (g r) 16) i)) nI (fun i K hi => ?_) (fun K => ?_) (by decide)
  · have r8 := oc_row hc hi (show 8 < 9 by decide)
    rw [tr_8] at r8
    have h20 : ¬ nI 20 ≤ nI i := by rw [nI_leI (by decide) (by omega)]; omega
    unfold fL_heat_s36
    simp only [↓LM1, kE_let, kE_if, kE_b1, kE_b2, kE_b3, kE_b4, kE_b5, kE_b6, kE_b7, kE_b8, kE_b9, kE_j0, kE_j1, kE_j2, kE_j3, kE_j4, L0, L1, L2, L3, L4, L5, L6, L9, L15, L16, L19, L20, L63, L99, L9999, L12, L13, L64, L8, L14, n10, n01, le00, le10, le20, le30, ne20, ne30, ne21, if_true, if_false, not_true_eq_false, not_false_eq_true, h20, r8, nI_add, sumN_s (fun r => sumN (g r) 16) i]
  · have h20 : nI 20 ≤ nI 20 := Int32.le_refl _
    unfold fL_heat_s36
    simp only [L20, kE_if, h20, if_true]
theorem ht_l2 (hc : OC (g, tk, en, pu, se) St m old no nt ns ni ne np sr so sc) {T : Nat} (hT : sumN (fun r => sumN (g r) 16) 20 ≤ T) (K : Int32 → Option (Int32 × (Nat → Int32) × (Nat → Int32) × (Nat → Int32) × (Nat → Int32) × (Nat → Int32) × Int32 × Int32 × Int32 × (Nat → SV) × Int32 × Int32)) : k_l2 (fL_heat_s109 K no nt ns ni) 5000 (nI T) (nI 0) = K (nI (T - sumN (fun r => sumN (g r) 16) 20)) := by
  have hmono : ∀ n, n ≤ 20 → sumN (fun r => sumN (g r) 16) n ≤ T := by
    intro n hn
    have : ∀ k, sumN (fun r => sumN (g r) 16) n ≤ sumN (fun r => sumN (g r) 16) (n + k) := by
      intro k
      induction k with
      | zero => exact Nat.le_refl _
      | succ k ih => rw [← Nat.add_assoc, sumN_s (fun r => sumN (g r) 16) (n + k)]; omega
    have := this (20 - n)
    rw [show n + (20 - n) = 20 by omega] at this
    omega
  refine kE_l2 20 5000 (fun i => nI (T - sumN (fun r => sumN (g r) 16) i)) nI (fun i K hi => ?_) (fun K => ?_) (by decide)
  · have r8 := oc_row hc hi (show 8 < 9 by decide)
    rw [tr_8] at r8
    have h20 : ¬ nI 20 ≤ nI i := by rw [nI_leI (by decide) (by omega)]; omega
    have h1 := hmono (i + 1) (by omega)
    rw [sumN_s (fun r => sumN (g r) 16) i] at h1
    have e : nI (T - sumN (fun r => sumN (g r) 16) i) - nI (sumN (g i) 16) = nI (T - sumN (fun r => sumN (g r) 16) (i + 1)) := by
      rw [nI_sub (by omega), sumN_s (fun r => sumN (g r) 16) i, Nat.sub_sub]
    unfold fL_heat_s109
    simp only [↓LM1, kE_let, kE_if, kE_b1, kE_b2, kE_b3, kE_b4, kE_b5, kE_b6, kE_b7, kE_b8, kE_b9, kE_j0, kE_j1, kE_j2, kE_j3, kE_j4, L0, L1, L2, L3, L4, L5, L6, L9, L15, L16, L19, L20, L63, L99, L9999, L12, L13, L64, L8, L14, n10, n01, le00, le10, le20, le30, ne20, ne30, ne21, if_true, if_false, not_true_eq_false, not_false_eq_true, h20, r8, nI_add, e]
  · have h20 : nI 20 ≤ nI 20 := Int32.le_refl _
    unfold fL_heat_s109
    simp only [L20, kE_if, h20, if_true]
theorem oc_Lheat (hc : OC (g, tk, en, pu, se) St m old no nt ns ni ne np sr so sc) {d : Nat} (d1 : 1 ≤ d) (d9 : d ≤ 9) (a b c : Nat → Int32) (x y z : Int32) : ∃ no' nt' a' b' c' x' y' z' sr' old', fL_heat no nt ns ni ne np a b c x y z sr so sc (nI d) = some (nI 1, no', nt', a', b', c', x', y', z', sr', nI old', nI (saveM m)) ∧ OC (htG g d, tk, en, pu, se) (saveF St m (g, tk, en, pu, se)) (saveM m) old' no' nt' ns ni ne np sr' (nI old') (nI (saveM m)) := by
  obtain ⟨a1, b1, c1, x1, y1, z1, h1⟩ := oc_ifHeated hc d1 d9 (show 0 < 3 by decide) a b c x y z
  obtain ⟨a2, b2, c2, x2, y2, z2, h2⟩ := oc_ifHeated hc d1 d9 (show 1 < 3 by decide) a1 b1 c1 x1 y1 z1
  obtain ⟨a3, b3, c3, x3, y3, z3, h3⟩ := oc_ifHeated hc d1 d9 (show 2 < 3 by decide) a2 b2 c2 x2 y2 z2
  obtain ⟨u1, u2, u3⟩ := wh_1 (g := g) (tk := tk) (d := d) (se := se)
  obtain ⟨v1, v2, v3⟩ := wh_2 (g := g) (tk := tk) (d := d) (se := se)
  rw [wh_0] at h1
  rw [u3] at h2
  rw [v3] at h3
  obtain ⟨no', nt', sr', old', e1, e2⟩ := oc_heat hc d1 d9
  have x7 := oc_cnt hc (show 7 < 13 by decide)
  rw [ct_7] at x7
  have hall := ht_all g d 20
  have hT := tot_le hc.1.1 20
  have q1 := ht_l1 hc
  have q2 := ht_l2 e2 (T := sumN (fun r => sumN (g r) 16) 20) (by omega)
  rw [show sumN (fun r => sumN (g r) 16) 20 - sumN (fun r => sumN (htG g d r) 16) 20 = sumN (fun r => cnt (htB g d r) 16) 20 by omega] at q2
  have hD := ht_dbt g d
  have hn := ht_none g (d := d)
  have hf := ht_full g (d := d)
  have hD2 : sumN (fun r => dbtN (g r)) 20 ≤ 320 := by have := sumN_le (fun r => dbtN (g r)) (b := 16) (fun r => dbtN_le _) 20; omega
  clear hall hT
  generalize sumN (fun r => sumN (g r) 16) 20 = T at q1 q2
  generalize sumN (fun r => cnt (htB g d r) 16) 20 = w at h1 e1 q2 hD hn hf
  generalize sumN (fun r => dbtN (g r)) 20 = D at x7 hD hf hD2
  have f1 : ¬ nI D < nI w := by rw [nI_ltI (by omega) (by omega)]; omega
  have f2 : ¬ nI 20 < nI u1 := by rw [nI_ltI (by decide) (by omega)]; omega
  have f3 : ¬ nI 16 < nI v1 := by rw [nI_ltI (by decide) (by omega)]; omega
  refine ⟨no', nt', a3, b3, c3, x3, y3, z3, sr', old', ?_, e2⟩
  unfold fL_heat
  by_cases k3 : d < 3
  · obtain rfl := hn k3
    have g1 : ¬ nI 3 ≤ nI d := by rw [nI_leI (by decide) (by omega)]; omega
    have g2 : nI d < nI 6 := by rw [nI_ltI (by omega) (by decide)]; omega
    simp only [↓LM1, kE_let, kE_if, kE_b1, kE_b2, kE_b3, kE_b4, kE_b5, kE_b6, kE_b7, kE_b8, kE_b9, kE_j0, kE_j1, kE_j2, kE_j3, kE_j4, L0, L1, L2, L3, L4, L5, L6, L9, L15, L16, L19, L20, L63, L99, L9999, L12, L13, L64, L8, L14, n10, n01, le00, le10, le20, le30, ne20, ne30, ne21, if_true, if_false, not_true_eq_false, not_false_eq_true, L7, h1, h2, h3, x7, e1, q1, q2, f1, f2, f3, g1, g2]
  · have g1 : nI 3 ≤ nI d := by rw [nI_leI (by decide) (by omega)]; omega
    by_cases k6 : d < 6
    · have g2 : nI d < nI 6 := by rw [nI_ltI (by omega) (by decide)]; omega
      simp only [↓LM1, kE_let, kE_if, kE_b1, kE_b2, kE_b3, kE_b4, kE_b5, kE_b6, kE_b7, kE_b8, kE_b9, kE_j0, kE_j1, kE_j2, kE_j3, kE_j4, L0, L1, L2, L3, L4, L5, L6, L9, L15, L16, L19, L20, L63, L99, L9999, L12, L13, L64, L8, L14, n10, n01, le00, le10, le20, le30, ne20, ne30, ne21, if_true, if_false, not_true_eq_false, not_false_eq_true, L7, h1, h2, h3, x7, e1, q1, q2, f1, f2, f3, g1, g2]
    · obtain rfl := hf (by omega)
      have g2 : ¬ nI d < nI 6 := by rw [nI_ltI (by omega) (by decide)]; omega
      simp only [↓LM1, kE_let, kE_if, kE_b1, kE_b2, kE_b3, kE_b4, kE_b5, kE_b6, kE_b7, kE_b8, kE_b9, kE_j0, kE_j1, kE_j2, kE_j3, kE_j4, L0, L1, L2, L3, L4, L5, L6, L9, L15, L16, L19, L20, L63, L99, L9999, L12, L13, L64, L8, L14, n10, n01, le00, le10, le20, le30, ne20, ne30, ne21, if_true, if_false, not_true_eq_false, not_false_eq_true, L7, h1, h2, h3, x7, e1, q1, q2, f1, f2, f3, g1, g2]
/-- energy of a pass of one charge -/
theorem enS_c (P : Nat → Bool) (c : Nat) (e : Int32) (n : Nat) : enS P (fun _ => c) e n = e + nI (c * cnt P n) := by
  induction n with
  | zero => show e = e + nI (c * 0); rw [Nat.mul_zero]; exact (Int32.add_zero e).symm
  | succ n ih =>
    rw [enS_s, cnt_s]
    by_cases h : P n = true
    · rw [if_pos h, if_pos h, ih, Int32.add_assoc, nI_add, Nat.mul_add, Nat.mul_one]
    · rw [if_neg h, if_neg h, ih, Nat.add_zero]
theorem rf_at (g : Nat → Nat → Nat) (r f : Nat) (hf : f < 16) : blP g r (rfP g r) (fun _ => 3) 16 r f = if 2 ≤ g r f then max (g r f) 3 else g r f := by
  unfold blP rfP
  by_cases h : 2 ≤ g r f <;> simp [h, hf]
theorem rf_l1 (hc : OC (g, tk, en, pu, se) St m old no nt ns ni ne np sr so sc) {r : Nat} (hr : r < 20) (K : Int32 → Option (Int32 × (Nat → Int32) × (Nat → Int32) × Int32 × (Nat → SV) × Int32 × Int32)) : k_l2 (fL_refresh_s21 K no nt ni (nI r)) 5000 (nI 0) (nI 0) = K (nI (cnt (rfP g r) 16)) := by
  refine kE_l2 16 5000 (fun i => nI (cnt (rfP g r) i)) nI (fun i K hi => ?_) (fun K => ?_) (by decide)
  · have r8 := oc_fuse2 hc hr hi
    have h20 : ¬ nI 16 ≤ nI i := by rw [nI_leI (by decide) (by omega)]; omega
    have e : cnt (rfP g r) (i + 1) = cnt (rfP g r) i + (if 2 ≤ g r i then 1 else 0) := by rw [cnt_s]; simp [rfP]
    unfold fL_refresh_s21
    simp only [↓LM1, kE_let, kE_if, kE_b1, kE_b2, kE_b3, kE_b4, kE_b5, kE_b6, kE_b7, kE_b8, kE_b9, kE_j0, kE_j1, kE_j2, kE_j3, kE_j4, L0, L1, L2, L3, L4, L5, L6, L9, L15, L16, L19, L20, L63, L99, L9999, L12, L13, L64, L8, L14, n10, n01, le00, le10, le20, le30, ne20, ne30, ne21, if_true, if_false, not_true_eq_false, not_false_eq_true, h20, r8, nI_add, e]
  · have h20 : nI 16 ≤ nI 16 := Int32.le_refl _
    unfold fL_refresh_s21
    simp only [L16, kE_if, h20, if_true]
theorem rf_l2 (hc : OC (g, tk, en, pu, se) St m old no nt ns ni ne np sr so sc) {r : Nat} (hr : r < 20) (h3 : ∀ f, f < 16 → 2 ≤ g r f → g r f = 3) (K : Int32 → Option (Int32 × (Nat → Int32) × (Nat → Int32) × Int32 × (Nat → SV) × Int32 × Int32)) : k_l2 (fL_refresh_s104 K no nt ni (nI r)) 5000 (nI 1) (nI 0) = K (nI 1) := by
  refine kE_l2 16 5000 (fun _ => nI 1) nI (fun i K hi => ?_) (fun K => ?_) (by decide)
  · have r2 := oc_fuse2 hc hr hi
    have r0 := oc_fuse0 hc hr hi
    have hg : g r i ≤ 3 := hc.1.1 r i
    have h20 : ¬ nI 16 ≤ nI i := by rw [nI_leI (by decide) (by omega)]; omega
    unfold fL_refresh_s104
    by_cases h2 : 2 ≤ g r i
    · rw [bI_t h2] at r2
      rw [h3 i hi h2] at r0
      have q : ¬ nI 3 ≤ nI 1 := by decide
      simp only [↓LM1, kE_let, kE_if, kE_b1, kE_b2, kE_b3, kE_b4, kE_b5, kE_b6, kE_b7, kE_b8, kE_b9, kE_j0, kE_j1, kE_j2, kE_j3, kE_j4, L0, L1, L2, L3, L4, L5, L6, L9, L15, L16, L19, L20, L63, L99, L9999, L12, L13, L64, L8, L14, n10, n01, le00, le10, le20, le30, ne20, ne30, ne21, if_true, if_false, not_true_eq_false, not_false_eq_true, h20, r2, r0, q, nI_add]
    · rw [bI_f h2] at r2
      have q : nI (g r i) ≤ nI 1 := by rw [nI_leI (by omega) (by decide)]; omega
      simp only [↓LM1, kE_let, kE_if, kE_b1, kE_b2, kE_b3, kE_b4, kE_b5, kE_b6, kE_b7, kE_b8, kE_b9, kE_j0, kE_j1, kE_j2, kE_j3, kE_j4, L0, L1, L2, L3, L4, L5, L6, L9, L15, L16, L19, L20, L63, L99, L9999, L12, L13, L64, L8, L14, n10, n01, le00, le10, le20, le30, ne20, ne30, ne21, if_true, if_false, not_true_eq_false, not_false_eq_true, h20, r2, r0, q, nI_add]
  · have h20 : nI 16 ≤ nI 16 := Int32.le_refl _
    unfold fL_refresh_s104
    simp only [L16, kE_if, h20, if_true]
theorem oc_Lrefresh (hc : OC (g, tk, en, pu, se) St m old no nt ns ni ne np sr so sc) {r : Nat} (hr : r < 20) (hl : ¬ 2 ≤ g r 15) : ∃ S' St' m' old' no' nt' ne' sr', fL_refresh no nt ns ni ne np sr so sc (nI r) = some (nI 1, no', nt', ne', sr', nI old', nI m') ∧ S'.2.1 = tk ∧ S'.2.2.2.2 = se ∧ OC S' St' m' old' no' nt' ns ni ne' np sr' (nI old') (nI m') := by
  obtain ⟨no1, nt1, ne1, sr1, old1, e1, f1⟩ := oc_refresh hc hr hl
  have ha := rf_at g r
  have hg : ∀ r f, g r f ≤ 3 := hc.1.1
  have hl1 : ¬ 2 ≤ blP g r (rfP g r) (fun _ => 3) 16 r 15 := by rw [ha 15 (by decide), if_neg hl]; exact hl
  obtain ⟨no2, nt2, ne2, sr2, old2, e2, f2⟩ := oc_refresh f1 hr hl1
  have x6 := oc_row hc hr (show 6 < 9 by decide)
  have y6 := oc_row f1 hr (show 6 < 9 by decide)
  have x8 := oc_cnt hc (show 8 < 13 by decide)
  have y8 := oc_cnt f1 (show 8 < 13 by decide)
  rw [tr_6] at x6 y6
  rw [ct_8] at x8 y8
  rw [enS_c] at y8
  have q1 := rf_l1 hc hr
  have q2 := rf_l2 f1 hr (fun f hf h2 => by
    rw [ha f hf] at h2 ⊢
    have := hg r f
    split at h2
    · rw [if_pos (by assumption)]; omega
    · omega)
  have c1 : cnt (fun f => decide (blP g r (rfP g r) (fun _ => 3) 16 r f = 2)) 16 = 0 := cnt_zero (fun f hf => by
    rw [ha f hf]
    have := hg r f
    by_cases h : 2 ≤ g r f
    · rw [if_pos h]; simp; omega
    · rw [if_neg h]; simp; omega)
  have c2 : dbtN (blP g r (rfP g r) (fun _ => 3) 16 r) = cnt (fun f => decide (g r f = 1)) 16 := cnt_congr (fun f hf => by
    rw [ha f hf]
    have := hg r f
    by_cases h : 2 ≤ g r f
    · rw [if_pos h, decide_eq_decide]; omega
    · rw [if_neg h, decide_eq_decide]; omega)
  have c3 : cnt (fun f => decide (g r f = 1)) 16 + cnt (fun f => decide (g r f = 2)) 16 = dbtN (g r) := cnt_or 16 (fun f _ => by
    constructor
    · by_cases h1 : g r f = 1 <;> by_cases h2 : g r f = 2 <;> simp [h1, h2]
    · simp; omega)
  rw [c1] at e2
  rw [c2] at y6
  have c4 := dbtN_le (g r)
  have c5 : cnt (rfP g r) 16 ≤ 16 := cnt_le _ _
  clear c1 c2
  generalize cnt (rfP g r) 16 = ones at q1 y8 c5
  generalize cnt (fun f => decide (g r f = 2)) 16 = told at e1 c3
  generalize dbtN (g r) = dd at x6 c3 c4
  generalize cnt (fun f => decide (g r f = 1)) 16 = left at y6 c3
  have g1 : ¬ nI told < nI 0 := nI_nlt0 (by omega)
  have g2 : ¬ nI dd < nI told := by rw [nI_ltI (by omega) (by omega)]; omega
  have g3 : nI dd - nI told = nI left := by rw [nI_sub (by omega), show dd - told = left by omega]
  refine ⟨_, _, _, old2, no2, nt2, ne2, sr2, ?_, rfl, rfl, f2⟩
  unfold fL_refresh
  simp only [↓LM1, kE_let, kE_if, kE_b1, kE_b2, kE_b3, kE_b4, kE_b5, kE_b6, kE_b7, kE_b8, kE_b9, kE_j0, kE_j1, kE_j2, kE_j3, kE_j4, L0, L1, L2, L3, L4, L5, L6, L9, L15, L16, L19, L20, L63, L99, L9999, L12, L13, L64, L8, L14, n10, n01, le00, le10, le20, le30, ne20, ne30, ne21, if_true, if_false, not_true_eq_false, not_false_eq_true, x6, y6, x8, y8, q1, q2, e1, e2, g1, g2, g3, pk_mul]
end HT
