/-! the class's public methods, where they let the call go on -/
theorem kE_j11 {A0 A1 A2 A3 A4 A5 A6 A7 A8 A9 A10 β : Type} (F : A0 → A1 → A2 → A3 → A4 → A5 → A6 → A7 → A8 → A9 → A10 → Option β) (G : (A0 → A1 → A2 → A3 → A4 → A5 → A6 → A7 → A8 → A9 → A10 → Option β) → Option β) : k_j11 F G = G F := Eq.trans rfl rfl
theorem kE_j12 {A0 A1 A2 A3 A4 A5 A6 A7 A8 A9 A10 A11 β : Type} (F : A0 → A1 → A2 → A3 → A4 → A5 → A6 → A7 → A8 → A9 → A10 → A11 → Option β) (G : (A0 → A1 → A2 → A3 → A4 → A5 → A6 → A7 → A8 → A9 → A10 → A11 → Option β) → Option β) : k_j12 F G = G F := Eq.trans rfl rfl
theorem kE_j13 {A0 A1 A2 A3 A4 A5 A6 A7 A8 A9 A10 A11 A12 β : Type} (F : A0 → A1 → A2 → A3 → A4 → A5 → A6 → A7 → A8 → A9 → A10 → A11 → A12 → Option β) (G : (A0 → A1 → A2 → A3 → A4 → A5 → A6 → A7 → A8 → A9 → A10 → A11 → A12 → Option β) → Option β) : k_j13 F G = G F := Eq.trans rfl rfl
theorem kE_j14 {A0 A1 A2 A3 A4 A5 A6 A7 A8 A9 A10 A11 A12 A13 β : Type} (F : A0 → A1 → A2 → A3 → A4 → A5 → A6 → A7 → A8 → A9 → A10 → A11 → A12 → A13 → Option β) (G : (A0 → A1 → A2 → A3 → A4 → A5 → A6 → A7 → A8 → A9 → A10 → A11 → A12 → A13 → Option β) → Option β) : k_j14 F G = G F := Eq.trans rfl rfl
theorem kE_j15 {A0 A1 A2 A3 A4 A5 A6 A7 A8 A9 A10 A11 A12 A13 A14 β : Type} (F : A0 → A1 → A2 → A3 → A4 → A5 → A6 → A7 → A8 → A9 → A10 → A11 → A12 → A13 → A14 → Option β) (G : (A0 → A1 → A2 → A3 → A4 → A5 → A6 → A7 → A8 → A9 → A10 → A11 → A12 → A13 → A14 → Option β) → Option β) : k_j15 F G = G F := Eq.trans rfl rfl
theorem kE_j16 {A0 A1 A2 A3 A4 A5 A6 A7 A8 A9 A10 A11 A12 A13 A14 A15 β : Type} (F : A0 → A1 → A2 → A3 → A4 → A5 → A6 → A7 → A8 → A9 → A10 → A11 → A12 → A13 → A14 → A15 → Option β) (G : (A0 → A1 → A2 → A3 → A4 → A5 → A6 → A7 → A8 → A9 → A10 → A11 → A12 → A13 → A14 → A15 → Option β) → Option β) : k_j16 F G = G F := Eq.trans rfl rfl
theorem ix_in {j N : Nat} (h : j < N) (hN : N < 2 ^ 31) : fX4_isIndex (nI j) (nI N) = some (nI 1) := by
  unfold fX4_isIndex
  simp only [↓LM1, kE_let, kE_if, kE_b1, kE_b2, kE_b3, kE_b4, kE_b5, kE_b6, kE_b7, kE_b8, kE_b9, kE_j0, kE_j1, kE_j2, kE_j3, kE_j4, L0, L1]
  rw [if_neg (nI_nlt0 (by omega)), if_neg (nI_ge h hN)]
theorem wi_in {j lo hi : Nat} (h1 : lo ≤ j) (h2 : j ≤ hi) (h : hi < 2 ^ 31) : fX4_isWithin (nI j) (nI lo) (nI hi) = some (nI 1) := by
  unfold fX4_isWithin
  simp (disch := omega) only [↓LM1, kE_let, kE_if, kE_b1, kE_b2, kE_b3, kE_b4, kE_b5, kE_b6, kE_b7, kE_b8, kE_b9, kE_j0, kE_j1, kE_j2, kE_j3, kE_j4, nI_ltI, L0, L1]
  rw [if_neg (by omega), if_neg (by omega)]
theorem le00 : nI 0 ≤ nI 0 := Int32.le_refl _
theorem le10 : ¬ nI 1 ≤ nI 0 := by decide
theorem le20 : ¬ nI 2 ≤ nI 0 := by decide
theorem le30 : ¬ nI 3 ≤ nI 0 := by decide
theorem ne20 : ¬ nI 2 = nI 0 := by decide
theorem ne30 : ¬ nI 3 = nI 0 := by decide
theorem ne21 : ¬ nI 2 = nI 1 := by decide
theorem saveF_wf {St : Nat → ST} {m : Nat} {S : ST} (hS : WFs S) (h : ∀ j, j < m → WFs (St j)) : ∀ j, j < saveM m → WFs (saveF St m S j) := by
  intro j hj
  unfold saveF saveM at *
  by_cases e : m = 6
  · rw [if_pos e] at hj ⊢
    by_cases h5 : j < 5
    · show WFs (if j < 5 then St (j + 1) else S)
      rw [if_pos h5]; exact h (j + 1) (by omega)
    · show WFs (if j < 5 then St (j + 1) else S)
      rw [if_neg h5]; exact hS
  · rw [if_neg e] at hj ⊢
    by_cases h5 : j = m
    · show WFs (if j = m then S else St j)
      rw [if_pos h5]; exact hS
    · show WFs (if j = m then S else St j)
      rw [if_neg h5]; exact h j (by omega)
theorem saveF_top (St : Nat → ST) (m : Nat) (S : ST) (hm : m ≤ 6) : saveF St m S (saveM m - 1) = S := by
  unfold saveF saveM
  by_cases e : m = 6
  · rw [if_pos e, if_pos e]; rfl
  · rw [if_neg e, if_neg e]; show (if m + 1 - 1 = m then S else St _) = S; rw [if_pos (by omega)]
theorem saveF_below (St : Nat → ST) (m : Nat) (S : ST) (hm : m ≤ 6) (h0 : 0 < m) : saveF St m S (saveM m - 1 - 1) = St (m - 1) := by
  unfold saveF saveM
  by_cases e : m = 6
  · subst e; rfl
  · rw [if_neg e, if_neg e]; show (if m + 1 - 1 - 1 = m then S else St (m + 1 - 1 - 1)) = _; rw [if_neg (by omega), show m + 1 - 1 - 1 = m - 1 by omega]
theorem saveM_pos (m : Nat) : 0 < saveM m := by unfold saveM; split <;> omega
/-- the object: its state S, the states saved St -/
def OC (S : ST) (St : Nat → ST) (m old : Nat) (no nt ns : Nat → Int32) (ni ne np : Int32) (sr : Nat → SV) (so sc : Int32) : Prop := WFs S ∧ RSs S (no, nt, ns, ni, ne, np) ∧ m ≤ 6 ∧ old < 6 ∧ so = nI old ∧ sc = nI m ∧ RSC St m sr old ∧ ∀ j, j < m → WFs (St j)
section OQ
variable {g : Nat → Nat → Nat} {tk : Nat} {en pu : Int32} {se : Nat → Nat} {St : Nat → ST} {m old : Nat} {no nt ns : Nat → Int32} {ni ne np : Int32} {sr : Nat → SV} {so sc : Int32}
theorem oc_row (hc : OC (g, tk, en, pu, se) St m old no nt ns ni ne np sr so sc) {r w : Nat} (hr : r < 20) (hq : w < 9) : fX4_row no nt ns ni (nI r) (nI w) = some (trN g tk (decide (se 0 = 1)) r w) := by
  unfold fX4_row
  simp only [↓LM1, kE_let, kE_if, kE_b1, kE_b2, kE_b3, kE_b4, kE_b5, kE_b6, kE_b7, kE_b8, kE_b9, kE_j0, kE_j1, kE_j2, kE_j3, kE_j4, L0, L1, L2, L3, L4, L5, L6, L9, L15, L16, L19, L20, L63, L99, L9999, L12, L13, L64, L8, L14, n10, n01, le00, le10, le20, le30, ne20, ne30, ne21, if_true, if_false, not_true_eq_false, not_false_eq_true, ix_in hr (by decide), ix_in hq (by decide), pX4_rowProperty hc.1 hc.2.1 hr hq]
theorem oc_key (hc : OC (g, tk, en, pu, se) St m old no nt ns ni ne np sr so sc) {k w : Nat} (hk : k < 16) (hq : w < 6) : fX4_key no nt ns ni (nI k) (nI w) = some (tyN g tk (decide (se 0 = 1)) k w) := by
  unfold fX4_key
  simp only [↓LM1, kE_let, kE_if, kE_b1, kE_b2, kE_b3, kE_b4, kE_b5, kE_b6, kE_b7, kE_b8, kE_b9, kE_j0, kE_j1, kE_j2, kE_j3, kE_j4, L0, L1, L2, L3, L4, L5, L6, L9, L15, L16, L19, L20, L63, L99, L9999, L12, L13, L64, L8, L14, n10, n01, le00, le10, le20, le30, ne20, ne30, ne21, if_true, if_false, not_true_eq_false, not_false_eq_true, ix_in hk (by decide), ix_in hq (by decide), pX4_keyProperty hc.1 hc.2.1 hk hq]
theorem oc_his (hc : OC (g, tk, en, pu, se) St m old no nt ns ni ne np sr so sc) {k a : Nat} (hk : k < 16) (ha : a < 2 ^ 31) : fX4_history no nt ns ni (nI k) (nI a) = some (earN (rofB g tk (decide (se 0 = 1)) k) (vlV g tk (decide (se 0 = 1))) 20 (nI a)) := by
  unfold fX4_history
  simp only [↓LM1, kE_let, kE_if, kE_b1, kE_b2, kE_b3, kE_b4, kE_b5, kE_b6, kE_b7, kE_b8, kE_b9, kE_j0, kE_j1, kE_j2, kE_j3, kE_j4, L0, L1, L2, L3, L4, L5, L6, L9, L15, L16, L19, L20, L63, L99, L9999, L12, L13, L64, L8, L14, n10, n01, le00, le10, le20, le30, ne20, ne30, ne21, if_true, if_false, not_true_eq_false, not_false_eq_true, ix_in hk (by decide), if_neg (nI_nlt0 ha), pX3_earlierValue hc.1 hc.2.1 hk]
theorem oc_cnt (hc : OC (g, tk, en, pu, se) St m old no nt ns ni ne np sr so sc) {w : Nat} (hq : w < 13) : fX4_count no nt ns ni ne np sc (nI w) = some (ctN g tk (decide (se 0 = 1)) en pu m w) := by
  obtain rfl : sc = nI m := hc.2.2.2.2.2.1
  unfold fX4_count
  simp only [↓LM1, kE_let, kE_if, kE_b1, kE_b2, kE_b3, kE_b4, kE_b5, kE_b6, kE_b7, kE_b8, kE_b9, kE_j0, kE_j1, kE_j2, kE_j3, kE_j4, L0, L1, L2, L3, L4, L5, L6, L9, L15, L16, L19, L20, L63, L99, L9999, L12, L13, L64, L8, L14, n10, n01, le00, le10, le20, le30, ne20, ne30, ne21, if_true, if_false, not_true_eq_false, not_false_eq_true, ix_in hq (by decide), pX4_countOf hc.1 hc.2.1 hq]
theorem oc_set (hc : OC (g, tk, en, pu, se) St m old no nt ns ni ne np sr so sc) {k : Nat} (hk : k < 4) : fX4_setting ns (nI k) = some (nI (se k)) := by
  unfold fX4_setting
  have h := hc.2.1.2.1 k hk
  simp (disch := omega) only [↓LM1, kE_let, kE_if, kE_b1, kE_b2, kE_b3, kE_b4, kE_b5, kE_b6, kE_b7, kE_b8, kE_b9, kE_j0, kE_j1, kE_j2, kE_j3, kE_j4, L0, L1, L2, L3, L4, L5, L6, L9, L15, L16, L19, L20, L63, L99, L9999, L12, L13, L64, L8, L14, n10, n01, le00, le10, le20, le30, ne20, ne30, ne21, if_true, if_false, not_true_eq_false, not_false_eq_true, ix_in hk (by decide), kE_ck, nI_clamp]
  exact congrArg some h
theorem oc_fuse0 (hc : OC (g, tk, en, pu, se) St m old no nt ns ni ne np sr so sc) {r f : Nat} (hr : r < 20) (hf : f < 16) : fX4_fuse no nt ni (nI r) (nI f) (nI 0) = some (nI (g r f)) := by
  unfold fX4_fuse
  simp only [↓LM1, kE_let, kE_if, kE_b1, kE_b2, kE_b3, kE_b4, kE_b5, kE_b6, kE_b7, kE_b8, kE_b9, kE_j0, kE_j1, kE_j2, kE_j3, kE_j4, L0, L1, L2, L3, L4, L5, L6, L9, L15, L16, L19, L20, L63, L99, L9999, L12, L13, L64, L8, L14, n10, n01, le00, le10, le20, le30, ne20, ne30, ne21, if_true, if_false, not_true_eq_false, not_false_eq_true, ix_in hr (by decide), ix_in hf (by decide), ix_in (show 0 < 3 by decide) (by decide), L3, pX3_strength hc.1.1 hc.2.1.1 hr hf]
theorem oc_fuse2 (hc : OC (g, tk, en, pu, se) St m old no nt ns ni ne np sr so sc) {r f : Nat} (hr : r < 20) (hf : f < 16) : fX4_fuse no nt ni (nI r) (nI f) (nI 2) = some (bI (2 ≤ g r f)) := by
  have h2 : tk ≤ 9999 := hc.1.2.1
  have hb := mkN_lt g tk true r
  have e := pX3_readAt (th := true) (k := tk) hc.1.1 hc.2.1.1 hr (by omega)
  have ht : ni = nI tk := hc.2.1.2.2.1
  rw [show bI (true = true) = nI 1 by decide] at e
  unfold fX4_fuse
  simp (disch := omega) only [↓LM1, kE_let, kE_if, kE_b1, kE_b2, kE_b3, kE_b4, kE_b5, kE_b6, kE_b7, kE_b8, kE_b9, kE_j0, kE_j1, kE_j2, kE_j3, kE_j4, L0, L1, L2, L3, L4, L5, L6, L9, L15, L16, L19, L20, L63, L99, L9999, L12, L13, L64, L8, L14, n10, n01, le00, le10, le20, le30, ne20, ne30, ne21, if_true, if_false, not_true_eq_false, not_false_eq_true, ix_in hr (by decide), ix_in hf (by decide), ix_in (show 2 < 3 by decide) (by decide), L3, L31, nI_31, ht, e, nI_shr, nI_a1, bit_of, mkN_bit g tk true r hf]
  exact congrArg some (bI_congr (by simp [rdB]))
theorem oc_worst (hc : OC (g, tk, en, pu, se) St m old no nt ns ni ne np sr so sc) : fX4_worst no nt ns ni = some (wrsN (wrsD g tk (decide (se 0 = 1))) 20).1 := pX4_worst hc.1 hc.2.1
theorem oc_ifRead (hc : OC (g, tk, en, pu, se) St m old no nt ns ni ne np sr so sc) {a : Nat} {th : Bool} (ha : a < 100) : fX4_ifRead no nt ns ni (nI a) (bI th) = some (nI (cnt (fun k => decide (valN g tk (decide (se 0 = 1)) k ≠ valN g (tk + a) th k)) 16)) := by
  unfold fX4_ifRead
  simp only [↓LM1, kE_let, kE_if, kE_b1, kE_b2, kE_b3, kE_b4, kE_b5, kE_b6, kE_b7, kE_b8, kE_b9, kE_j0, kE_j1, kE_j2, kE_j3, kE_j4, L0, L1, L2, L3, L4, L5, L6, L9, L15, L16, L19, L20, L63, L99, L9999, L12, L13, L64, L8, L14, n10, n01, le00, le10, le20, le30, ne20, ne30, ne21, if_true, if_false, not_true_eq_false, not_false_eq_true, wi_in (Nat.zero_le a) (show a ≤ 99 by omega) (by decide), pX4_valuesRead hc.1 hc.2.1 ha]
theorem oc_ifPut (hc : OC (g, tk, en, pu, se) St m old no nt ns ni ne np sr so sc) {k v w : Nat} (hk : k < 16) (hv : v < 64) (hq : w < 5) (a b c : Nat → Int32) (d e f : Int32) : ∃ a' b' c' d' e' f', fX4_ifPut no nt ns ni ne np a b c d e f (nI k) (nI v) (nI w) = some (wpN g tk en se k v w, a', b', c', d', e', f') := by
  obtain ⟨a', b', c', d', e', f', h⟩ := pX4_putOutcome hc.1 hc.2.1 hk hv hq a b c d e f
  refine ⟨a', b', c', d', e', f', ?_⟩
  unfold fX4_ifPut
  simp only [↓LM1, kE_let, kE_if, kE_b1, kE_b2, kE_b3, kE_b4, kE_b5, kE_b6, kE_b7, kE_b8, kE_b9, kE_j0, kE_j1, kE_j2, kE_j3, kE_j4, L0, L1, L2, L3, L4, L5, L6, L9, L15, L16, L19, L20, L63, L99, L9999, L12, L13, L64, L8, L14, n10, n01, le00, le10, le20, le30, ne20, ne30, ne21, if_true, if_false, not_true_eq_false, not_false_eq_true, ix_in hk (by decide), ix_in hv (by decide), ix_in hq (by decide), kE_b7, h]
theorem oc_ifHeated (hc : OC (g, tk, en, pu, se) St m old no nt ns ni ne np sr so sc) {d w : Nat} (hd : 1 ≤ d) (hd9 : d ≤ 9) (hq : w < 3) (a b c : Nat → Int32) (a1 a2 a3 : Int32) : ∃ a' b' c' d' e' f', fX4_ifHeated no nt ns ni ne np a b c a1 a2 a3 (nI d) (nI w) = some (whN g tk se d w, a', b', c', d', e', f') := by
  obtain ⟨a', b', c', d', e', f', h⟩ := pX4_heatOutcome hc.1 hc.2.1 (show d < 10 by omega) hq a b c a1 a2 a3
  refine ⟨a', b', c', d', e', f', ?_⟩
  unfold fX4_ifHeated
  simp only [↓LM1, kE_let, kE_if, kE_b1, kE_b2, kE_b3, kE_b4, kE_b5, kE_b6, kE_b7, kE_b8, kE_b9, kE_j0, kE_j1, kE_j2, kE_j3, kE_j4, L0, L1, L2, L3, L4, L5, L6, L9, L15, L16, L19, L20, L63, L99, L9999, L12, L13, L64, L8, L14, n10, n01, le00, le10, le20, le30, ne20, ne30, ne21, if_true, if_false, not_true_eq_false, not_false_eq_true, wi_in hd hd9 (by decide), ix_in hq (by decide), kE_b7, h]
/-- what a change brings: the state of before is the last of the saved ones -/
theorem oc_save {S : ST} (hc : OC S St m old no nt ns ni ne np sr so sc) : ∃ sr' old', fX2_save sr so sc no nt ns ni ne np = some (sr', nI old', nI (saveM m)) ∧ ∀ S' no' nt' ns' ni' ne' np', WFs S' → RSs S' (no', nt', ns', ni', ne', np') → OC S' (saveF St m S) (saveM m) old' no' nt' ns' ni' ne' np' sr' (nI old') (nI (saveM m)) := by
  obtain ⟨hw, hR, hm, ho, rfl, rfl, hs, hall⟩ := hc
  obtain ⟨g, tk, en, pu, se⟩ := S
  obtain ⟨sr', old', h1, h2, h3⟩ := pX2_save (g := g) (tk := tk) (en := en) (pu := pu) (se := se) hR hm ho hs
  exact ⟨sr', old', h1, fun S' no' nt' ns' ni' ne' np' hw' hR' => ⟨hw', hR', saveM_le hm, h2, rfl, rfl, h3, saveF_wf hw hall⟩⟩
theorem oc_blow (hc : OC (g, tk, en, pu, se) St m old no nt ns ni ne np sr so sc) {r f c : Nat} (hr : r < 20) (hf : f < 16) (c1 : 1 ≤ c) (c3 : c ≤ 3) (hl : ¬ 2 ≤ g r 15) : ∃ no' nt' ne' sr' old', fX4_blow no nt ns ni ne np sr so sc (nI r) (nI f) (nI c) = some (nI (max (g r f) c), no', nt', ne', sr', nI old', nI (saveM m)) ∧ OC (blG g r f c, tk, en + nI c, pu, se) (saveF St m (g, tk, en, pu, se)) (saveM m) old' no' nt' ns ni ne' np sr' (nI old') (nI (saveM m)) := by
  obtain ⟨sr', old', s1, s2⟩ := oc_save hc
  obtain rfl : ne = en := hc.2.1.2.2.2.1
  have l1 := pX3_isLocked hc.1 hc.2.1 hr
  rw [bI_f hl] at l1
  obtain ⟨o', t', d1, d2⟩ := pX3_blowFuse (ey := ne) hc.1.1 hc.2.1.1 hr hf c3
  have hg' := blG_le hc.1.1 (r := r) (f := f) (c := c) c3
  have e := pX3_strength hg' d2 hr hf
  rw [show blG g r f c r f = max (g r f) c by unfold blG upG; simp] at e
  refine ⟨o', t', ne + nI c, sr', old', ?_, s2 _ _ _ _ _ _ _ (WF.wG hc.1 hg') ⟨d2, hc.2.1.2.1, hc.2.1.2.2.1, rfl, hc.2.1.2.2.2.2⟩⟩
  unfold fX4_blow
  simp only [↓LM1, kE_let, kE_if, kE_b1, kE_b2, kE_b3, kE_b4, kE_b5, kE_b6, kE_b7, kE_b8, kE_b9, kE_j0, kE_j1, kE_j2, kE_j3, kE_j4, L0, L1, L2, L3, L4, L5, L6, L9, L15, L16, L19, L20, L63, L99, L9999, L12, L13, L64, L8, L14, n10, n01, le00, le10, le20, le30, ne20, ne30, ne21, if_true, if_false, not_true_eq_false, not_false_eq_true, ix_in hr (by decide), ix_in hf (by decide), wi_in c1 c3 (by decide), l1, s1, d1, e]
theorem oc_put (hc : OC (g, tk, en, pu, se) St m old no nt ns ni ne np sr so sc) {k v : Nat} (hk : k < 16) (hv : v < 64) (hl : ¬ nextN g tk (decide (se 0 = 1)) = m1) : ∃ no' nt' ne' np' sr' old', fX4_put no nt ns ni ne np sr so sc (nI k) (nI v) = some (nI (wpW g tk en se k v).2.2, no', nt', ne', np', sr', nI old', nI (saveM m)) ∧ OC ((wpM g tk en se k v).1, tk, (wpM g tk en se k v).2.1, pu + nI 1, se) (saveF St m (g, tk, en, pu, se)) (saveM m) old' no' nt' ns ni ne' np' sr' (nI old') (nI (saveM m)) := by
  obtain ⟨sr', old', s1, s2⟩ := oc_save hc
  obtain rfl : ne = en := hc.2.1.2.2.2.1
  obtain rfl : np = pu := hc.2.1.2.2.2.2
  have l1 := pX3_nextRow hc.1 hc.2.1
  obtain ⟨o', t', d1, d2⟩ := pX3_putNext hc.1 hc.2.1 hk hv hl
  have hg' : ∀ r f, (wpM g tk ne se k v).1 r f ≤ 3 := mk1_le (wrN_le hc.1 _ _ _ _).1 hc.1.2.2.2.2.1 _ _
  refine ⟨o', t', (wpM g tk ne se k v).2.1, np + nI 1, sr', old', ?_, s2 _ _ _ _ _ _ _ (WF.wG hc.1 hg') ⟨d2, hc.2.1.2.1, hc.2.1.2.2.1, rfl, rfl⟩⟩
  unfold fX4_put
  simp only [↓LM1, kE_let, kE_if, kE_b1, kE_b2, kE_b3, kE_b4, kE_b5, kE_b6, kE_b7, kE_b8, kE_b9, kE_j0, kE_j1, kE_j2, kE_j3, kE_j4, L0, L1, L2, L3, L4, L5, L6, L9, L15, L16, L19, L20, L63, L99, L9999, L12, L13, L64, L8, L14, n10, n01, le00, le10, le20, le30, ne20, ne30, ne21, if_true, if_false, not_true_eq_false, not_false_eq_true, ix_in hk (by decide), ix_in hv (by decide), l1, if_neg hl, s1, d1]
theorem oc_drop (hc : OC (g, tk, en, pu, se) St m old no nt ns ni ne np sr so sc) {k : Nat} (hk : k < 16) : ∃ no' nt' ne' sr' old', fX4_drop no nt ns ni ne np sr so sc (nI k) = some (nI (cnt (mkP g tk (decide (se 0 = 1)) m1 k) 20), no', nt', ne', sr', nI old', nI (saveM m)) ∧ OC (mkG g (mkP g tk (decide (se 0 = 1)) m1 k) 3 20, tk, enS (mkP g tk (decide (se 0 = 1)) m1 k) (fun _ => 3) en 20, pu, se) (saveF St m (g, tk, en, pu, se)) (saveM m) old' no' nt' ns ni ne' np sr' (nI old') (nI (saveM m)) := by
  obtain ⟨sr', old', s1, s2⟩ := oc_save hc
  obtain rfl : ne = en := hc.2.1.2.2.2.1
  obtain ⟨o', t', d1, d2⟩ := pX3_markEntries hc.1 hc.2.1 (c := 3) m1 hk (by decide)
  refine ⟨o', t', enS (mkP g tk (decide (se 0 = 1)) m1 k) (fun _ => 3) ne 20, sr', old', ?_, s2 _ _ _ _ _ _ _ (WF.wG hc.1 (mkG_le hc.1.1 (by decide) 20)) ⟨d2, hc.2.1.2.1, hc.2.1.2.2.1, rfl, hc.2.1.2.2.2.2⟩⟩
  unfold fX4_drop
  simp only [↓LM1, kE_let, kE_if, kE_b1, kE_b2, kE_b3, kE_b4, kE_b5, kE_b6, kE_b7, kE_b8, kE_b9, kE_j0, kE_j1, kE_j2, kE_j3, kE_j4, L0, L1, L2, L3, L4, L5, L6, L9, L15, L16, L19, L20, L63, L99, L9999, L12, L13, L64, L8, L14, n10, n01, le00, le10, le20, le30, ne20, ne30, ne21, if_true, if_false, not_true_eq_false, not_false_eq_true, ix_in hk (by decide), s1, L3, d1]
theorem oc_lock (hc : OC (g, tk, en, pu, se) St m old no nt ns ni ne np sr so sc) {r : Nat} (hr : r < 20) (hl : ¬ 2 ≤ g r 15) : ∃ no' nt' ne' sr' old', fX4_lock no nt ns ni ne np sr so sc (nI r) = some (nI (cnt (fun i => decide (2 ≤ blG g r 15 3 i 15)) 20), no', nt', ne', sr', nI old', nI (saveM m)) ∧ OC (blG g r 15 3, tk, en + nI 3, pu, se) (saveF St m (g, tk, en, pu, se)) (saveM m) old' no' nt' ns ni ne' np sr' (nI old') (nI (saveM m)) := by
  obtain ⟨sr', old', s1, s2⟩ := oc_save hc
  obtain rfl : ne = en := hc.2.1.2.2.2.1
  have l1 := pX3_isLocked hc.1 hc.2.1 hr
  rw [bI_f hl] at l1
  obtain ⟨o', t', d1, d2⟩ := pX3_blowFuse (ey := ne) hc.1.1 hc.2.1.1 hr (show 15 < 16 by decide) (c := 3) (by decide)
  have hg' := blG_le hc.1.1 (r := r) (f := 15) (c := 3) (by decide)
  have hw' : WF (blG g r 15 3) tk se := WF.wG hc.1 hg'
  have hR' : RS (blG g r 15 3) tk (ne + nI 3) pu se o' t' ns ni (ne + nI 3) np := ⟨d2, hc.2.1.2.1, hc.2.1.2.2.1, rfl, hc.2.1.2.2.2.2⟩
  refine ⟨o', t', ne + nI 3, sr', old', ?_, s2 _ _ _ _ _ _ _ hw' hR'⟩
  unfold fX4_lock
  simp only [↓LM1, kE_let, kE_if, kE_b1, kE_b2, kE_b3, kE_b4, kE_b5, kE_b6, kE_b7, kE_b8, kE_b9, kE_j0, kE_j1, kE_j2, kE_j3, kE_j4, L0, L1, L2, L3, L4, L5, L6, L9, L15, L16, L19, L20, L63, L99, L9999, L12, L13, L64, L8, L14, n10, n01, le00, le10, le20, le30, ne20, ne30, ne21, if_true, if_false, not_true_eq_false, not_false_eq_true, ix_in hr (by decide), l1, s1, L3, d1, pX3_lockedRows hw' hR']
theorem oc_refresh (hc : OC (g, tk, en, pu, se) St m old no nt ns ni ne np sr so sc) {r : Nat} (hr : r < 20) (hl : ¬ 2 ≤ g r 15) : ∃ no' nt' ne' sr' old', fX4_refresh no nt ns ni ne np sr so sc (nI r) = some (nI (cnt (fun f => decide (g r f = 2)) 16), no', nt', ne', sr', nI old', nI (saveM m)) ∧ OC (blP g r (rfP g r) (fun _ => 3) 16, tk, enS (rfP g r) (fun _ => 3) en 16, pu, se) (saveF St m (g, tk, en, pu, se)) (saveM m) old' no' nt' ns ni ne' np sr' (nI old') (nI (saveM m)) := by
  obtain ⟨sr', old', s1, s2⟩ := oc_save hc
  obtain rfl : ne = en := hc.2.1.2.2.2.1
  have l1 := pX3_isLocked hc.1 hc.2.1 hr
  rw [bI_f hl] at l1
  obtain ⟨o', t', d1, d2⟩ := pX3_refreshRow hc.1 hc.2.1 hr
  have hg' : ∀ r' f', blP g r (rfP g r) (fun _ => 3) 16 r' f' ≤ 3 := blP_le hc.1.1 (fun _ _ => by decide) 16
  refine ⟨o', t', enS (rfP g r) (fun _ => 3) ne 16, sr', old', ?_, s2 _ _ _ _ _ _ _ (WF.wG hc.1 hg') ⟨d2, hc.2.1.2.1, hc.2.1.2.2.1, rfl, hc.2.1.2.2.2.2⟩⟩
  unfold fX4_refresh
  simp only [↓LM1, kE_let, kE_if, kE_b1, kE_b2, kE_b3, kE_b4, kE_b5, kE_b6, kE_b7, kE_b8, kE_b9, kE_j0, kE_j1, kE_j2, kE_j3, kE_j4, L0, L1, L2, L3, L4, L5, L6, L9, L15, L16, L19, L20, L63, L99, L9999, L12, L13, L64, L8, L14, n10, n01, le00, le10, le20, le30, ne20, ne30, ne21, if_true, if_false, not_true_eq_false, not_false_eq_true, ix_in hr (by decide), l1, s1, d1]
theorem oc_heat (hc : OC (g, tk, en, pu, se) St m old no nt ns ni ne np sr so sc) {d : Nat} (d1 : 1 ≤ d) (d9 : d ≤ 9) : ∃ no' nt' sr' old', fX4_heat no nt ns ni ne np sr so sc (nI d) = some (nI (sumN (fun r => cnt (htB g d r) 16) 20), no', nt', sr', nI old', nI (saveM m)) ∧ OC (htG g d, tk, en, pu, se) (saveF St m (g, tk, en, pu, se)) (saveM m) old' no' nt' ns ni ne np sr' (nI old') (nI (saveM m)) := by
  obtain ⟨sr', old', s1, s2⟩ := oc_save hc
  obtain ⟨o', t', e1, e2⟩ := pX3_heatRows hc.1.1 hc.2.1.1 (show d < 10 by omega)
  refine ⟨o', t', sr', old', ?_, s2 _ _ _ _ _ _ _ (WF.wG hc.1 (htG_le hc.1.1 d)) ⟨e2, hc.2.1.2.1, hc.2.1.2.2.1, hc.2.1.2.2.2.1, hc.2.1.2.2.2.2⟩⟩
  unfold fX4_heat
  simp only [↓LM1, kE_let, kE_if, kE_b1, kE_b2, kE_b3, kE_b4, kE_b5, kE_b6, kE_b7, kE_b8, kE_b9, kE_j0, kE_j1, kE_j2, kE_j3, kE_j4, L0, L1, L2, L3, L4, L5, L6, L9, L15, L16, L19, L20, L63, L99, L9999, L12, L13, L64, L8, L14, n10, n01, le00, le10, le20, le30, ne20, ne30, ne21, if_true, if_false, not_true_eq_false, not_false_eq_true, wi_in d1 d9 (by decide), s1, e1]
theorem oc_pass (hc : OC (g, tk, en, pu, se) St m old no nt ns ni ne np sr so sc) {a : Nat} (a1 : 1 ≤ a) (a9 : a ≤ 99) (ht : tk + a ≤ 9999) : ∃ sr' old', fX4_pass no nt ns ni ne np sr so sc (nI a) = some (nI (tk + a), nI (tk + a), sr', nI old', nI (saveM m)) ∧ OC (g, tk + a, en, pu, se) (saveF St m (g, tk, en, pu, se)) (saveM m) old' no nt ns (nI (tk + a)) ne np sr' (nI old') (nI (saveM m)) := by
  obtain ⟨sr', old', s1, s2⟩ := oc_save hc
  have h2 : ni = nI tk := hc.2.1.2.2.1
  subst h2
  refine ⟨sr', old', ?_, s2 _ _ _ _ _ _ _ ⟨hc.1.1, ht, hc.1.2.2⟩ ⟨hc.2.1.1, hc.2.1.2.1, rfl, hc.2.1.2.2.2.1, hc.2.1.2.2.2.2⟩⟩
  unfold fX4_pass
  simp (disch := omega) only [↓LM1, kE_let, kE_if, kE_b1, kE_b2, kE_b3, kE_b4, kE_b5, kE_b6, kE_b7, kE_b8, kE_b9, kE_j0, kE_j1, kE_j2, kE_j3, kE_j4, L0, L1, L2, L3, L4, L5, L6, L9, L15, L16, L19, L20, L63, L99, L9999, L12, L13, L64, L8, L14, n10, n01, le00, le10, le20, le30, ne20, ne30, ne21, if_true, if_false, not_true_eq_false, not_false_eq_true, wi_in a1 a9 (by decide), s1, nI_add, nI_ltI]
  rw [if_neg (by omega)]
def seOK (k v : Nat) : Prop := (k = 0 ∧ v ≤ 1) ∨ (k = 1 ∧ 1 ≤ v ∧ v ≤ 3) ∨ (k = 2 ∧ 1 ≤ v ∧ v ≤ 3) ∨ (k = 3 ∧ v ≤ 1)
theorem lowS_e : lowS 0 = nI 0 ∧ lowS 1 = nI 1 ∧ lowS 2 = nI 1 ∧ lowS 3 = nI 0 := by decide
theorem highS_e : highS 0 = nI 1 ∧ highS 1 = nI 3 ∧ highS 2 = nI 3 ∧ highS 3 = nI 1 := by decide
theorem oc_sets (hc : OC (g, tk, en, pu, se) St m old no nt ns ni ne np sr so sc) {k v : Nat} (hk : seOK k v) : ∃ ns' sr' old', fX4_set no nt ns ni ne np sr so sc (nI k) (nI v) = some (nI (se k), ns', sr', nI old', nI (saveM m)) ∧ OC (g, tk, en, pu, upS se k v) (saveF St m (g, tk, en, pu, se)) (saveM m) old' no nt ns' ni ne np sr' (nI old') (nI (saveM m)) := by
  obtain ⟨sr', old', s1, s2⟩ := oc_save hc
  have hw : WF g tk se := hc.1
  have hk4 : k < 4 := by rcases hk with h | h | h | h <;> omega
  have hse := hc.2.1.2.1 k hk4
  have hw' : WF g tk (upS se k v) := by
    obtain ⟨a0, a1, a2, a3, a4, a5, a6, a7⟩ := hw
    unfold upS
    rcases hk with ⟨rfl, h⟩ | ⟨rfl, h, h'⟩ | ⟨rfl, h, h'⟩ | ⟨rfl, h⟩ <;> exact ⟨a0, a1, by simp; omega, by simp; omega, by simp; omega, by simp; omega, by simp; omega, by simp; omega⟩
  have hs' : ∀ j, j < 4 → upd ns k (nI v) j = nI (upS se k v j) := by
    intro j hj
    rw [upd_z]; unfold upS
    by_cases e : j = k
    · rw [if_pos e, if_pos e]
    · rw [if_neg e, if_neg e]; exact hc.2.1.2.1 j hj
  have hR' : RSs (g, tk, en, pu, upS se k v) (no, nt, upd ns k (nI v), ni, ne, np) := ⟨hc.2.1.1, hs', hc.2.1.2.2⟩
  refine ⟨upd ns k (nI v), sr', old', ?_, s2 _ _ _ _ _ _ _ hw' hR'⟩
  have hse' : ns k = nI (se k) := hse
  obtain ⟨p0, p1, p2, p3⟩ := lowS_e
  obtain ⟨q0, q1, q2, q3⟩ := highS_e
  unfold fX4_set
  rcases hk with ⟨rfl, h⟩ | ⟨rfl, h, h'⟩ | ⟨rfl, h, h'⟩ | ⟨rfl, h⟩
  · simp (disch := omega) only [↓LM1, kE_let, kE_if, kE_b1, kE_b2, kE_b3, kE_b4, kE_b5, kE_b6, kE_b7, kE_b8, kE_b9, kE_j0, kE_j1, kE_j2, kE_j3, kE_j4, L0, L1, L2, L3, L4, L5, L6, L9, L15, L16, L19, L20, L63, L99, L9999, L12, L13, L64, L8, L14, n10, n01, le00, le10, le20, le30, ne20, ne30, ne21, if_true, if_false, not_true_eq_false, not_false_eq_true, ix_in (show 0 < 4 by decide) (by decide), kE_ck, nI_clamp, p0, q0, wi_in (Nat.zero_le v) h (by decide), s1, hse', L4]
  · simp (disch := omega) only [↓LM1, kE_let, kE_if, kE_b1, kE_b2, kE_b3, kE_b4, kE_b5, kE_b6, kE_b7, kE_b8, kE_b9, kE_j0, kE_j1, kE_j2, kE_j3, kE_j4, L0, L1, L2, L3, L4, L5, L6, L9, L15, L16, L19, L20, L63, L99, L9999, L12, L13, L64, L8, L14, n10, n01, le00, le10, le20, le30, ne20, ne30, ne21, if_true, if_false, not_true_eq_false, not_false_eq_true, ix_in (show 1 < 4 by decide) (by decide), kE_ck, nI_clamp, p1, q1, wi_in h h' (by decide), s1, hse', L4]
  · simp (disch := omega) only [↓LM1, kE_let, kE_if, kE_b1, kE_b2, kE_b3, kE_b4, kE_b5, kE_b6, kE_b7, kE_b8, kE_b9, kE_j0, kE_j1, kE_j2, kE_j3, kE_j4, L0, L1, L2, L3, L4, L5, L6, L9, L15, L16, L19, L20, L63, L99, L9999, L12, L13, L64, L8, L14, n10, n01, le00, le10, le20, le30, ne20, ne30, ne21, if_true, if_false, not_true_eq_false, not_false_eq_true, ix_in (show 2 < 4 by decide) (by decide), kE_ck, nI_clamp, p2, q2, wi_in h h' (by decide), s1, hse', L4]
  · simp (disch := omega) only [↓LM1, kE_let, kE_if, kE_b1, kE_b2, kE_b3, kE_b4, kE_b5, kE_b6, kE_b7, kE_b8, kE_b9, kE_j0, kE_j1, kE_j2, kE_j3, kE_j4, L0, L1, L2, L3, L4, L5, L6, L9, L15, L16, L19, L20, L63, L99, L9999, L12, L13, L64, L8, L14, n10, n01, le00, le10, le20, le30, ne20, ne30, ne21, if_true, if_false, not_true_eq_false, not_false_eq_true, ix_in (show 3 < 4 by decide) (by decide), kE_ck, nI_clamp, p3, q3, wi_in (Nat.zero_le v) h (by decide), s1, hse', L4]
theorem oc_undo {S : ST} (hc : OC S St m old no nt ns ni ne np sr so sc) (h0 : 0 < m) : ∃ no' nt' ns' ni' ne' np', fX4_undo no nt ns ni ne np sr so sc = some (nI (m - 1), no', nt', ns', ni', ne', np', nI (m - 1)) ∧ OC (St (m - 1)) St (m - 1) old no' nt' ns' ni' ne' np' sr so (nI (m - 1)) := by
  obtain ⟨hw, hR, hm, ho, rfl, rfl, hs, hall⟩ := hc
  obtain ⟨o', t', st', ti', ey', pt', h1, h2⟩ := pX2_restore h0 hm ho hs no nt ns ni ne np
  refine ⟨o', t', st', ti', ey', pt', ?_, hall (m - 1) (by omega), h2, by omega, ho, rfl, rfl, fun j hj => hs j (by omega), fun j hj => hall j (by omega)⟩
  unfold fX4_undo
  simp (disch := omega) only [↓LM1, kE_let, kE_if, kE_b1, kE_b2, kE_b3, kE_b4, kE_b5, kE_b6, kE_b7, kE_b8, kE_b9, kE_j0, kE_j1, kE_j2, kE_j3, kE_j4, L0, L1, L2, L3, L4, L5, L6, L9, L15, L16, L19, L20, L63, L99, L9999, L12, L13, L64, L8, L14, n10, n01, le00, le10, le20, le30, ne20, ne30, ne21, if_true, if_false, not_true_eq_false, not_false_eq_true, nI_leI, h1, kE_b7]
  rw [if_neg (by omega)]
end OQ
