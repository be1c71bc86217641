/-! the digests -/
theorem kI_l8 {A0 A1 A2 A3 A4 A5 A6 A7 β : Type} {S : (A0 → A1 → A2 → A3 → A4 → A5 → A6 → A7 → Option β) → A0 → A1 → A2 → A3 → A4 → A5 → A6 → A7 → Option β} (Inv : Nat → A0 → A1 → A2 → A3 → A4 → A5 → A6 → A7 → Prop) (Post : Option β → Prop) (N fuel : Nat) (hstep : ∀ (k : Nat) a0 a1 a2 a3 a4 a5 a6 a7, k < N → Inv k a0 a1 a2 a3 a4 a5 a6 a7 → ∃ b0 b1 b2 b3 b4 b5 b6 b7, Inv (k + 1) b0 b1 b2 b3 b4 b5 b6 b7 ∧ ∀ K : A0 → A1 → A2 → A3 → A4 → A5 → A6 → A7 → Option β, S K a0 a1 a2 a3 a4 a5 a6 a7 = K b0 b1 b2 b3 b4 b5 b6 b7) (hend : ∀ a0 a1 a2 a3 a4 a5 a6 a7, Inv N a0 a1 a2 a3 a4 a5 a6 a7 → ∃ r, Post r ∧ ∀ K : A0 → A1 → A2 → A3 → A4 → A5 → A6 → A7 → Option β, S K a0 a1 a2 a3 a4 a5 a6 a7 = r) (hf : N < fuel) (a0 : A0) (a1 : A1) (a2 : A2) (a3 : A3) (a4 : A4) (a5 : A5) (a6 : A6) (a7 : A7) (h0 : Inv 0 a0 a1 a2 a3 a4 a5 a6 a7) : ∃ r, Post r ∧ k_l8 S fuel a0 a1 a2 a3 a4 a5 a6 a7 = r := by
  have go : ∀ (d fu : Nat) (a0 : A0) (a1 : A1) (a2 : A2) (a3 : A3) (a4 : A4) (a5 : A5) (a6 : A6) (a7 : A7), d ≤ N → d < fu → Inv (N - d) a0 a1 a2 a3 a4 a5 a6 a7 → ∃ r, Post r ∧ k_l8 S fu a0 a1 a2 a3 a4 a5 a6 a7 = r := by
    intro d
    induction d with
    | zero =>
      intro fu a0 a1 a2 a3 a4 a5 a6 a7 _ hfu hi
      obtain ⟨fu, rfl⟩ : ∃ x, fu = x + 1 := ⟨fu - 1, by omega⟩
      rw [Nat.sub_zero] at hi
      obtain ⟨r, hr, hk⟩ := hend a0 a1 a2 a3 a4 a5 a6 a7 hi
      exact ⟨r, hr, hk _⟩
    | succ d ih =>
      intro fu a0 a1 a2 a3 a4 a5 a6 a7 hd hfu hi
      obtain ⟨fu, rfl⟩ : ∃ x, fu = x + 1 := ⟨fu - 1, by omega⟩
      obtain ⟨b0, b1, b2, b3, b4, b5, b6, b7, hb, hk⟩ := hstep (N - (d + 1)) a0 a1 a2 a3 a4 a5 a6 a7 (by omega) hi
      rw [show N - (d + 1) + 1 = N - d by omega] at hb
      obtain ⟨r, hr, hk2⟩ := ih fu b0 b1 b2 b3 b4 b5 b6 b7 (by omega) (by omega) hb
      exact ⟨r, hr, (hk _).trans hk2⟩
  exact go N fuel a0 a1 a2 a3 a4 a5 a6 a7 (Nat.le_refl _) hf (by rw [Nat.sub_self]; exact h0)
def mixN (F : Nat → Int32) : Nat → Int64 → Int64
  | 0, h => h
  | n + 1, h => 31 * mixN F n h + (F n).toInt64
def itH (F : Nat → Int64 → Int64) : Nat → Int64 → Int64
  | 0, h => h
  | n + 1, h => F n (itH F n h)
def rowH (g : Nat → Nat → Nat) (tk : Nat) (th : Bool) (r : Nat) (h : Int64) : Int64 := mixN (fun f => nI (g r f)) 16 (mixN (trN g tk th r) 9 h)
def erN (g : Nat → Nat → Nat) (tk : Nat) (th : Bool) (k : Nat) (a : Int32) : Int32 := earN (rofB g tk th k) (vlV g tk th) 20 a
def keyH (g : Nat → Nat → Nat) (tk : Nat) (th : Bool) (k : Nat) (h : Int64) : Int64 := 31 * (31 * mixN (tyN g tk th k) 6 h + (erN g tk th k (nI 0)).toInt64) + (erN g tk th k (nI 1)).toInt64
def hsH (g : Nat → Nat → Nat) (tk : Nat) (en pu : Int32) (se : Nat → Nat) (m : Nat) : Int64 := itH (keyH g tk (decide (se 0 = 1))) 16 (itH (rowH g tk (decide (se 0 = 1))) 20 (mixN (fun k => nI (se k)) 4 (mixN (ctN g tk (decide (se 0 = 1)) en pu m) 13 2683)))
def hoH (g : Nat → Nat → Nat) (tk : Nat) (en pu : Int32) (se : Nat → Nat) (m : Nat) : Int64 := mixN (whN g tk se 6) 3 (mixN (wpN g tk en se 3 5) 5 (hsH g tk en pu se m))
def rdN (g : Nat → Nat → Nat) (tk : Nat) (se : Nat → Nat) (th : Bool) : Int32 := nI (cnt (fun k => decide (valN g tk (decide (se 0 = 1)) k ≠ valN g (tk + 1) th k)) 16)
def hwH (g : Nat → Nat → Nat) (tk : Nat) (en pu : Int32) (se : Nat → Nat) (m : Nat) : Int64 := 31 * (31 * (31 * hoH g tk en pu se m + (rdN g tk se false).toInt64) + (rdN g tk se true).toInt64) + (wrsN (wrsD g tk (decide (se 0 = 1))) 20).1.toInt64
section DC
variable {g : Nat → Nat → Nat} {tk : Nat} {en pu : Int32} {se : Nat → Nat} {no nt ns : Nat → Int32} {ni ne np : Int32}
theorem d4_6 (hw : WF g tk se) (hR : RS g tk en pu se no nt ns ni ne np) {m : Nat} (K : Int64 → Option (Int64 × (Nat → Int32) × (Nat → Int32) × (Nat → Int32) × Int32 × Int32 × Int32)) (h : Int64) : k_l2 (fX4_digest_s6 K no nt ns ni ne np (nI m)) 5000 h (nI 0) = K (mixN (ctN g tk (decide (se 0 = 1)) en pu m) 13 h) := by
  refine kE_l2 13 5000 (fun i => mixN (ctN g tk (decide (se 0 = 1)) en pu m) i h) nI (fun i KK hi => ?_) (fun KK => ?_) (by decide)
  · unfold fX4_digest_s6
    simp (disch := omega) only [kE_if, kE_let, kE_b1, L13, nI_leI, if_neg, pX4_countOf hw hR hi, L1, nI_add]; rfl
  · unfold fX4_digest_s6
    simp only [kE_if, L13, Int32.le_refl, if_true]
theorem d4_33 (hR : RS g tk en pu se no nt ns ni ne np) (K : Int64 → Option (Int64 × (Nat → Int32) × (Nat → Int32) × (Nat → Int32) × Int32 × Int32 × Int32)) (h : Int64) : k_l2 (fX4_digest_s33 K ns) 5000 h (nI 0) = K (mixN (fun k => nI (se k)) 4 h) := by
  refine kE_l2 4 5000 (fun i => mixN (fun k => nI (se k)) i h) nI (fun i KK hi => ?_) (fun KK => ?_) (by decide)
  · unfold fX4_digest_s33
    simp (disch := omega) only [kE_if, kE_let, L4, nI_leI, if_neg, kE_ck, nI_clamp, hR.2.1 i hi, L1, nI_add]; rfl
  · unfold fX4_digest_s33
    simp only [kE_if, L4, Int32.le_refl, if_true]
theorem d4_72 (hw : WF g tk se) (hR : RS g tk en pu se no nt ns ni ne np) {r : Nat} (hr : r < 20) (K : Int64 → Option (Int64 × (Nat → Int32) × (Nat → Int32) × (Nat → Int32) × Int32 × Int32 × Int32)) (h : Int64) : k_l2 (fX4_digest_s72 K no nt ns ni (nI r)) 5000 h (nI 0) = K (mixN (trN g tk (decide (se 0 = 1)) r) 9 h) := by
  refine kE_l2 9 5000 (fun i => mixN (trN g tk (decide (se 0 = 1)) r) i h) nI (fun i KK hi => ?_) (fun KK => ?_) (by decide)
  · unfold fX4_digest_s72
    simp (disch := omega) only [kE_if, kE_let, kE_b1, L9, nI_leI, if_neg, pX4_rowProperty hw hR hr hi, L1, nI_add]; rfl
  · unfold fX4_digest_s72
    simp only [kE_if, L9, Int32.le_refl, if_true]
theorem d4_103 (hw : WF g tk se) (hR : RS g tk en pu se no nt ns ni ne np) {r : Nat} (hr : r < 20) (K : Int64 → Option (Int64 × (Nat → Int32) × (Nat → Int32) × (Nat → Int32) × Int32 × Int32 × Int32)) (h : Int64) : k_l2 (fX4_digest_s103 K no nt (nI r)) 5000 h (nI 0) = K (mixN (fun f => nI (g r f)) 16 h) := by
  refine kE_l2 16 5000 (fun i => mixN (fun f => nI (g r f)) i h) nI (fun i KK hi => ?_) (fun KK => ?_) (by decide)
  · unfold fX4_digest_s103
    simp (disch := omega) only [kE_if, kE_let, kE_b1, L16, nI_leI, if_neg, pX3_strength hw.1 hR.1 hr hi, L1, nI_add]; rfl
  · unfold fX4_digest_s103
    simp only [kE_if, L16, Int32.le_refl, if_true]
theorem d4_63 (hw : WF g tk se) (hR : RS g tk en pu se no nt ns ni ne np) (K : Int64 → Option (Int64 × (Nat → Int32) × (Nat → Int32) × (Nat → Int32) × Int32 × Int32 × Int32)) (h : Int64) : k_l2 (fX4_digest_s63 K no nt ns ni) 5000 h (nI 0) = K (itH (rowH g tk (decide (se 0 = 1))) 20 h) := by
  refine kE_l2 20 5000 (fun i => itH (rowH g tk (decide (se 0 = 1))) i h) nI (fun i KK hi => ?_) (fun KK => ?_) (by decide)
  · unfold fX4_digest_s63
    rw [kE_if, L20, if_neg (by rw [nI_leI (by omega) (by omega)]; omega), kE_j1, L0, d4_72 hw hR hi, kE_j1, d4_103 hw hR hi, kE_let, L1, nI_add]; rfl
  · unfold fX4_digest_s63
    simp only [kE_if, L20, Int32.le_refl, if_true]
theorem d4_151 (hw : WF g tk se) (hR : RS g tk en pu se no nt ns ni ne np) {k : Nat} (hk : k < 16) (K : Int64 → Option (Int64 × (Nat → Int32) × (Nat → Int32) × (Nat → Int32) × Int32 × Int32 × Int32)) (h : Int64) : k_l2 (fX4_digest_s151 K no nt ns ni (nI k)) 5000 h (nI 0) = K (mixN (tyN g tk (decide (se 0 = 1)) k) 6 h) := by
  refine kE_l2 6 5000 (fun i => mixN (tyN g tk (decide (se 0 = 1)) k) i h) nI (fun i KK hi => ?_) (fun KK => ?_) (by decide)
  · unfold fX4_digest_s151
    simp (disch := omega) only [kE_if, kE_let, kE_b1, L6, nI_leI, if_neg, pX4_keyProperty hw hR hk hi, L1, nI_add]; rfl
  · unfold fX4_digest_s151
    simp only [kE_if, L6, Int32.le_refl, if_true]
theorem d4_142 (hw : WF g tk se) (hR : RS g tk en pu se no nt ns ni ne np) (K : Int64 → Option (Int64 × (Nat → Int32) × (Nat → Int32) × (Nat → Int32) × Int32 × Int32 × Int32)) (h : Int64) : k_l2 (fX4_digest_s142 K no nt ns ni) 5000 h (nI 0) = K (itH (keyH g tk (decide (se 0 = 1))) 16 h) := by
  refine kE_l2 16 5000 (fun i => itH (keyH g tk (decide (se 0 = 1))) i h) nI (fun i KK hi => ?_) (fun KK => ?_) (by decide)
  · unfold fX4_digest_s142
    rw [kE_if, L16, if_neg (by rw [nI_leI (by omega) (by omega)]; omega), kE_j1, L0, d4_151 hw hR hi]
    simp only [kE_let, kE_b1, pX3_earlierValue hw hR hi, L1, nI_add]; rfl
  · unfold fX4_digest_s142
    simp only [kE_if, L16, Int32.le_refl, if_true]
theorem d4_221 (hw : WF g tk se) (hR : RS g tk en pu se no nt ns ni ne np) (K : Int64 → (Nat → Int32) → (Nat → Int32) → (Nat → Int32) → Int32 → Int32 → Int32 → Option (Int64 × (Nat → Int32) × (Nat → Int32) × (Nat → Int32) × Int32 × Int32 × Int32)) (h : Int64) (a b c : Nat → Int32) (d e f : Int32) : ∃ a' b' c' d' e' f', k_l8 (fX4_digest_s221 K no nt ns ni ne np) 5000 h (nI 0) a b c d e f = K (mixN (wpN g tk en se 3 5) 5 h) a' b' c' d' e' f' := by
  have key := kI_l8 (S := fX4_digest_s221 K no nt ns ni ne np) (fun i x y a b c d e f => x = mixN (wpN g tk en se 3 5) i h ∧ y = nI i) (fun q => ∃ a' b' c' d' e' f', q = K (mixN (wpN g tk en se 3 5) 5 h) a' b' c' d' e' f') 5 5000 ?_ ?_ (by decide) h (nI 0) a b c d e f ⟨rfl, rfl⟩
  · obtain ⟨q, ⟨a', b', c', d', e', f', h1⟩, h2⟩ := key
    exact ⟨a', b', c', d', e', f', h2.trans h1⟩
  · rintro i x y a b c d e f hi ⟨rfl, rfl⟩
    obtain ⟨a', b', c', d', e', f', h1⟩ := pX4_putOutcome hw hR (k := 3) (v := 5) (what := i) (by decide) (by decide) hi a b c d e f
    refine ⟨_, nI (i + 1), a', b', c', d', e', f', ⟨rfl, rfl⟩, fun KK => ?_⟩
    unfold fX4_digest_s221
    rw [kE_if, L5, if_neg (by rw [nI_leI (by omega) (by omega)]; omega), kE_let, L3, h1, kE_b7, kE_let, kE_let, kE_let, L1, nI_add]; rfl
  · rintro x y a b c d e f ⟨rfl, rfl⟩
    refine ⟨_, ⟨a, b, c, d, e, f, rfl⟩, fun KK => ?_⟩
    unfold fX4_digest_s221
    simp only [kE_if, L5, Int32.le_refl, if_true]
theorem d4_249 (hw : WF g tk se) (hR : RS g tk en pu se no nt ns ni ne np) (K : Int64 → (Nat → Int32) → (Nat → Int32) → (Nat → Int32) → Int32 → Int32 → Int32 → Option (Int64 × (Nat → Int32) × (Nat → Int32) × (Nat → Int32) × Int32 × Int32 × Int32)) (h : Int64) (a b c : Nat → Int32) (d e f : Int32) : ∃ a' b' c' d' e' f', k_l8 (fX4_digest_s249 K no nt ns ni ne np) 5000 h (nI 0) a b c d e f = K (mixN (whN g tk se 6) 3 h) a' b' c' d' e' f' := by
  have key := kI_l8 (S := fX4_digest_s249 K no nt ns ni ne np) (fun i x y a b c d e f => x = mixN (whN g tk se 6) i h ∧ y = nI i) (fun q => ∃ a' b' c' d' e' f', q = K (mixN (whN g tk se 6) 3 h) a' b' c' d' e' f') 3 5000 ?_ ?_ (by decide) h (nI 0) a b c d e f ⟨rfl, rfl⟩
  · obtain ⟨q, ⟨a', b', c', d', e', f', h1⟩, h2⟩ := key
    exact ⟨a', b', c', d', e', f', h2.trans h1⟩
  · rintro i x y a b c d e f hi ⟨rfl, rfl⟩
    obtain ⟨a', b', c', d', e', f', h1⟩ := pX4_heatOutcome hw hR (d := 6) (what := i) (by decide) hi a b c d e f
    refine ⟨_, nI (i + 1), a', b', c', d', e', f', ⟨rfl, rfl⟩, fun KK => ?_⟩
    unfold fX4_digest_s249
    rw [kE_if, L3, if_neg (by rw [nI_leI (by omega) (by omega)]; omega), kE_let, L6, h1, kE_b7, kE_let, kE_let, kE_let, L1, nI_add]; rfl
  · rintro x y a b c d e f ⟨rfl, rfl⟩
    refine ⟨_, ⟨a, b, c, d, e, f, rfl⟩, fun KK => ?_⟩
    unfold fX4_digest_s249
    simp only [kE_if, L3, Int32.le_refl, if_true]
theorem d4_346 {T : Nat → Nat} {n : Nat} {sg : Nat → Int32} (hT : TX T n sg) (h : Int64) (a b c : Nat → Int32) (d e f : Int32) : k_l2 (fX4_digest_s346 (nI n) a b c d e f sg) 5000 h (nI 0) = some (mixN (fun j => nI (T j)) n h, a, b, c, d, e, f) := by
  have hn := hT.1
  refine kE_l2 n 5000 (fun i => mixN (fun j => nI (T j)) i h) nI (fun i KK hi => ?_) (fun KK => ?_) (by omega)
  · unfold fX4_digest_s346
    simp (disch := omega) only [kE_if, kE_let, nI_leI, if_neg, kE_ck, nI_clamp, (hT.2 i hi).1, L1, nI_add]; rfl
  · unfold fX4_digest_s346
    simp only [kE_if, Int32.le_refl, if_true]
theorem pX4_digest (hw : WF g tk se) (hR : RS g tk en pu se no nt ns ni ne np) {T : Nat → Nat} {n m : Nat} {sg : Nat → Int32} (hT : TX T n sg) (a b c : Nat → Int32) (d e f : Int32) {bts : Int64} (hb : fX4_bitsOfShare (shrN (surN g 20) (blwN g 20)) = some bts) : ∃ a' b' c' d' e' f', fX4_digest no nt ns ni ne np a b c d e f (nI m) sg (nI n) = some (mixN (fun j => nI (T j)) n (31 * (31 * hwH g tk en pu se m + bts) + (nI n).toInt64), a', b', c', d', e', f') := by
  unfold fX4_digest
  rw [L0, L1, kE_j1, d4_6 hw hR, kE_j1, d4_33 hR, kE_j1, d4_63 hw hR, kE_j1, d4_142 hw hR, kE_j7]
  obtain ⟨a1, b1, c1, d1, e1, f1, h1⟩ := d4_221 hw hR (fun (z5 : Int64) (c6 : Nat → Int32) (c7 : Nat → Int32) (c8 : Nat → Int32) (c9 : Int32) (c10 : Int32) (c11 : Int32) =>
            k_j7
            (fun (z12 : Int64) (c13 : Nat → Int32) (c14 : Nat → Int32) (c15 : Nat → Int32) (c16 : Int32) (c17 : Int32) (c18 : Int32) =>
              k_let (31 * z12) fun (z19 : Int64) =>
              k_b1 (fX4_valuesReadOtherwise no nt ns ni (nI 1) (nI 0)) fun (z20 : Int32) =>
              k_let (z20.toInt64) fun (z21 : Int64) =>
              k_let (z19 + z21) fun (z22 : Int64) =>
              k_let (31 * z22) fun (z23 : Int64) =>
              k_b1 (fX4_valuesReadOtherwise no nt ns ni (nI 1) (nI 1)) fun (z24 : Int32) =>
              k_let (z24.toInt64) fun (z25 : Int64) =>
              k_let (z23 + z25) fun (z26 : Int64) =>
              k_let (31 * z26) fun (z27 : Int64) =>
              k_b1 (fX4_worst no nt ns ni) fun (z28 : Int32) =>
              k_let (z28.toInt64) fun (z29 : Int64) =>
              k_let (z27 + z29) fun (z30 : Int64) =>
              k_let (31 * z30) fun (z31 : Int64) =>
              k_b1 (fX4_sureShare no nt) fun (z32 : UInt64) =>
              k_b1 (fX4_bitsOfShare z32) fun (z33 : Int64) =>
              k_let (z31 + z33) fun (z34 : Int64) =>
              k_let (31 * z34) fun (z35 : Int64) =>
              k_let ((nI n).toInt64) fun (z36 : Int64) =>
              k_let (z35 + z36) fun (z37 : Int64) =>
              k_l2 (fX4_digest_s346 (nI n) c13 c14 c15 c16 c17 c18 sg) 5000 z37 (nI 0))
            (fun K275 =>
            k_l8 (fX4_digest_s249 K275 no nt ns ni ne np) 5000 z5 (nI 0) c6 c7 c8 c9 c10 c11)) (hsH g tk en pu se m) a b c d e f
  refine (show ∃ a' b' c' d' e' f', k_l8 _ 5000 (hsH g tk en pu se m) (nI 0) a b c d e f = _ from ?_)
  rw [h1, kE_j7]
  obtain ⟨a2, b2, c2, d2, e2, f2, h2⟩ := d4_249 hw hR (fun (z12 : Int64) (c13 : Nat → Int32) (c14 : Nat → Int32) (c15 : Nat → Int32) (c16 : Int32) (c17 : Int32) (c18 : Int32) =>
              k_let (31 * z12) fun (z19 : Int64) =>
              k_b1 (fX4_valuesReadOtherwise no nt ns ni (nI 1) (nI 0)) fun (z20 : Int32) =>
              k_let (z20.toInt64) fun (z21 : Int64) =>
              k_let (z19 + z21) fun (z22 : Int64) =>
              k_let (31 * z22) fun (z23 : Int64) =>
              k_b1 (fX4_valuesReadOtherwise no nt ns ni (nI 1) (nI 1)) fun (z24 : Int32) =>
              k_let (z24.toInt64) fun (z25 : Int64) =>
              k_let (z23 + z25) fun (z26 : Int64) =>
              k_let (31 * z26) fun (z27 : Int64) =>
              k_b1 (fX4_worst no nt ns ni) fun (z28 : Int32) =>
              k_let (z28.toInt64) fun (z29 : Int64) =>
              k_let (z27 + z29) fun (z30 : Int64) =>
              k_let (31 * z30) fun (z31 : Int64) =>
              k_b1 (fX4_sureShare no nt) fun (z32 : UInt64) =>
              k_b1 (fX4_bitsOfShare z32) fun (z33 : Int64) =>
              k_let (z31 + z33) fun (z34 : Int64) =>
              k_let (31 * z34) fun (z35 : Int64) =>
              k_let ((nI n).toInt64) fun (z36 : Int64) =>
              k_let (z35 + z36) fun (z37 : Int64) =>
              k_l2 (fX4_digest_s346 (nI n) c13 c14 c15 c16 c17 c18 sg) 5000 z37 (nI 0)) (mixN (wpN g tk en se 3 5) 5 (hsH g tk en pu se m)) a1 b1 c1 d1 e1 f1
  have v0 := pX4_valuesRead (a := 1) (th := false) hw hR (by decide)
  have v1 := pX4_valuesRead (a := 1) (th := true) hw hR (by decide)
  rw [bI_f Bool.false_ne_true] at v0
  rw [bI_t rfl] at v1
  refine ⟨a2, b2, c2, d2, e2, f2, h2.trans ?_⟩
  simp only [kE_let, kE_b1, v0, v1, pX4_worst hw hR, pX4_sureShare hw.1 hR.1, hb, d4_346 hT]
  rfl
end DC
section DM
variable {g : Nat → Nat → Nat} {tk : Nat} {en pu : Int32} {se : Nat → Nat} {z : Nat → Int32}
theorem mix_e (h v : Int64) : fX5_mix h v = some (31 * h + v) := by
  unfold fX5_mix
  simp only [kE_let]
theorem d5_14 (hw : WF g tk se) (hZ : RZ g tk en pu se z) {m : Nat} (K : Int64 → Option (Int64 × Int32 × (Nat → Int32) × (Nat → Int32) × Int32 × (Nat → Int32) × Int64)) (h : Int64) : k_l2 (fX5_digest_s14 K z (nI m)) 5000 (nI 0) h = K (mixN (ctN g tk (decide (se 0 = 1)) en pu m) 13 h) := by
  refine kE_l2 13 5000 nI (fun i => mixN (ctN g tk (decide (se 0 = 1)) en pu m) i h) (fun i KK hi => ?_) (fun KK => ?_) (by decide)
  · unfold fX5_digest_s14
    simp (disch := omega) only [kE_if, kE_let, kE_b1, L12, nI_ltI, if_neg, pX5_counted hw hZ hi, mix_e, L1, nI_add]; rfl
  · unfold fX5_digest_s14
    rw [kE_if, if_pos (by decide)]
theorem d5_38 (hZ : RZ g tk en pu se z) (K : Int64 → Option (Int64 × Int32 × (Nat → Int32) × (Nat → Int32) × Int32 × (Nat → Int32) × Int64)) (h : Int64) : k_l2 (fX5_digest_s38 K z) 5000 (nI 0) h = K (mixN (fun k => nI (se k)) 4 h) := by
  refine kE_l2 4 5000 nI (fun i => mixN (fun k => nI (se k)) i h) (fun i KK hi => ?_) (fun KK => ?_) (by decide)
  · unfold fX5_digest_s38
    simp (disch := omega) only [kE_if, kE_let, kE_b1, L3, L4, nI_leI, if_neg, nI_add, kE_ck, nI_clamp, hZ.2.2.2.1 i hi, mix_e, L1]; rfl
  · unfold fX5_digest_s38
    simp only [kE_if, L4, Int32.le_refl, if_true]
theorem d5_row (hw : WF g tk se) (hZ : RZ g tk en pu se z) {r : Nat} (hr : r < 20) (h : Int64) : fX5_mixRow z h (nI r) = some (rowH g tk (decide (se 0 = 1)) r h) := by
  unfold fX5_mixRow
  rw [kE_j1, L0]
  have h1 : ∀ K : Int64 → Option Int64, k_l2 (fX5_mixRow_s2 K z (nI r)) 5000 (nI 0) h = K (mixN (trN g tk (decide (se 0 = 1)) r) 9 h) := fun K => by
    refine kE_l2 9 5000 nI (fun i => mixN (trN g tk (decide (se 0 = 1)) r) i h) (fun i KK hi => ?_) (fun KK => ?_) (by decide)
    · unfold fX5_mixRow_s2
      simp (disch := omega) only [kE_if, kE_let, kE_b1, L8, nI_ltI, if_neg, pX5_toldRow hw hZ hr hi, mix_e, L1, nI_add]; rfl
    · unfold fX5_mixRow_s2
      rw [kE_if, if_pos (by decide)]
  rw [h1]
  refine kE_l2 16 5000 nI (fun i => mixN (fun f => nI (g r f)) i (mixN (trN g tk (decide (se 0 = 1)) r) 9 h)) (fun i KK hi => ?_) (fun KK => ?_) (by decide)
  · unfold fX5_mixRow_s27
    simp (disch := omega) only [kE_if, kE_let, kE_b1, L16, nI_leI, if_neg, pX5_strength hZ hr hi, mix_e, L1, nI_add]; rfl
  · unfold fX5_mixRow_s27
    simp only [kE_if, L16, Int32.le_refl, if_true]; rfl
theorem d5_key (hw : WF g tk se) (hZ : RZ g tk en pu se z) {k : Nat} (hk : k < 16) (h : Int64) : fX5_mixKey z h (nI k) = some (keyH g tk (decide (se 0 = 1)) k h) := by
  unfold fX5_mixKey
  rw [kE_j1, L0, L1]
  have h1 : ∀ K : Int64 → Option Int64, k_l2 (fX5_mixKey_s2 K z (nI k)) 5000 (nI 0) h = K (mixN (tyN g tk (decide (se 0 = 1)) k) 6 h) := fun K => by
    refine kE_l2 6 5000 nI (fun i => mixN (tyN g tk (decide (se 0 = 1)) k) i h) (fun i KK hi => ?_) (fun KK => ?_) (by decide)
    · unfold fX5_mixKey_s2
      simp (disch := omega) only [kE_if, kE_let, kE_b1, L5, nI_ltI, if_neg, pX5_toldKey hw hZ hk hi, mix_e, L1, nI_add]; rfl
    · unfold fX5_mixKey_s2
      rw [kE_if, if_pos (by decide)]
  rw [h1]
  simp only [kE_let, kE_b1, pX5_earlier hw hZ hk, mix_e]; rfl
theorem d5_64 (hw : WF g tk se) (hZ : RZ g tk en pu se z) (K : Int64 → Option (Int64 × Int32 × (Nat → Int32) × (Nat → Int32) × Int32 × (Nat → Int32) × Int64)) (h : Int64) : k_l2 (fX5_digest_s64 K z) 5000 (nI 0) h = K (itH (rowH g tk (decide (se 0 = 1))) 20 h) := by
  refine kE_l2 20 5000 nI (fun i => itH (rowH g tk (decide (se 0 = 1))) i h) (fun i KK hi => ?_) (fun KK => ?_) (by decide)
  · unfold fX5_digest_s64
    simp (disch := omega) only [kE_if, kE_let, kE_b1, L20, nI_leI, if_neg, d5_row hw hZ hi, L1, nI_add]; rfl
  · unfold fX5_digest_s64
    simp only [kE_if, L20, Int32.le_refl, if_true]
theorem d5_83 (hw : WF g tk se) (hZ : RZ g tk en pu se z) (K : Int64 → Option (Int64 × Int32 × (Nat → Int32) × (Nat → Int32) × Int32 × (Nat → Int32) × Int64)) (h : Int64) : k_l2 (fX5_digest_s83 K z) 5000 (nI 0) h = K (itH (keyH g tk (decide (se 0 = 1))) 16 h) := by
  refine kE_l2 16 5000 nI (fun i => itH (keyH g tk (decide (se 0 = 1))) i h) (fun i KK hi => ?_) (fun KK => ?_) (by decide)
  · unfold fX5_digest_s83
    simp (disch := omega) only [kE_if, kE_let, kE_b1, L16, nI_leI, if_neg, d5_key hw hZ hi, L1, nI_add]; rfl
  · unfold fX5_digest_s83
    simp only [kE_if, L16, Int32.le_refl, if_true]
theorem d5_102 (hw : WF g tk se) (hZ : RZ g tk en pu se z) (K : (Nat → Int32) → (Nat → Int32) → Int32 → Int64 → Option (Int64 × Int32 × (Nat → Int32) × (Nat → Int32) × Int32 × (Nat → Int32) × Int64)) (sp : Nat → Int32) (mb : Int32) (h : Int64) : ∃ z' sp' mb', RZ g tk en pu se z' ∧ k_l5 (fX5_digest_s102 K) 5000 (nI 0) z sp mb h = K z' sp' mb' (mixN (wpN g tk en se 3 5) 5 h) := by
  have key := kI_l5 (S := fX5_digest_s102 K) (fun i x y a b c => x = nI i ∧ RZ g tk en pu se y ∧ c = mixN (wpN g tk en se 3 5) i h) (fun q => ∃ z' sp' mb', RZ g tk en pu se z' ∧ q = K z' sp' mb' (mixN (wpN g tk en se 3 5) 5 h)) 5 5000 ?_ ?_ (by decide) (nI 0) z sp mb h ⟨rfl, hZ, rfl⟩
  · obtain ⟨q, ⟨z', sp', mb', h0, h1⟩, h2⟩ := key
    exact ⟨z', sp', mb', h0, h2.trans h1⟩
  · rintro i x y a b c hi ⟨rfl, hz, rfl⟩
    obtain ⟨z', sp', mb', h1, h2⟩ := pX5_wouldPut hw hz (k := 3) (v := 5) (what := i) a b (by decide) (by decide) hi
    refine ⟨nI (i + 1), z', sp', mb', _, ⟨rfl, h2, rfl⟩, fun KK => ?_⟩
    unfold fX5_digest_s102
    rw [kE_if, L4, if_neg (by rw [nI_ltI (by omega) (by omega)]; omega), L3, L5, h1, kE_b4, kE_let, mix_e, kE_b1, kE_let, L1, nI_add]; rfl
  · rintro x y a b c ⟨rfl, hz, rfl⟩
    refine ⟨_, ⟨y, a, b, hz, rfl⟩, fun KK => ?_⟩
    unfold fX5_digest_s102
    rw [kE_if, if_pos (by decide)]
theorem d5_127 (hw : WF g tk se) (hZ : RZ g tk en pu se z) (K : (Nat → Int32) → (Nat → Int32) → (Nat → Int32) → Int64 → Option (Int64 × Int32 × (Nat → Int32) × (Nat → Int32) × Int32 × (Nat → Int32) × Int64)) (sp bf : Nat → Int32) (h : Int64) : ∃ z' sp' bf', RZ g tk en pu se z' ∧ k_l5 (fX5_digest_s127 K) 5000 (nI 0) z sp bf h = K z' sp' bf' (mixN (whN g tk se 6) 3 h) := by
  have key := kI_l5 (S := fX5_digest_s127 K) (fun i x y a b c => x = nI i ∧ RZ g tk en pu se y ∧ c = mixN (whN g tk se 6) i h) (fun q => ∃ z' sp' bf', RZ g tk en pu se z' ∧ q = K z' sp' bf' (mixN (whN g tk se 6) 3 h)) 3 5000 ?_ ?_ (by decide) (nI 0) z sp bf h ⟨rfl, hZ, rfl⟩
  · obtain ⟨q, ⟨z', sp', mb', h0, h1⟩, h2⟩ := key
    exact ⟨z', sp', mb', h0, h2.trans h1⟩
  · rintro i x y a b c hi ⟨rfl, hz, rfl⟩
    obtain ⟨z', sp', bf', h1, h2⟩ := pX5_wouldHeat hw hz (d := 6) (what := i) a b (by decide) hi
    refine ⟨nI (i + 1), z', sp', bf', _, ⟨rfl, h2, rfl⟩, fun KK => ?_⟩
    unfold fX5_digest_s127
    rw [kE_if, L2, if_neg (by rw [nI_ltI (by omega) (by omega)]; omega), L6, h1, kE_b4, kE_let, mix_e, kE_b1, kE_let, L1, nI_add]; rfl
  · rintro x y a b c ⟨rfl, hz, rfl⟩
    refine ⟨_, ⟨y, a, b, hz, rfl⟩, fun KK => ?_⟩
    unfold fX5_digest_s127
    rw [kE_if, if_pos (by decide)]
theorem d5_203 {T : Nat → Nat} {n : Nat} {bf : Nat → Int32} (hT : TX T n bf) (h : Int64) (a b : Nat → Int32) (c : Int32) (d : Nat → Int32) : k_l2 (fX5_digest_s203 (nI n) a b c d bf) 5000 (nI 0) h = some (mixN (fun j => nI (T j)) n h, nI 0, a, b, c, d, mixN (fun j => nI (T j)) n h) := by
  have hn := hT.1
  refine kE_l2 n 5000 nI (fun i => mixN (fun j => nI (T j)) i h) (fun i KK hi => ?_) (fun KK => ?_) (by omega)
  · unfold fX5_digest_s203
    simp (disch := omega) only [kE_if, kE_let, kE_b1, nI_leI, if_neg, kE_ck, nI_clamp, (hT.2 i hi).1, mix_e, L1, nI_add]; rfl
  · unfold fX5_digest_s203
    simp only [kE_if, Int32.le_refl, if_true, L0]
theorem pX5_digest (hw : WF g tk se) (hZ : RZ g tk en pu se z) {T : Nat → Nat} {n m : Nat} {bf : Nat → Int32} (hT : TX T n bf) (th : Int32) (sp : Nat → Int32) (mb : Int32) (bfr : Nat → Int32) (hs : Int64) {bts : Int64} (hb : fX5_bitsOf (shrN (surN g 20) (blwN g 20)) = some bts) : ∃ z' sp' mb' bfr', RZ g tk en pu se z' ∧ fX5_digest th z (nI m) sp bf (nI n) mb bfr hs = some (mixN (fun j => nI (T j)) n (31 * (31 * hwH g tk en pu se m + bts) + (nI n).toInt64), nI 0, z', sp', mb', bfr', mixN (fun j => nI (T j)) n (31 * (31 * hwH g tk en pu se m + bts) + (nI n).toInt64)) := by
  unfold fX5_digest
  rw [L0, L1, kE_j1, d5_14 hw hZ, kE_j1, d5_38 hZ, kE_j1, d5_64 hw hZ, kE_j1, d5_83 hw hZ, kE_j4]
  generalize hK : (fun (c5 : Nat → Int32) (c6 : Nat → Int32) (c7 : Int32) (c8 : Int64) => _) = K125
  obtain ⟨z1, sp1, mb1, hz1, h1⟩ := d5_102 hw hZ K125 sp mb (hsH g tk en pu se m)
  refine (show ∃ z' sp' mb' bfr', RZ g tk en pu se z' ∧ k_l5 (fX5_digest_s102 K125) 5000 (nI 0) z sp mb (hsH g tk en pu se m) = _ from ?_)
  rw [h1, ← hK]
  simp only [kE_j4]
  generalize hK2 : (fun (c9 : Nat → Int32) (c10 : Nat → Int32) (c11 : Nat → Int32) (c12 : Int64) => _) = K150
  obtain ⟨z2, sp2, bf2, hz2, h2⟩ := d5_127 hw hz1 K150 sp1 bfr (mixN (wpN g tk en se 3 5) 5 (hsH g tk en pu se m))
  refine ⟨z2, sp2, mb1, bf2, hz2, h2.trans ?_⟩
  rw [← hK2]
  have v0 := pX5_wouldRead (a := 1) (th := false) hw hz2 (by decide)
  have v1 := pX5_wouldRead (a := 1) (th := true) hw hz2 (by decide)
  rw [bI_f Bool.false_ne_true] at v0
  rw [bI_t rfl] at v1
  simp only [kE_let, kE_b1, v0, v1, pX5_worstNow hw hz2, pX5_share hw.1 hz2, hb, mix_e, d5_203 hT]
  rfl
end DM
section DP
variable {S : ST} {St : Nat → ST} {m old : Nat} {no nt ns : Nat → Int32} {ni ne np : Int32} {sr : Nat → SV} {so sc : Int32} {z sv : Nat → Int32} {sm : Int32} {T : Nat → Nat} {n : Nat} {sg bf : Nat → Int32}
theorem pr_digest (hc : RLc S St m old no nt ns ni ne np sr so sc) (hm : RLm S St m z sv sm) (hs : TX T n sg) (hb : TX T n bf) (a b c : Nat → Int32) (d e f : Int32) (th : Int32) (sp : Nat → Int32) (mb : Int32) (bfr : Nat → Int32) (hh : Int64) :
    ∃ (r : Int64) (a' b' c' : Nat → Int32) (d' e' f' : Int32) (z' sp' : Nat → Int32) (mb' : Int32) (bfr' : Nat → Int32), fX4_digest no nt ns ni ne np a b c d e f sc sg (nI n) = some (r, a', b', c', d', e', f') ∧ fX5_digest th z sm sp bf (nI n) mb bfr hh = some (r, nI 0, z', sp', mb', bfr', r) ∧ RLm S St m z' sv sm := by
  obtain rfl : sc = nI m := hc.2.2.2.2.2.1
  obtain rfl : sm = nI m := hm.2.2
  obtain ⟨g, tk, en, pu, se⟩ := S
  have hw : WF g tk se := hc.1
  have hR : RS g tk en pu se no nt ns ni ne np := hc.2.1
  have hZ : RZ g tk en pu se z := hm.1
  obtain ⟨bts, b1, b2⟩ := shr_bits (sur_le g 20) (blw_le g)
  obtain ⟨a', b', c', d', e', f', h1⟩ := pX4_digest (m := m) hw hR hs a b c d e f b1
  obtain ⟨z', sp', mb', bfr', hz, h2⟩ := pX5_digest (m := m) hw hZ hb th sp mb bfr hh b2
  exact ⟨_, a', b', c', d', e', f', z', sp', mb', bfr', h1, h2, hz, hm.2⟩
end DP
