/-! the same changes by the class -/
section CP
variable {g : Nat → Nat → Nat} {tk : Nat} {en pu : Int32} {se : Nat → Nat} {o t st : Nat → Int32} {ti ey pt : Int32}
theorem RC.congr {g' : Nat → Nat → Nat} (hC : RC g o t) (h : ∀ r f, r < 20 → f < 16 → g' r f = g r f) : RC g' o t := by
  intro r hr
  have := hC r hr
  rw [show omN (g' r) = omN (g r) from bm_congr (fun f hf => by rw [h r f hr hf]), show tmN (g' r) = tmN (g r) from bm_congr (fun f hf => by rw [h r f hr hf])]
  exact this
theorem pX3_blowFuses (hg : ∀ r f, g r f ≤ 3) (hC : RC g o t) {r M c : Nat} (hr : r < 20) (hM : M < 65536) (hc : c ≤ 3) : ∃ o' t', fX3_blowFuses o t ey (nI r) (nI M) (nI c) = some (o', t', enS M.testBit (fun _ => c) ey 16) ∧ RC (blP g r M.testBit (fun _ => c) 16) o' t' := by
  have key := kI_l4 (S := fX3_blowFuses_s3 (nI M) (nI r) (nI c)) (fun i x a b e => x = nI i ∧ RC (blP g r M.testBit (fun _ => c) i) a b ∧ e = enS M.testBit (fun _ => c) ey i) (fun q => ∃ o' t', q = some (o', t', enS M.testBit (fun _ => c) ey 16) ∧ RC (blP g r M.testBit (fun _ => c) 16) o' t') 16 5000 ?_ ?_ (by decide) 0 o t ey ⟨rfl, by rw [blP_0]; exact hC, rfl⟩
  · obtain ⟨q, ⟨o', t', h1, h2⟩, h3⟩ := key
    exact ⟨o', t', h3.trans h1, h2⟩
  · rintro i x a b e hi ⟨rfl, hz, rfl⟩
    have hg' := blP_le (r := r) (P := M.testBit) (C := fun _ => c) hg (fun _ _ => hc) i
    rw [blP_s, enS_s]
    by_cases hb : M.testBit i = true
    · rw [if_pos hb, if_pos hb]
      obtain ⟨o', t', e1, h1⟩ := pX3_blowFuse (ey := enS M.testBit (fun _ => c) ey i) hg' hz hr hi hc
      refine ⟨nI (i + 1), o', t', _, ⟨rfl, h1, rfl⟩, fun K => ?_⟩
      unfold fX3_blowFuses_s3
      simp (disch := omega) only [↓LM1, kE_let, kE_if, kE_b1, kE_b2, kE_b3, kE_b4, kE_b5, kE_b6, kE_b7, kE_b8, kE_b9, kE_j0, kE_j1, kE_j2, kE_j3, kE_j4, L16, nI_leI, if_neg, L31, nI_31, nI_shr, L1, nI_a1, bit_of, hb, if_true, e1, nI_add]
    · rw [if_neg hb, if_neg hb]
      refine ⟨nI (i + 1), a, b, _, ⟨rfl, hz, rfl⟩, fun K => ?_⟩
      unfold fX3_blowFuses_s3
      simp (disch := omega) only [↓LM1, kE_let, kE_if, kE_b1, kE_b2, kE_b3, kE_b4, kE_b5, kE_b6, kE_b7, kE_b8, kE_b9, kE_j0, kE_j1, kE_j2, kE_j3, kE_j4, L16, nI_leI, if_neg, L31, nI_31, nI_shr, L1, nI_a1, bit_of, hb, if_false, nI_add]
      simp [n01]
  · rintro x a b e ⟨rfl, hz, rfl⟩
    refine ⟨_, ⟨a, b, rfl, hz⟩, fun K => ?_⟩
    unfold fX3_blowFuses_s3
    simp only [↓LM1, kE_let, kE_if, kE_b1, kE_b2, kE_b3, kE_b4, kE_b5, kE_b6, kE_b7, kE_b8, kE_b9, kE_j0, kE_j1, kE_j2, kE_j3, kE_j4, L16, Int32.le_refl, if_true]
theorem pX3_strengthen (hg : ∀ r f, g r f ≤ 3) (hC : RC g o t) {r M : Nat} (hr : r < 20) (hM : M < 65536) (h2 : ∀ f, f < 16 → M.testBit f = true → g r f ≤ 2) : ∃ o' t', fX3_strengthenFuses o t ey (nI r) (nI M) = some (o', t', enS M.testBit (fun f => g r f + 1) ey 16) ∧ RC (blP g r M.testBit (fun f => g r f + 1) 16) o' t' := by
  have hCf : ∀ f, M.testBit f = true → g r f + 1 ≤ 3 := by
    intro f hf
    by_cases h16 : f < 16
    · have := h2 f h16 hf; omega
    · rw [Nat.testBit_lt_two_pow (Nat.lt_of_lt_of_le hM (Nat.pow_le_pow_right (n := 2) (i := 16) (by decide) (by omega)))] at hf
      cases hf
  have key := kI_l4 (S := fX3_strengthenFuses_s2 (nI M) (nI r)) (fun i x a b e => x = nI i ∧ RC (blP g r M.testBit (fun f => g r f + 1) i) a b ∧ e = enS M.testBit (fun f => g r f + 1) ey i) (fun q => ∃ o' t', q = some (o', t', enS M.testBit (fun f => g r f + 1) ey 16) ∧ RC (blP g r M.testBit (fun f => g r f + 1) 16) o' t') 16 5000 ?_ ?_ (by decide) 0 o t ey ⟨rfl, by rw [blP_0]; exact hC, rfl⟩
  · obtain ⟨q, ⟨o', t', h1, h2⟩, h3⟩ := key
    exact ⟨o', t', h3.trans h1, h2⟩
  · rintro i x a b e hi ⟨rfl, hz, rfl⟩
    have hg' := blP_le (r := r) (P := M.testBit) (C := fun f => g r f + 1) hg hCf i
    have e5 := blP_row g r M.testBit (fun f => g r f + 1) i i (Nat.le_refl i)
    rw [blP_s, enS_s]
    by_cases hb : M.testBit i = true
    · rw [if_pos hb, if_pos hb]
      obtain ⟨o', t', e1, h1⟩ := pX3_blowFuse (ey := enS M.testBit (fun f => g r f + 1) ey i) hg' hz hr hi (hCf i hb)
      refine ⟨nI (i + 1), o', t', _, ⟨rfl, h1, rfl⟩, fun K => ?_⟩
      unfold fX3_strengthenFuses_s2
      simp (disch := omega) only [↓LM1, kE_let, kE_if, kE_b1, kE_b2, kE_b3, kE_b4, kE_b5, kE_b6, kE_b7, kE_b8, kE_b9, kE_j0, kE_j1, kE_j2, kE_j3, kE_j4, L16, nI_leI, if_neg, L31, nI_31, nI_shr, L1, nI_a1, bit_of, hb, if_true, pX3_strength hg' hz hr hi, e5, nI_add, e1]
    · rw [if_neg hb, if_neg hb]
      refine ⟨nI (i + 1), a, b, _, ⟨rfl, hz, rfl⟩, fun K => ?_⟩
      unfold fX3_strengthenFuses_s2
      simp (disch := omega) only [↓LM1, kE_let, kE_if, kE_b1, kE_b2, kE_b3, kE_b4, kE_b5, kE_b6, kE_b7, kE_b8, kE_b9, kE_j0, kE_j1, kE_j2, kE_j3, kE_j4, L16, nI_leI, if_neg, L31, nI_31, nI_shr, L1, nI_a1, bit_of, hb, if_false, nI_add]
      simp [n01]
  · rintro x a b e ⟨rfl, hz, rfl⟩
    refine ⟨_, ⟨a, b, rfl, hz⟩, fun K => ?_⟩
    unfold fX3_strengthenFuses_s2
    simp only [↓LM1, kE_let, kE_if, kE_b1, kE_b2, kE_b3, kE_b4, kE_b5, kE_b6, kE_b7, kE_b8, kE_b9, kE_j0, kE_j1, kE_j2, kE_j3, kE_j4, L16, Int32.le_refl, if_true]
theorem pX3_tells (hw : WF g tk se) (hS : RS g tk en pu se o t st ti ey pt) {r k v : Nat} (hr : r < 20) (hk : k < 16) (hv : v < 64) : fX3_tellsEntry o t st ti (nI r) (nI k) (nI v) = some (bI (tellB g tk (decide (se 0 = 1)) r k v = true)) := by
  unfold fX3_tellsEntry
  have hvl := vl_lt (mkN g tk (decide (se 0 = 1)) r)
  simp (disch := omega) only [↓LM1, kE_let, kE_if, kE_b1, kE_b2, kE_b3, kE_b4, kE_b5, kE_b6, kE_b7, kE_b8, kE_b9, kE_j0, kE_j1, kE_j2, kE_j3, kE_j4, pX3_read hw hS hr, pX0_kindM, pX0_keyOf, pX0_valM, L4, nI_kdE, nI_kyE, nI_eq, L1, L0]
  by_cases h4 : kd (mkN g tk (decide (se 0 = 1)) r) = 4 <;> by_cases h2 : ky (mkN g tk (decide (se 0 = 1)) r) = k <;> by_cases h5 : vl (mkN g tk (decide (se 0 = 1)) r) = v <;> simp [tellB, h4, h2, h5, bI_T, bI_F]
theorem RS.mk' (hS : RS g tk en pu se o t st ti ey pt) {g' : Nat → Nat → Nat} {o' t' : Nat → Int32} {e : Int32} (h : RC g' o' t') : RS g' tk e pu se o' t' st ti e pt := ⟨h, hS.2.1, hS.2.2.1, rfl, hS.2.2.2.2⟩
theorem blP_congr {g : Nat → Nat → Nat} {r : Nat} {P Q : Nat → Bool} {C D : Nat → Nat} {n : Nat} (hP : ∀ f, f < n → P f = Q f) (hC : ∀ f, f < n → P f = true → C f = D f) : blP g r P C n = blP g r Q D n := by
  funext r' f'
  unfold blP
  by_cases h : r' = r ∧ f' < n ∧ P f' = true
  · rw [if_pos h, if_pos ⟨h.1, h.2.1, by rw [← hP f' h.2.1]; exact h.2.2⟩, hC f' h.2.1 h.2.2]
  · rw [if_neg h, if_neg (fun q => h ⟨q.1, q.2.1, by rw [hP f' q.2.1]; exact q.2.2⟩)]
theorem enS_congr {P Q : Nat → Bool} {C D : Nat → Nat} {e : Int32} (n : Nat) (hP : ∀ f, f < n → P f = Q f) (hC : ∀ f, f < n → P f = true → C f = D f) : enS P C e n = enS Q D e n := by
  induction n with
  | zero => rfl
  | succ n ih =>
    rw [enS_s, enS_s, ih (fun f hf => hP f (by omega)) (fun f hf => hC f (by omega)), ← hP n (by omega)]
    by_cases h : P n = true
    · rw [if_pos h, if_pos h, hC n (by omega) h]
    · rw [if_neg h, if_neg h]
theorem pX0_ofEntry {k v : Nat} (hk : k < 16) (hv : v < 64) : fX0_ofEntry (nI k) (nI v) = some (nI (wnt k v)) := by
  unfold fX0_ofEntry
  have hzl := zer_le (k ||| v * 16)
  simp (disch := omega) only [kE_let, L4, L31, nI_31, nI_shl, nI_or, pX0_zerosOf, kE_b1, L10]
  rw [show (k ||| v * 2 ^ 4) = k ||| v * 16 by rfl]
  simp (disch := omega) only [nI_shl, nI_or]
  rfl
theorem pX3_tries {r W k v : Nat} (hr : r < 20) (hW : W < 65536) (hk : k < 16) (hv : v < 64) : ∀ (n fu : Nat) (g : Nat → Nat → Nat) (en : Int32) (tries : Nat) (o t : Nat → Int32), WF g tk se → RS g tk en pu se o t st ti en pt → 1 ≤ tries → tries ≤ 10 → se 2 ≤ tries + n → n < fu →
    ∃ o' t', RC (wrS tk se r W k v n (g, en, tries)).1 o' t' ∧ k_l4 (fX3_writeEntry_s23 st ti (nI r) (nI k) (nI v) (nI W)) fu (nI tries) o t en = some (nI (wrS tk se r W k v n (g, en, tries)).2.2, o', t', (wrS tk se r W k v n (g, en, tries)).2.1) := by
  intro n
  induction n with
  | zero =>
    intro fu g en tries o t hw hS h1 h10 hs hf
    obtain ⟨fu, rfl⟩ : ∃ x, fu = x + 1 := ⟨fu - 1, by omega⟩
    refine ⟨o, t, hS.1, ?_⟩
    show fX3_writeEntry_s23 _ _ _ _ _ _ _ _ _ _ _ = _
    unfold fX3_writeEntry_s23
    have h2 := hS.2.1 2 (by decide)
    simp (disch := omega) only [↓LM1, kE_let, kE_if, kE_b1, kE_b2, kE_b3, kE_b4, kE_b5, kE_b6, kE_b7, kE_b8, kE_b9, kE_j0, kE_j1, kE_j2, kE_j3, kE_j4, L2, kE_ck, nI_clamp, h2, nI_leI, if_pos]
    rfl
  | succ n ih =>
    intro fu g en tries o t hw hS h1 h10 hs hf
    obtain ⟨fu, rfl⟩ : ∃ x, fu = x + 1 := ⟨fu - 1, by omega⟩
    have hse2 := hw.2.2.2.2.2.2.1
    have h2 := hS.2.1 2 (by decide)
    by_cases hc : tries < se 2 ∧ ¬ tellB g tk (decide (se 0 = 1)) r k v = true
    · have ew : wrS tk se r W k v (n + 1) (g, en, tries) = wrS tk se r W k v n (blP g r (PW g tk (decide (se 0 = 1)) r W 1) (CW g se r 1) 16, enS (PW g tk (decide (se 0 = 1)) r W 1) (CW g se r 1) en 16, tries + 1) := by
        rw [wrS]; exact if_pos hc
      have hmk := mkN_lt g tk (decide (se 0 = 1)) r
      have hM : W &&& (mkN g tk (decide (se 0 = 1)) r ^^^ 4294967295) < 65536 := Nat.lt_of_le_of_lt Nat.and_le_left hW
      have hbit : ∀ f, f < 16 → (W &&& (mkN g tk (decide (se 0 = 1)) r ^^^ 4294967295)).testBit f = PW g tk (decide (se 0 = 1)) r W 1 f := by
        intro f hf
        rw [Nat.testBit_and, not_bit (by omega), mkN_bit _ _ _ _ hf]
        unfold PW
        simp
      have hle := CW_le (tk := tk) (th := decide (se 0 = 1)) (r := r) (W := W) (tries := 1) hw.1 hw.2.2.2.2.1
      obtain ⟨o1, t1, e1, hC1⟩ := pX3_strengthen (ey := en) hw.1 hS.1 hr hM (fun f hf hb => by
        have := hle f (by rw [← hbit f hf]; exact hb)
        unfold CW at this
        rw [if_neg (by decide)] at this
        omega)
      have eP : blP g r (W &&& (mkN g tk (decide (se 0 = 1)) r ^^^ 4294967295)).testBit (fun f => g r f + 1) 16 = blP g r (PW g tk (decide (se 0 = 1)) r W 1) (CW g se r 1) 16 := blP_congr hbit (fun f hf _ => by unfold CW; rw [if_neg (by decide)])
      have eE : enS (W &&& (mkN g tk (decide (se 0 = 1)) r ^^^ 4294967295)).testBit (fun f => g r f + 1) en 16 = enS (PW g tk (decide (se 0 = 1)) r W 1) (CW g se r 1) en 16 := enS_congr 16 hbit (fun f hf _ => by unfold CW; rw [if_neg (by decide)])
      rw [eP] at hC1
      rw [eE] at e1
      have hw1 : WF (blP g r (PW g tk (decide (se 0 = 1)) r W 1) (CW g se r 1) 16) tk se := hw.wG (blP_le hw.1 hle 16)
      obtain ⟨o', t', a, b⟩ := ih fu _ _ (tries + 1) o1 t1 hw1 (hS.mk' hC1) (by omega) (by omega) (by omega) (by omega)
      rw [ew]
      refine ⟨o', t', a, ?_⟩
      rw [← b]
      refine (show k_l4 (fX3_writeEntry_s23 st ti (nI r) (nI k) (nI v) (nI W)) (fu + 1) (nI tries) o t en = fX3_writeEntry_s23 st ti (nI r) (nI k) (nI v) (nI W) (k_l4 (fX3_writeEntry_s23 st ti (nI r) (nI k) (nI v) (nI W)) fu) (nI tries) o t en from rfl).trans ?_
      generalize k_l4 (fX3_writeEntry_s23 st ti (nI r) (nI k) (nI v) (nI W)) fu = KK
      unfold fX3_writeEntry_s23
      simp (disch := omega) only [↓LM1, kE_let, kE_if, kE_b1, kE_b2, kE_b3, kE_b4, kE_b5, kE_b6, kE_b7, kE_b8, kE_b9, kE_j0, kE_j1, kE_j2, kE_j3, kE_j4, L2, kE_ck, nI_clamp, h2, nI_leI, if_neg, pX3_tells hw hS hr hk hv, L0, bI_eq0, pX3_read hw hS hr, nI_notm, nI_and, e1, L1, nI_add]
      rw [if_pos hc.2]
    · have ew : wrS tk se r W k v (n + 1) (g, en, tries) = (g, en, tries) := by
        rw [wrS]; exact if_neg hc
      rw [ew]
      refine ⟨o, t, hS.1, ?_⟩
      show fX3_writeEntry_s23 _ _ _ _ _ _ _ _ _ _ _ = _
      unfold fX3_writeEntry_s23
      simp (disch := omega) only [↓LM1, kE_let, kE_if, kE_b1, kE_b2, kE_b3, kE_b4, kE_b5, kE_b6, kE_b7, kE_b8, kE_b9, kE_j0, kE_j1, kE_j2, kE_j3, kE_j4, L2, kE_ck, nI_clamp, h2, nI_leI, pX3_tells hw hS hr hk hv, L0, bI_eq0]
      by_cases h5 : se 2 ≤ tries
      · rw [if_pos h5]
      · rw [if_neg h5, if_neg (fun q => hc ⟨by omega, q⟩)]
theorem pX3_writeEntry (hw : WF g tk se) (hS : RS g tk en pu se o t st ti en pt) {r k v : Nat} (hr : r < 20) (hk : k < 16) (hv : v < 64) : ∃ o' t', fX3_writeEntry o t st ti en (nI r) (nI k) (nI v) = some (nI (wrN g tk se r k v en).2.2, o', t', (wrN g tk se r k v en).2.1) ∧ RC (wrN g tk se r k v en).1 o' t' := by
  have hW := wnt_lt hk hv
  have hse1 := hw.2.2.2.2.1
  have hse2 := hw.2.2.2.2.2.2.1
  have hse21 := hw.2.2.2.2.2.1
  obtain ⟨o1, t1, e1, hC1⟩ := pX3_blowFuses (ey := en) hw.1 hS.1 hr (show wnt k v < 65536 by omega) hse1
  have hbit : ∀ f, f < 16 → (wnt k v).testBit f = PW g tk (decide (se 0 = 1)) r (wnt k v) 0 f := by
    intro f hf; unfold PW; simp
  have eP : blP g r (wnt k v).testBit (fun _ => se 1) 16 = blP g r (PW g tk (decide (se 0 = 1)) r (wnt k v) 0) (CW g se r 0) 16 := blP_congr hbit (fun f hf _ => by unfold CW; rw [if_pos rfl])
  have eE : enS (wnt k v).testBit (fun _ => se 1) en 16 = enS (PW g tk (decide (se 0 = 1)) r (wnt k v) 0) (CW g se r 0) en 16 := enS_congr 16 hbit (fun f hf _ => by unfold CW; rw [if_pos rfl])
  rw [eP] at hC1
  rw [eE] at e1
  have hle := CW_le (tk := tk) (th := decide (se 0 = 1)) (r := r) (W := wnt k v) (tries := 0) hw.1 hse1
  have hw1 : WF (blP g r (PW g tk (decide (se 0 = 1)) r (wnt k v) 0) (CW g se r 0) 16) tk se := hw.wG (blP_le hw.1 hle 16)
  obtain ⟨o', t', a, b⟩ := pX3_tries (W := wnt k v) hr (show wnt k v < 65536 by omega) hk hv 2 5000 _ _ 1 o1 t1 hw1 (hS.mk' hC1) (by omega) (by omega) (by omega) (by omega)
  refine ⟨o', t', ?_, a⟩
  have h1 := hS.2.1 1 (by decide)
  unfold fX3_writeEntry
  simp (disch := omega) only [↓LM1, kE_let, kE_if, kE_b1, kE_b2, kE_b3, kE_b4, kE_b5, kE_b6, kE_b7, kE_b8, kE_b9, kE_j0, kE_j1, kE_j2, kE_j3, kE_j4, pX0_ofEntry hk hv, L1, kE_ck, nI_clamp, h1, e1]
  exact b
theorem pX3_markEntries (hw : WF g tk se) (hS : RS g tk en pu se o t st ti en pt) {k c : Nat} (but : Int32) (hk : k < 16) (hc : c ≤ 3) : ∃ o' t', fX3_markEntries o t st ti en (nI k) but (nI c) = some (nI (cnt (mkP g tk (decide (se 0 = 1)) but k) 20), o', t', enS (mkP g tk (decide (se 0 = 1)) but k) (fun _ => c) en 20) ∧ RC (mkG g (mkP g tk (decide (se 0 = 1)) but k) c 20) o' t' := by
  have key := kI_l5 (S := fX3_markEntries_s6 st ti but (nI k) (nI c)) (fun i n x a b e => n = nI (cnt (mkP g tk (decide (se 0 = 1)) but k) i) ∧ x = nI i ∧ RC (mkG g (mkP g tk (decide (se 0 = 1)) but k) c i) a b ∧ e = enS (mkP g tk (decide (se 0 = 1)) but k) (fun _ => c) en i) (fun q => ∃ o' t', q = some (nI (cnt (mkP g tk (decide (se 0 = 1)) but k) 20), o', t', enS (mkP g tk (decide (se 0 = 1)) but k) (fun _ => c) en 20) ∧ RC (mkG g (mkP g tk (decide (se 0 = 1)) but k) c 20) o' t') 20 5000 ?_ ?_ (by decide) 0 0 o t en ⟨rfl, rfl, by rw [mkG_0]; exact hS.1, rfl⟩
  · obtain ⟨q, ⟨o', t', h1, h2⟩, h3⟩ := key
    exact ⟨o', t', h3.trans h1, h2⟩
  · rintro i n x a b e hi ⟨rfl, rfl, hz, rfl⟩
    have hg' := mkG_le (M := mkP g tk (decide (se 0 = 1)) but k) hw.1 hc i
    have hw' : WF (mkG g (mkP g tk (decide (se 0 = 1)) but k) c i) tk se := hw.wG hg'
    have hS' := hS.mk' (e := enS (mkP g tk (decide (se 0 = 1)) but k) (fun _ => c) en i) hz
    have er := mkG_row g (mkP g tk (decide (se 0 = 1)) but k) c i i (Nat.le_refl i)
    have em := mkN_row er tk (decide (se 0 = 1))
    have ecs : ∀ b, mkP g tk (decide (se 0 = 1)) but k i = b → cnt (mkP g tk (decide (se 0 = 1)) but k) (i + 1) = cnt (mkP g tk (decide (se 0 = 1)) but k) i + (if b = true then 1 else 0) := by
      intro b hb; rw [← hb]; rfl
    rw [mkG_s, enS_s]
    by_cases hb : mkP g tk (decide (se 0 = 1)) but k i = true
    · rw [if_pos hb, if_pos hb]
      obtain ⟨o', t', e1, h1⟩ := pX3_blowFuse (ey := enS (mkP g tk (decide (se 0 = 1)) but k) (fun _ => c) en i) hg' hz hi (show 14 < 16 by decide) hc
      refine ⟨_, nI (i + 1), o', t', _, ⟨rfl, rfl, h1, rfl⟩, fun K => ?_⟩
      rw [ecs true hb, if_pos rfl]
      unfold mkP entB at hb
      simp at hb
      unfold fX3_markEntries_s6
      simp (disch := omega) only [↓LM1, kE_let, kE_if, kE_b1, kE_b2, kE_b3, kE_b4, kE_b5, kE_b6, kE_b7, kE_b8, kE_b9, kE_j0, kE_j1, kE_j2, kE_j3, kE_j4, L20, nI_leI, if_neg, pX3_read hw' hS' hi, pX3_isLocked hw' hS' hi, em, er, pX0_keyOf, pX0_kindM, L4, nI_kdE, nI_kyE, bI_eq0, L0, L14, e1, L1, nI_add]
      rw [if_neg hb.1, if_pos (by omega), if_pos hb.2.1.2, if_pos hb.2.1.1]
    · rw [if_neg hb, if_neg hb]
      refine ⟨_, nI (i + 1), a, b, _, ⟨rfl, rfl, hz, rfl⟩, fun K => ?_⟩
      rw [ecs false (by simpa using hb), if_neg Bool.false_ne_true, Nat.add_zero]
      unfold mkP entB at hb
      simp at hb
      unfold fX3_markEntries_s6
      simp (disch := omega) only [↓LM1, kE_let, kE_if, kE_b1, kE_b2, kE_b3, kE_b4, kE_b5, kE_b6, kE_b7, kE_b8, kE_b9, kE_j0, kE_j1, kE_j2, kE_j3, kE_j4, L20, nI_leI, if_neg, pX3_read hw' hS' hi, pX3_isLocked hw' hS' hi, em, er, pX0_keyOf, pX0_kindM, L4, nI_kdE, nI_kyE, bI_eq0, L0, L14, L1, nI_add]
      by_cases b1 : nI i = but
      · rw [if_pos b1]
      · rw [if_neg b1]
        by_cases b2 : 2 ≤ g i 15
        · rw [if_neg (fun q => q b2)]
        · rw [if_pos b2]
          by_cases b3 : ky (mkN g tk (decide (se 0 = 1)) i) = k
          · rw [if_pos b3]
            by_cases b4 : kd (mkN g tk (decide (se 0 = 1)) i) = 4
            · exact absurd (hb b1 b4 b3) (by omega)
            · rw [if_neg b4]
          · rw [if_neg b3]
  · rintro n x a b e ⟨rfl, rfl, hz, rfl⟩
    refine ⟨_, ⟨a, b, rfl, hz⟩, fun K => ?_⟩
    unfold fX3_markEntries_s6
    simp only [↓LM1, kE_let, kE_if, kE_b1, kE_b2, kE_b3, kE_b4, kE_b5, kE_b6, kE_b7, kE_b8, kE_b9, kE_j0, kE_j1, kE_j2, kE_j3, kE_j4, L20, Int32.le_refl, if_true]
theorem pX3_markEarlier (hw : WF g tk se) {w : (Nat → Nat → Nat) × Int32 × Nat} (hwg : ∀ r f, w.1 r f ≤ 3) (hS : RS w.1 tk w.2.1 pu se o t st ti w.2.1 pt) {r k : Nat} (hr : r < 20) (hk : k < 16) : ∃ o' t', fX3_markEarlier o t st ti w.2.1 (nI r) (nI k) = some (nI (mk1 w tk se r k).2.2, o', t', (mk1 w tk se r k).2.1) ∧ RC (mk1 w tk se r k).1 o' t' := by
  have h3 := hS.2.1 3 (by decide)
  have h1 := hS.2.1 1 (by decide)
  have hse3 := hw.2.2.2.2.2.2.2
  have hse1 := hw.2.2.2.2.1
  unfold fX3_markEarlier mk1
  simp (disch := omega) only [↓LM1, kE_let, kE_if, kE_b1, kE_b2, kE_b3, kE_b4, kE_b5, kE_b6, kE_b7, kE_b8, kE_b9, kE_j0, kE_j1, kE_j2, kE_j3, kE_j4, L3, L1, L0, kE_ck, nI_clamp, h3, h1, nI_eq]
  by_cases h : se 3 = 1
  · obtain ⟨o', t', e1, hC1⟩ := pX3_markEntries (hw.wG hwg) hS (nI r) hk hse1
    rw [if_pos h, if_pos h, e1]
    exact ⟨o', t', rfl, hC1⟩
  · rw [if_neg h, if_neg h]
    exact ⟨o, t, rfl, hS.1⟩
end CP
