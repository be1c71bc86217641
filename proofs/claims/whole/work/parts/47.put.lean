/-! passes over a row, entries written, marks -/
def PW (g : Nat → Nat → Nat) (tk : Nat) (th : Bool) (r W tries : Nat) (f : Nat) : Bool := W.testBit f && (decide (tries = 0) || !rdB (g r) r tk th f)
def CW (g : Nat → Nat → Nat) (se : Nat → Nat) (r tries : Nat) (f : Nat) : Nat := if tries = 0 then se 1 else g r f + 1
def tellB (g : Nat → Nat → Nat) (tk : Nat) (th : Bool) (r k v : Nat) : Bool := decide (kd (mkN g tk th r) = 4 ∧ ky (mkN g tk th r) = k ∧ vl (mkN g tk th r) = v)
def wnt (k v : Nat) : Nat := (k ||| v * 16) ||| (zer (k ||| v * 16) * 1024)
def wrS (tk : Nat) (se : Nat → Nat) (r W k v : Nat) : Nat → (Nat → Nat → Nat) × Int32 × Nat → (Nat → Nat → Nat) × Int32 × Nat
  | 0, s => s
  | n + 1, s => if s.2.2 < se 2 ∧ ¬ tellB s.1 tk (decide (se 0 = 1)) r k v = true then wrS tk se r W k v n (blP s.1 r (PW s.1 tk (decide (se 0 = 1)) r W 1) (CW s.1 se r 1) 16, enS (PW s.1 tk (decide (se 0 = 1)) r W 1) (CW s.1 se r 1) s.2.1 16, s.2.2 + 1) else s
def wr1 (g : Nat → Nat → Nat) (tk : Nat) (se : Nat → Nat) (r W : Nat) (en : Int32) : (Nat → Nat → Nat) × Int32 × Nat := (blP g r (PW g tk (decide (se 0 = 1)) r W 0) (CW g se r 0) 16, enS (PW g tk (decide (se 0 = 1)) r W 0) (CW g se r 0) en 16, 1)
def wrN (g : Nat → Nat → Nat) (tk : Nat) (se : Nat → Nat) (r k v : Nat) (en : Int32) : (Nat → Nat → Nat) × Int32 × Nat := wrS tk se r (wnt k v) k v 2 (wr1 g tk se r (wnt k v) en)
theorem CW_le {g : Nat → Nat → Nat} {tk : Nat} {se : Nat → Nat} {th : Bool} {r W tries : Nat} (hg : ∀ r f, g r f ≤ 3) (hs : se 1 ≤ 3) : ∀ f, PW g tk th r W tries f = true → CW g se r tries f ≤ 3 := by
  intro f h
  unfold CW
  by_cases ht : tries = 0
  · rw [if_pos ht]; exact hs
  · rw [if_neg ht]
    unfold PW rdB at h
    have h3 := hg r f
    simp [ht] at h
    have h2 := h.2
    cases th
    · simp at h2; omega
    · simp at h2; omega
theorem wnt_lt {k v : Nat} (hk : k < 16) (hv : v < 64) : wnt k v < 16384 := by
  have a : k ||| v * 16 < 2 ^ 10 := Nat.or_lt_two_pow (by omega) (by omega)
  have z := zer_le (k ||| v * 16)
  exact Nat.or_lt_two_pow (n := 14) (by omega) (by omega)
section PZ2
variable {g : Nat → Nat → Nat} {tk : Nat} {en pu : Int32} {se : Nat → Nat} {z : Nat → Int32}
theorem n01 : ¬ nI 0 = nI 1 := by decide
theorem RZ.set (hZ : RZ g tk en pu se z) : z 3 = nI (se 0) ∧ z 4 = nI (se 1) ∧ z 5 = nI (se 2) ∧ z 6 = nI (se 3) := ⟨hZ.2.2.2.1 0 (by decide), hZ.2.2.2.1 1 (by decide), hZ.2.2.2.1 2 (by decide), hZ.2.2.2.1 3 (by decide)⟩
theorem WF.wG (hw : WF g tk se) {g' : Nat → Nat → Nat} (h : ∀ r f, g' r f ≤ 3) : WF g' tk se := ⟨h, hw.2⟩
theorem pX5_pass (hw : WF g tk se) (hZ : RZ g tk en pu se z) {r W tries : Nat} (hr : r < 20) (hW : W < 65536) (ht : tries < 100) (K0 : (Nat → Int32) → Option (Int32 × (Nat → Int32) × Int32)) : ∃ z', RZ (blP g r (PW g tk (decide (se 0 = 1)) r W tries) (CW g se r tries) 16) tk (enS (PW g tk (decide (se 0 = 1)) r W tries) (CW g se r tries) en 16) pu se z' ∧ k_l2 (fX5_putInto_s34 K0 (nI W) (nI r) (nI tries)) 5000 0 z = K0 z' := by
  have h3C := CW_le (tk := tk) (th := decide (se 0 = 1)) (r := r) (W := W) (tries := tries) hw.1 hw.2.2.2.2.1
  have key := kI_l2 (S := fX5_putInto_s34 K0 (nI W) (nI r) (nI tries)) (fun i x c => x = nI i ∧ RZ (blP g r (PW g tk (decide (se 0 = 1)) r W tries) (CW g se r tries) i) tk (enS (PW g tk (decide (se 0 = 1)) r W tries) (CW g se r tries) en i) pu se c) (fun q => ∃ z', RZ (blP g r (PW g tk (decide (se 0 = 1)) r W tries) (CW g se r tries) 16) tk (enS (PW g tk (decide (se 0 = 1)) r W tries) (CW g se r tries) en 16) pu se z' ∧ q = K0 z') 16 5000 ?_ ?_ (by decide) 0 z ⟨rfl, by rw [blP_0]; exact hZ⟩
  · obtain ⟨q, ⟨z', h1, h2⟩, h3⟩ := key
    exact ⟨z', h1, h3.trans h2⟩
  · rintro i x c hi ⟨rfl, hz⟩
    have hg' := blP_le (r := r) hw.1 h3C i
    have e5 := blP_row g r (PW g tk (decide (se 0 = 1)) r W tries) (CW g se r tries) i i (Nat.le_refl i)
    have hw' : WF (blP g r (PW g tk (decide (se 0 = 1)) r W tries) (CW g se r tries) i) tk se := hw.wG hg'
    have h2t := hw.2.1
    have hse1 := hw.2.2.2.2.1
    have hgi := hw.1 r i
    have hset := hz.set
    have ers : rdB (blP g r (PW g tk (decide (se 0 = 1)) r W tries) (CW g se r tries) i r) r tk (decide (se 0 = 1)) i = rdB (g r) r tk (decide (se 0 = 1)) i := by unfold rdB; rw [e5]
    rw [blP_s, enS_s]
    by_cases hb : W.testBit i = true
    · by_cases h0 : tries = 0
      · have hP : PW g tk (decide (se 0 = 1)) r W tries i = true := by unfold PW; simp [hb, h0]
        rw [if_pos hP, if_pos hP]
        have hCv : CW g se r tries i = se 1 := by unfold CW; rw [if_pos h0]
        obtain ⟨z', hz1, hz2⟩ := pX5_blowOne hz hr hi (hg' r i) (c := se 1) (by omega)
        refine ⟨nI (i + 1), z', ⟨rfl, by rw [hCv]; exact hz2⟩, fun K => ?_⟩
        unfold fX5_putInto_s34
        simp (disch := omega) only [↓LM1, kE_let, kE_if, kE_b1, kE_b2, kE_b3, kE_b4, kE_b5, kE_b6, kE_b7, kE_b8, kE_b9, kE_j0, kE_j1, kE_j2, kE_j3, kE_j4, L16, nI_leI, if_neg, L31, nI_31, nI_shr, L1, nI_a1, bit_of, hb, if_true, L0, h0, L4, kE_ck, nI_clamp, hset.2.1, hz1, nI_add, nI_eq]
        all_goals (try simp)
      · by_cases hrd : rdB (g r) r tk (decide (se 0 = 1)) i = true
        · have hP : ¬ PW g tk (decide (se 0 = 1)) r W tries i = true := by unfold PW; simp [hb, h0, hrd]
          rw [if_neg hP, if_neg hP]
          refine ⟨nI (i + 1), c, ⟨rfl, hz⟩, fun K => ?_⟩
          unfold fX5_putInto_s34
          simp (disch := omega) only [↓LM1, kE_let, kE_if, kE_b1, kE_b2, kE_b3, kE_b4, kE_b5, kE_b6, kE_b7, kE_b8, kE_b9, kE_j0, kE_j1, kE_j2, kE_j3, kE_j4, L16, nI_leI, if_neg, L31, nI_31, nI_shr, L1, nI_a1, bit_of, hb, if_true, L0, kE_ck, nI_clamp, hz.1, pX5_isThriceNow hz hw.2.2.1, pX5_reads hg' hz hr hi, ers, hrd, bI_eq0, nI_add, nI_eq]
          simp [h0]
        · have hP : PW g tk (decide (se 0 = 1)) r W tries i = true := by unfold PW; simp [hb, h0, hrd]
          rw [if_pos hP, if_pos hP]
          have hCv : CW g se r tries i = g r i + 1 := by unfold CW; rw [if_neg h0]
          obtain ⟨z', hz1, hz2⟩ := pX5_blowOne hz hr hi (hg' r i) (c := g r i + 1) (by omega)
          refine ⟨nI (i + 1), z', ⟨rfl, by rw [hCv]; exact hz2⟩, fun K => ?_⟩
          unfold fX5_putInto_s34
          simp (disch := omega) only [↓LM1, kE_let, kE_if, kE_b1, kE_b2, kE_b3, kE_b4, kE_b5, kE_b6, kE_b7, kE_b8, kE_b9, kE_j0, kE_j1, kE_j2, kE_j3, kE_j4, L16, nI_leI, if_neg, L31, nI_31, nI_shr, L1, nI_a1, bit_of, hb, if_true, L0, kE_ck, nI_clamp, hz.1, pX5_isThriceNow hz hw.2.2.1, pX5_reads hg' hz hr hi, ers, hrd, bI_eq0, nI_add, nI_eq, pX5_strength hz hr hi, e5, hz1]
          simp [h0]
    · have hP : ¬ PW g tk (decide (se 0 = 1)) r W tries i = true := by unfold PW; simp [hb]
      rw [if_neg hP, if_neg hP]
      refine ⟨nI (i + 1), c, ⟨rfl, hz⟩, fun K => ?_⟩
      unfold fX5_putInto_s34
      simp (disch := omega) only [↓LM1, kE_let, kE_if, kE_b1, kE_b2, kE_b3, kE_b4, kE_b5, kE_b6, kE_b7, kE_b8, kE_b9, kE_j0, kE_j1, kE_j2, kE_j3, kE_j4, L16, nI_leI, if_neg, L31, nI_31, nI_shr, L1, nI_a1, bit_of, hb, if_false, L0, kE_ck, nI_clamp, nI_add, nI_eq]
      simp [n01]
  · rintro x c ⟨rfl, hz⟩
    refine ⟨K0 c, ⟨c, hz, rfl⟩, fun K => ?_⟩
    unfold fX5_putInto_s34
    simp only [↓LM1, kE_let, kE_if, kE_b1, kE_b2, kE_b3, kE_b4, kE_b5, kE_b6, kE_b7, kE_b8, kE_b9, kE_j0, kE_j1, kE_j2, kE_j3, kE_j4, L16, Int32.le_refl, if_true]
theorem pX5_readsAs (hw : WF g tk se) (hZ : RZ g tk en pu se z) {r k v : Nat} (hr : r < 20) (hk : k < 16) (hv : v < 64) : fX5_readsAs z (nI r) (nI k) (nI v) = some (bI (tellB g tk (decide (se 0 = 1)) r k v = true)) := by
  unfold fX5_readsAs
  have hvl := vl_lt (mkN g tk (decide (se 0 = 1)) r)
  simp (disch := omega) only [↓LM1, kE_let, kE_if, kE_b1, kE_b2, kE_b3, kE_b4, kE_b5, kE_b6, kE_b7, kE_b8, kE_b9, kE_j0, kE_j1, kE_j2, kE_j3, kE_j4, pX5_maskNow hw hZ hr, pX5_kindM, pX5_keyIn, pX5_valM, L4, nI_kdE, nI_kyE, nI_eq, L1, L0]
  by_cases h4 : kd (mkN g tk (decide (se 0 = 1)) r) = 4 <;> by_cases h2 : ky (mkN g tk (decide (se 0 = 1)) r) = k <;> by_cases h5 : vl (mkN g tk (decide (se 0 = 1)) r) = v <;> simp [tellB, h4, h2, h5, bI_T, bI_F]
theorem wrS_le {tk : Nat} {se : Nat → Nat} {r W k v : Nat} (hs : se 1 ≤ 3) (n : Nat) : ∀ s : (Nat → Nat → Nat) × Int32 × Nat, (∀ r f, s.1 r f ≤ 3) → (∀ r' f', (wrS tk se r W k v n s).1 r' f' ≤ 3) ∧ (wrS tk se r W k v n s).2.2 ≤ s.2.2 + n := by
  induction n with
  | zero => exact fun s h => ⟨h, Nat.le_refl _⟩
  | succ n ih =>
    intro s h
    rw [wrS]
    by_cases hc : s.2.2 < se 2 ∧ ¬ tellB s.1 tk (decide (se 0 = 1)) r k v = true
    · rw [if_pos hc]
      have := ih (blP s.1 r (PW s.1 tk (decide (se 0 = 1)) r W 1) (CW s.1 se r 1) 16, enS (PW s.1 tk (decide (se 0 = 1)) r W 1) (CW s.1 se r 1) s.2.1 16, s.2.2 + 1) (blP_le h (CW_le h hs) 16)
      exact ⟨this.1, Nat.le_trans this.2 (by show s.2.2 + 1 + n ≤ _; omega)⟩
    · rw [if_neg hc]
      exact ⟨h, by omega⟩
theorem pX5_tries {r W k v : Nat} (hr : r < 20) (hW : W < 65536) (hk : k < 16) (hv : v < 64) (K0 : Int32 → (Nat → Int32) → Option (Int32 × (Nat → Int32) × Int32)) : ∀ (n fu : Nat) (g : Nat → Nat → Nat) (en : Int32) (tries : Nat) (z : Nat → Int32), WF g tk se → RZ g tk en pu se z → 1 ≤ tries → tries ≤ 10 → se 2 ≤ tries + n → n < fu →
    ∃ z', RZ (wrS tk se r W k v n (g, en, tries)).1 tk (wrS tk se r W k v n (g, en, tries)).2.1 pu se z' ∧ k_l3 (fX5_putInto_s26 K0 (nI r) (nI k) (nI v) (nI W)) fu (nI tries) (bI (tries < se 2 ∧ ¬ tellB g tk (decide (se 0 = 1)) r k v = true)) z = K0 (nI (wrS tk se r W k v n (g, en, tries)).2.2) z' := by
  intro n
  induction n with
  | zero =>
    intro fu g en tries z hw hZ h1 h10 hs hf
    obtain ⟨fu, rfl⟩ : ∃ x, fu = x + 1 := ⟨fu - 1, by omega⟩
    refine ⟨z, hZ, ?_⟩
    rw [bI_f (by omega)]
    show fX5_putInto_s26 _ _ _ _ _ _ _ _ _ = _
    unfold fX5_putInto_s26
    simp only [↓LM1, kE_let, kE_if, kE_b1, kE_b2, kE_b3, kE_b4, kE_b5, kE_b6, kE_b7, kE_b8, kE_b9, kE_j0, kE_j1, kE_j2, kE_j3, kE_j4, L0, if_true]; rfl
  | succ n ih =>
    intro fu g en tries z hw hZ h1 h10 hs hf
    obtain ⟨fu, rfl⟩ : ∃ x, fu = x + 1 := ⟨fu - 1, by omega⟩
    by_cases hc : tries < se 2 ∧ ¬ tellB g tk (decide (se 0 = 1)) r k v = true
    · have hse2 := hw.2.2.2.2.2.2.1
      obtain ⟨z1, hz1, hp⟩ := pX5_pass hw hZ hr hW (tries := tries) (by omega) (fun (c20 : Nat → Int32) =>
      k_let (nI tries + 1) fun (x21 : Int32) =>
      k_ck (5 : Int32) 327 <| k_let (c20 (5 : Int32).toNatClampNeg) fun (x22 : Int32) =>
      k_j1
      (fun (x23 : Int32) =>
        k_l3 (fX5_putInto_s26 K0 (nI r) (nI k) (nI v) (nI W)) fu x21 x23 c20)
      (fun K161 =>
      k_if (x22 ≤ x21)
      (
        K161 0)
      (
        k_b1 (fX5_readsAs c20 (nI r) (nI k) (nI v)) fun (x24 : Int32) =>
        k_if (x24 = 0)
        (
          K161 1)
        (
          K161 0))))
      have hPW : PW g tk (decide (se 0 = 1)) r W tries = PW g tk (decide (se 0 = 1)) r W 1 := by funext f; unfold PW; simp [show tries ≠ 0 by omega]
      have hCW : CW g se r tries = CW g se r 1 := by funext f; unfold CW; simp [show tries ≠ 0 by omega]
      rw [hPW, hCW] at hz1
      have hw1 : WF (blP g r (PW g tk (decide (se 0 = 1)) r W 1) (CW g se r 1) 16) tk se := hw.wG (blP_le hw.1 (CW_le hw.1 hw.2.2.2.2.1) 16)
      obtain ⟨z', a, b⟩ := ih fu _ _ (tries + 1) z1 hw1 hz1 (by omega) (by omega) (by omega) (by omega)
      have ew : wrS tk se r W k v (n + 1) (g, en, tries) = wrS tk se r W k v n (blP g r (PW g tk (decide (se 0 = 1)) r W 1) (CW g se r 1) 16, enS (PW g tk (decide (se 0 = 1)) r W 1) (CW g se r 1) en 16, tries + 1) := by
        rw [wrS]; exact if_pos hc
      rw [ew]
      refine ⟨z', a, ?_⟩
      rw [← b, bI_t hc]
      refine (show k_l3 (fX5_putInto_s26 K0 (nI r) (nI k) (nI v) (nI W)) (fu + 1) (nI tries) (nI 1) z = fX5_putInto_s26 K0 (nI r) (nI k) (nI v) (nI W) (k_l3 (fX5_putInto_s26 K0 (nI r) (nI k) (nI v) (nI W)) fu) (nI tries) (nI 1) z from rfl).trans ?_
      generalize k_l3 (fX5_putInto_s26 K0 (nI r) (nI k) (nI v) (nI W)) fu = KK at hp ⊢
      unfold fX5_putInto_s26
      simp only [kE_if, kE_j1 (A0 := Nat → Int32)]
      rw [if_neg (by decide)]
      refine hp.trans ?_
      simp (disch := omega) only [↓LM1, kE_let, kE_if, kE_b1, kE_b2, kE_b3, kE_b4, kE_b5, kE_b6, kE_b7, kE_b8, kE_b9, kE_j0, kE_j1, kE_j2, kE_j3, kE_j4, L1, L5, L0, nI_add, kE_ck, nI_clamp, hz1.set.2.2.1, nI_leI, pX5_readsAs hw1 hz1 hr hk hv, bI_eq0]
      by_cases h5 : se 2 ≤ tries + 1
      · rw [if_pos h5, bI_f (by omega)]
      · rw [if_neg h5]
        by_cases h6 : tellB (blP g r (PW g tk (decide (se 0 = 1)) r W 1) (CW g se r 1) 16) tk (decide (se 0 = 1)) r k v = true
        · rw [if_neg (fun q => q h6), bI_f (fun q => q.2 h6)]
        · rw [if_pos h6, bI_t ⟨by omega, h6⟩]
    · have ew : wrS tk se r W k v (n + 1) (g, en, tries) = (g, en, tries) := by
        rw [wrS]; exact if_neg hc
      rw [ew]
      refine ⟨z, hZ, ?_⟩
      rw [bI_f hc]
      show fX5_putInto_s26 _ _ _ _ _ _ _ _ _ = _
      unfold fX5_putInto_s26
      simp only [↓LM1, kE_let, kE_if, kE_b1, kE_b2, kE_b3, kE_b4, kE_b5, kE_b6, kE_b7, kE_b8, kE_b9, kE_j0, kE_j1, kE_j2, kE_j3, kE_j4, L0, if_true]
end PZ2
