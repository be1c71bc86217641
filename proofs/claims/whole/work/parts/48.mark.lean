/-! marks; a put as a whole, by the model -/
def mkP (g : Nat → Nat → Nat) (tk : Nat) (th : Bool) (but : Int32) (k r : Nat) : Bool := decide (¬ nI r = but ∧ entB g tk th k r = true ∧ ¬ 2 ≤ g r 15)
def mkG (g : Nat → Nat → Nat) (M : Nat → Bool) (c n : Nat) : Nat → Nat → Nat := fun r' f' => if r' < n ∧ f' = 14 ∧ M r' = true then max (g r' f') c else g r' f'
def mk1 (w : (Nat → Nat → Nat) × Int32 × Nat) (tk : Nat) (se : Nat → Nat) (r k : Nat) : (Nat → Nat → Nat) × Int32 × Nat := if se 3 = 1 then (mkG w.1 (mkP w.1 tk (decide (se 0 = 1)) (nI r) k) (se 1) 20, enS (mkP w.1 tk (decide (se 0 = 1)) (nI r) k) (fun _ => se 1) w.2.1 20, cnt (mkP w.1 tk (decide (se 0 = 1)) (nI r) k) 20) else (w.1, w.2.1, 0)
theorem mkG_0 (g : Nat → Nat → Nat) (M : Nat → Bool) (c : Nat) : mkG g M c 0 = g := by
  funext r' f'
  unfold mkG
  rw [if_neg (by omega)]
theorem mkG_s (g : Nat → Nat → Nat) (M : Nat → Bool) (c n : Nat) : mkG g M c (n + 1) = if M n = true then blG (mkG g M c n) n 14 c else mkG g M c n := by
  by_cases h : M n = true
  · rw [if_pos h]
    funext r' f'
    unfold blG upG mkG
    by_cases hr : r' = n
    · subst hr
      by_cases hf : f' = 14
      · subst hf
        rw [if_pos ⟨by omega, rfl, h⟩, if_pos ⟨rfl, rfl⟩, if_neg (by omega)]
      · rw [if_neg (fun q => hf q.2.1), if_neg (fun q => hf q.2), if_neg (fun q => hf q.2.1)]
    · rw [if_neg (show ¬ (r' = n ∧ f' = 14) from fun q => hr q.1)]
      by_cases hq : r' < n ∧ f' = 14 ∧ M r' = true
      · rw [if_pos ⟨by omega, hq.2⟩, if_pos hq]
      · rw [if_neg (fun q => hq ⟨by omega, q.2⟩), if_neg hq]
  · rw [if_neg h]
    funext r' f'
    unfold mkG
    by_cases hq : r' < n ∧ f' = 14 ∧ M r' = true
    · rw [if_pos hq, if_pos ⟨by omega, hq.2⟩]
    · rw [if_neg hq, if_neg]
      rintro ⟨a, b, c⟩
      by_cases e : r' = n
      · subst e; exact h c
      · exact hq ⟨by omega, b, c⟩
theorem mkG_le {g : Nat → Nat → Nat} (hg : ∀ r f, g r f ≤ 3) {M : Nat → Bool} {c : Nat} (hc : c ≤ 3) (n : Nat) : ∀ r' f', mkG g M c n r' f' ≤ 3 := by
  intro r' f'
  unfold mkG
  have := hg r' f'
  split <;> omega
theorem mkG_row (g : Nat → Nat → Nat) (M : Nat → Bool) (c n r : Nat) (h : n ≤ r) : mkG g M c n r = g r := by
  funext f
  unfold mkG
  rw [if_neg (by omega)]
theorem mkN_row {g g' : Nat → Nat → Nat} {r : Nat} (h : g' r = g r) (tk : Nat) (th : Bool) : mkN g' tk th r = mkN g tk th r := by unfold mkN; rw [h]
section MZ
variable {g : Nat → Nat → Nat} {tk : Nat} {en pu : Int32} {se : Nat → Nat} {z : Nat → Int32}
theorem nI_1shl {i : Nat} (h : i < 31) : nI 1 <<< nI i = nI (2 ^ i) := by
  have h1 : 2 ^ i < 2 ^ 32 := Nat.pow_lt_pow_right (by decide) (by omega)
  rw [nI_shl (by omega) (by omega), Nat.one_mul]
theorem pX5_markAll (hw : WF g tk se) (hZ : RZ g tk en pu se z) {k c : Nat} (but : Int32) (hk : k < 16) (hc : c ≤ 3) : ∃ z', fX5_markAll z (nI k) but (nI c) = some (nI (cnt (mkP g tk (decide (se 0 = 1)) but k) 20), z') ∧ RZ (mkG g (mkP g tk (decide (se 0 = 1)) but k) c 20) tk (enS (mkP g tk (decide (se 0 = 1)) but k) (fun _ => c) en 20) pu se z' := by
  have hM := bm_lt (mkP g tk (decide (se 0 = 1)) but k) 20
  have key2 := fun (K109 : (Nat → Int32) → Option (Int32 × (Nat → Int32))) => kI_l2 (S := fX5_markAll_s76 K109 (nI (bm (mkP g tk (decide (se 0 = 1)) but k) 20)) (nI c)) (fun i x y => x = nI i ∧ RZ (mkG g (mkP g tk (decide (se 0 = 1)) but k) c i) tk (enS (mkP g tk (decide (se 0 = 1)) but k) (fun _ => c) en i) pu se y) (fun q => ∃ z', RZ (mkG g (mkP g tk (decide (se 0 = 1)) but k) c 20) tk (enS (mkP g tk (decide (se 0 = 1)) but k) (fun _ => c) en 20) pu se z' ∧ q = K109 z') 20 5000 (by
    rintro i x y hi ⟨rfl, hz⟩
    rw [mkG_s, enS_s]
    by_cases hb : mkP g tk (decide (se 0 = 1)) but k i = true
    · rw [if_pos hb, if_pos hb]
      obtain ⟨z', hz1, hz2⟩ := pX5_blowOne hz hi (show 14 < 16 by decide) (mkG_le hw.1 hc i i 14) (c := c) (by omega)
      refine ⟨nI (i + 1), z', ⟨rfl, hz2⟩, fun K => ?_⟩
      unfold fX5_markAll_s76
      simp (disch := omega) only [↓LM1, kE_let, kE_if, kE_b1, kE_b2, kE_b3, kE_b4, kE_b5, kE_b6, kE_b7, kE_b8, kE_b9, kE_j0, kE_j1, kE_j2, kE_j3, kE_j4, L20, nI_leI, if_neg, L31, nI_31, nI_shr, L1, nI_a1, bit_of, bm_bit, L14, hz1, nI_add, nI_eq]
      simp [hb, hi]
    · rw [if_neg hb, if_neg hb]
      refine ⟨nI (i + 1), y, ⟨rfl, hz⟩, fun K => ?_⟩
      unfold fX5_markAll_s76
      simp (disch := omega) only [↓LM1, kE_let, kE_if, kE_b1, kE_b2, kE_b3, kE_b4, kE_b5, kE_b6, kE_b7, kE_b8, kE_b9, kE_j0, kE_j1, kE_j2, kE_j3, kE_j4, L20, nI_leI, if_neg, L31, nI_31, nI_shr, L1, nI_a1, bit_of, bm_bit, L14, nI_add, nI_eq]
      simp [hb, hi, n01]) (by
    rintro x y ⟨rfl, hz⟩
    refine ⟨K109 y, ⟨y, hz, rfl⟩, fun K => ?_⟩
    unfold fX5_markAll_s76
    simp only [↓LM1, kE_let, kE_if, kE_b1, kE_b2, kE_b3, kE_b4, kE_b5, kE_b6, kE_b7, kE_b8, kE_b9, kE_j0, kE_j1, kE_j2, kE_j3, kE_j4, L20, Int32.le_refl, if_true]) (by decide) 0 z ⟨rfl, by rw [mkG_0]; exact hZ⟩
  unfold fX5_markAll
  simp only [↓LM1, kE_let, kE_if, kE_b1, kE_b2, kE_b3, kE_b4, kE_b5, kE_b6, kE_b7, kE_b8, kE_b9, kE_j0, kE_j1, kE_j2, kE_j3, kE_j4]
  have key1 := kE_l2 (S := fX5_markAll_s6 (fun x1 => k_l2 (fX5_markAll_s76 (fun c2 => k_b1 (fX5_bits x1) fun x3 => some (x3, c2)) x1 (nI c)) 5000 0 z) z but (nI k)) (r := k_l2 (fX5_markAll_s76 (fun c2 => k_b1 (fX5_bits (nI (bm (mkP g tk (decide (se 0 = 1)) but k) 20))) fun x3 => some (x3, c2)) (nI (bm (mkP g tk (decide (se 0 = 1)) but k) 20)) (nI c)) 5000 0 z) 20 5000 (fun i => nI (bm (mkP g tk (decide (se 0 = 1)) but k) i)) nI (fun i K hi => by
    unfold fX5_markAll_s6
    simp (disch := omega) only [kE_if, kE_b1, kE_let, L20, nI_leI, if_neg, pX5_maskNow hw hZ hi, pX5_kindM, pX5_keyIn, pX5_isLocked hw hZ hi, L4, nI_kdE, nI_kyE, bI_eq0, L31, nI_31, L1, L0, nI_1shl, nI_add, kE_j1]
    have e : bm (mkP g tk (decide (se 0 = 1)) but k) (i + 1) = bm (mkP g tk (decide (se 0 = 1)) but k) i ||| (if mkP g tk (decide (se 0 = 1)) but k i then 2 ^ i else 0) := rfl
    rw [e]
    by_cases h1 : nI i = but
    · rw [if_pos h1, show mkP g tk (decide (se 0 = 1)) but k i = false by unfold mkP; simp [h1], nI_or]; rfl
    · rw [if_neg h1]
      by_cases h2 : kd (mkN g tk (decide (se 0 = 1)) i) = 4
      · rw [if_pos h2]
        by_cases h3 : ky (mkN g tk (decide (se 0 = 1)) i) = k
        · rw [if_pos h3]
          by_cases h4 : 2 ≤ g i 15
          · rw [if_neg (fun q => q h4), show mkP g tk (decide (se 0 = 1)) but k i = false by unfold mkP; simp [h4], nI_or]; rfl
          · rw [if_pos h4, show mkP g tk (decide (se 0 = 1)) but k i = true by unfold mkP entB; simp [h1, h2, h3]; omega, nI_or]; rfl
        · rw [if_neg h3, show mkP g tk (decide (se 0 = 1)) but k i = false by unfold mkP entB; simp [h3], nI_or]; rfl
      · rw [if_neg h2, show mkP g tk (decide (se 0 = 1)) but k i = false by unfold mkP entB; simp [h2], nI_or]; rfl) (fun K => by
    unfold fX5_markAll_s6
    simp only [kE_if, L20, Int32.le_refl, if_true]) (by decide)
  obtain ⟨q, ⟨z', h1, h2⟩, h3⟩ := key2 (fun c2 => k_b1 (fX5_bits (nI (bm (mkP g tk (decide (se 0 = 1)) but k) 20))) fun x3 => some (x3, c2))
  refine ⟨z', ?_, h1⟩
  refine (key1.trans (h3.trans h2)).trans ?_
  rw [pX5_bits hM (by decide), kE_b1, pc_bm]
theorem pX5_step (hw : WF g tk se) (hZ : RZ g tk en pu se z) {r W k v tries : Nat} (hr : r < 20) (hW : W < 65536) (hk : k < 16) (hv : v < 64) (K0 : Int32 → (Nat → Int32) → Option (Int32 × (Nat → Int32) × Int32)) (KK : Int32 → Int32 → (Nat → Int32) → Option (Int32 × (Nat → Int32) × Int32)) (h10 : tries ≤ 10) : ∃ z1, RZ (blP g r (PW g tk (decide (se 0 = 1)) r W tries) (CW g se r tries) 16) tk (enS (PW g tk (decide (se 0 = 1)) r W tries) (CW g se r tries) en 16) pu se z1 ∧ fX5_putInto_s26 K0 (nI r) (nI k) (nI v) (nI W) KK (nI tries) (nI 1) z = KK (nI (tries + 1)) (bI (tries + 1 < se 2 ∧ ¬ tellB (blP g r (PW g tk (decide (se 0 = 1)) r W tries) (CW g se r tries) 16) tk (decide (se 0 = 1)) r k v = true)) z1 := by
  have hse2 := hw.2.2.2.2.2.2.1
  obtain ⟨z1, hz1, hp⟩ := pX5_pass hw hZ hr hW (tries := tries) (by omega) (fun (c20 : Nat → Int32) =>
      k_let (nI tries + 1) fun (x21 : Int32) =>
      k_ck (5 : Int32) 327 <| k_let (c20 (5 : Int32).toNatClampNeg) fun (x22 : Int32) =>
      k_j1
      (fun (x23 : Int32) =>
        KK x21 x23 c20)
      (fun K161 =>
      k_if (x22 ≤ x21)
      (
        K161 0)
      (
        k_b1 (fX5_readsAs c20 (nI r) (nI k) (nI v)) fun (x24 : Int32) =>
        k_if (x24 = 0)
        (
          K161 1)
        (
          K161 0))))
  have hw1 : WF (blP g r (PW g tk (decide (se 0 = 1)) r W tries) (CW g se r tries) 16) tk se := hw.wG (blP_le hw.1 (CW_le hw.1 hw.2.2.2.2.1) 16)
  refine ⟨z1, hz1, ?_⟩
  unfold fX5_putInto_s26
  simp only [kE_if, kE_j1 (A0 := Nat → Int32)]
  rw [if_neg (by decide)]
  refine hp.trans ?_
  simp (disch := omega) only [↓LM1, kE_let, kE_if, kE_b1, kE_b2, kE_b3, kE_b4, kE_b5, kE_b6, kE_b7, kE_b8, kE_b9, kE_j0, kE_j1, kE_j2, kE_j3, kE_j4, L1, L5, L0, nI_add, kE_ck, nI_clamp, hz1.set.2.2.1, nI_leI, pX5_readsAs hw1 hz1 hr hk hv, bI_eq0]
  by_cases h5 : se 2 ≤ tries + 1
  · rw [if_pos h5, bI_f (by omega)]
  · rw [if_neg h5]
    by_cases h6 : tellB (blP g r (PW g tk (decide (se 0 = 1)) r W tries) (CW g se r tries) 16) tk (decide (se 0 = 1)) r k v = true
    · rw [if_neg (fun q => q h6), bI_f (fun q => q.2 h6)]
    · rw [if_pos h6, bI_t ⟨by omega, h6⟩]
theorem pX5_putInto (hw : WF g tk se) (hZ : RZ g tk en pu se z) {r k v : Nat} (mb : Int32) (hr : r < 20) (hk : k < 16) (hv : v < 64) : ∃ z', fX5_putInto z mb (nI r) (nI k) (nI v) = some (nI (wrN g tk se r k v en).2.2, z', nI (mk1 (wrN g tk se r k v en) tk se r k).2.2) ∧ RZ (mk1 (wrN g tk se r k v en) tk se r k).1 tk (mk1 (wrN g tk se r k v en) tk se r k).2.1 (pu + nI 1) se z' := by
  have hW := wnt_lt hk hv
  have hx : k ||| v * 16 < 2 ^ 10 := Nat.or_lt_two_pow (by omega) (by omega)
  have hzl := zer_le (k ||| v * 16)
  unfold fX5_putInto
  simp (disch := omega) only [kE_let, L4, L31, nI_31, nI_shl, nI_or, pX5_zerosIn, kE_b1, L10]
  rw [show (k ||| v * 2 ^ 4) = k ||| v * 16 by rfl]
  simp (disch := omega) only [pX5_zerosIn, kE_b1, nI_31, nI_shl, nI_or]
  rw [show ((k ||| v * 16) ||| zer (k ||| v * 16) * 2 ^ 10) = wnt k v by rfl, kE_j2]
  -- the first pass and the tries
  have hse1 := hw.2.2.2.2.1
  have hse2 := hw.2.2.2.2.2.2.1
  have hse21 := hw.2.2.2.2.2.1
  have hg1 := blP_le (r := r) hw.1 (CW_le (tk := tk) (th := decide (se 0 = 1)) (r := r) (W := wnt k v) (tries := 0) hw.1 hse1) 16
  have hw1 : WF (blP g r (PW g tk (decide (se 0 = 1)) r (wnt k v) 0) (CW g se r 0) 16) tk se := hw.wG hg1
  have hgw := (wrS_le (tk := tk) (se := se) (r := r) (W := wnt k v) (k := k) (v := v) hse1 2 (wr1 g tk se r (wnt k v) en) hg1)
  have hww : WF (wrN g tk se r k v en).1 tk se := hw.wG hgw.1
  generalize hF : (fun (x6 : Int32) (c7 : Nat → Int32) => _) = F6
  have hfin : ∀ zz, RZ (wrN g tk se r k v en).1 tk (wrN g tk se r k v en).2.1 pu se zz → ∃ z', F6 (nI (wrN g tk se r k v en).2.2) zz = some (nI (wrN g tk se r k v en).2.2, z', nI (mk1 (wrN g tk se r k v en) tk se r k).2.2) ∧ RZ (mk1 (wrN g tk se r k v en) tk se r k).1 tk (mk1 (wrN g tk se r k v en) tk se r k).2.1 (pu + nI 1) se z' := by
    intro zz hzz
    rw [← hF]
    have hset := hzz.set
    have hse3 := hw.2.2.2.2.2.2.2
    simp (disch := omega) only [↓LM1, kE_let, kE_if, kE_b1, kE_b2, kE_b3, kE_b4, kE_b5, kE_b6, kE_b7, kE_b8, kE_b9, kE_j0, kE_j1, kE_j2, kE_j3, kE_j4, L6, L1, L4, L2, L0, kE_ck, nI_clamp, hset.2.2.2, hset.2.1, nI_eq]
    by_cases h3 : se 3 = 1
    · rw [if_pos h3]
      obtain ⟨z2, e2, hz2⟩ := pX5_markAll hww hzz (nI r) hk hse1
      rw [e2]
      simp only [kE_b2, hz2.2.2.1]
      refine ⟨upd z2 2 (pu + nI 1), ?_, ?_⟩
      · unfold mk1; rw [if_pos h3]
      · unfold mk1; rw [if_pos h3]; exact hz2.wPu _
    · rw [if_neg h3]
      simp only [hzz.2.2.1]
      refine ⟨upd zz 2 (pu + nI 1), ?_, ?_⟩
      · unfold mk1; rw [if_neg h3]
      · unfold mk1; rw [if_neg h3]; exact hzz.wPu _
  rw [L0, L1]
  obtain ⟨z1, hz1, e1⟩ := pX5_step hw hZ hr (show wnt k v < 65536 by omega) hk hv F6 (k_l3 (fX5_putInto_s26 F6 (nI r) (nI k) (nI v) (nI (wnt k v))) 4999) (tries := 0) (by omega)
  obtain ⟨z2, hz2, e2⟩ := pX5_tries (W := wnt k v) hr (show wnt k v < 65536 by omega) hk hv F6 2 4999 _ _ 1 z1 hw1 hz1 (by omega) (by omega) (by omega) (by omega)
  obtain ⟨z', e3, h3⟩ := hfin z2 hz2
  refine ⟨z', ?_, h3⟩
  refine Eq.trans ?_ e3
  refine Eq.trans ?_ e2
  exact e1
end MZ
