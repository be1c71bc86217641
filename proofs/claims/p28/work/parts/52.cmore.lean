/-! the class: putNext, refreshing, heat, copies, saved states, what would be -/
def RSs (s : ST) (v : SV) : Prop := RS s.1 s.2.1 s.2.2.1 s.2.2.2.1 s.2.2.2.2 v.1 v.2.1 v.2.2.1 v.2.2.2.1 v.2.2.2.2.1 v.2.2.2.2.2
def RSC (S : Nat → ST) (m : Nat) (ring : Nat → SV) (old : Nat) : Prop := ∀ j, j < m → RSs (S j) (ring ((old + j) % 6))
def htR (g : Nat → Nat → Nat) (d n : Nat) : Nat → Nat → Nat := fun r f => if r < n then htG g d r f else g r f
theorem htR_le {g : Nat → Nat → Nat} (hg : ∀ r f, g r f ≤ 3) (d n : Nat) : ∀ r f, htR g d n r f ≤ 3 := by
  intro r f
  unfold htR
  split
  · exact htG_le hg d r f
  · exact hg r f
theorem cnt_or {P Q R : Nat → Bool} (n : Nat) (h : ∀ i, i < n → (R i = (P i || Q i)) ∧ ¬ (P i = true ∧ Q i = true)) : cnt P n + cnt Q n = cnt R n := by
  induction n with
  | zero => rfl
  | succ n ih =>
    unfold cnt
    rw [← ih (fun i hi => h i (by omega))]
    obtain ⟨a, b⟩ := h n (by omega)
    rw [a]
    by_cases h1 : P n = true <;> by_cases h2 : Q n = true <;> simp [h1, h2] <;> first | omega | exact absurd ⟨h1, h2⟩ b
theorem upw {α : Type} {f : Nat → α} {k j : Nat} {x : α} : va_up f k x j = if j = k then x else f j := rfl
section CM
variable {g : Nat → Nat → Nat} {tk : Nat} {en pu : Int32} {se : Nat → Nat} {o t st : Nat → Int32} {ti ey pt : Int32}
theorem pX3_putNext (hw : WF g tk se) (hS : RS g tk en pu se o t st ti en pt) {k v : Nat} (hk : k < 16) (hv : v < 64) (hn : ¬ nextN g tk (decide (se 0 = 1)) = m1) : ∃ o' t', fX3_putNext o t st ti en pt (nI k) (nI v) = some (nI (wpW g tk en se k v).2.2, o', t', (wpM g tk en se k v).2.1, pt + nI 1) ∧ RC (wpM g tk en se k v).1 o' t' := by
  rcases nextN_or g tk (decide (se 0 = 1)) with h | ⟨h1, h2, h3⟩
  · exact absurd h hn
  obtain ⟨o1, t1, e1, hC1⟩ := pX3_writeEntry hw hS h1 hk hv
  obtain ⟨o2, t2, e2, hC2⟩ := pX3_markEarlier (w := wpW g tk en se k v) hw (wrN_le hw _ _ _ _).1 (hS.mk' hC1) h1 hk
  refine ⟨o2, t2, ?_, hC2⟩
  unfold fX3_putNext
  simp only [kE_b1, pX3_nextRow hw hS, kE_if, ↓LM1]
  rw [if_neg hn, h3, e1, kE_b4]
  show k_b4 (fX3_markEarlier o1 t1 st ti (wpW g tk en se k v).2.1 (nI (nxtN (mkN g tk (decide (se 0 = 1))) 20)) (nI k)) _ = _
  rw [e2, kE_b4, kE_let, L1]; rfl
theorem pX3_refreshRow (hw : WF g tk se) (hS : RS g tk en pu se o t st ti en pt) {r : Nat} (hr : r < 20) : ∃ o' t', fX3_refreshRow o t ti en (nI r) = some (nI (cnt (fun f => decide (g r f = 2)) 16), o', t', enS (rfP g r) (fun _ => 3) en 16) ∧ RC (blP g r (rfP g r) (fun _ => 3) 16) o' t' := by
  have hm := mkN_lt g tk true r
  have h2t := hw.2.1
  obtain ⟨o', t', e1, h1⟩ := pX3_blowFuses (ey := en) (c := 3) hw.1 hS.1 hr hm (by omega)
  have hbit : ∀ f, f < 16 → (mkN g tk true r).testBit f = rfP g r f := fun f hf => by rw [mkN_bit _ _ _ _ hf]; rfl
  rw [enS_congr (Q := rfP g r) (D := fun _ => 3) 16 hbit (fun _ _ _ => rfl)] at e1
  rw [blP_congr (Q := rfP g r) (D := fun _ => 3) hbit (fun _ _ _ => rfl)] at h1
  refine ⟨o', t', ?_, h1⟩
  have er := pX3_readAt (th := true) (k := tk) hw.1 hS.1 hr (by omega)
  rw [bI_t rfl] at er
  have ho := omN_lt (g r)
  have ht := tmN_lt (g r)
  have hx : tmN (g r) &&& (omN (g r) ^^^ 4294967295) < 65536 := Nat.lt_of_le_of_lt Nat.and_le_left ht
  unfold fX3_refreshRow
  simp (disch := omega) only [↓LM1, kE_let, kE_if, kE_b1, kE_b2, kE_b3, kE_b4, kE_b5, kE_b6, kE_b7, kE_b8, kE_b9, kE_j0, kE_j1, kE_j2, kE_j3, kE_j4, kE_ck, nI_clamp, (hS.1 r hr).1, (hS.1 r hr).2, nI_notm, nI_and, pJ6 hx, hS.2.2.1, L1, er, L3, e1]
  congr 3
  refine cnt_congr (fun f hf => ?_)
  rw [Nat.testBit_and, not_bit (by omega), omN_bit _ hf, tmN_bit _ hf]
  have h3 := hw.1 r f
  have hy : g r f = 0 ∨ g r f = 1 ∨ g r f = 2 ∨ g r f = 3 := by omega
  rcases hy with hy | hy | hy | hy <;> simp [hy]
theorem pX3_heatRows (hg : ∀ r f, g r f ≤ 3) (hC : RC g o t) {d : Nat} (hd : d < 10) : ∃ o' t', fX3_heatRows o t (nI d) = some (nI (sumN (fun r => cnt (htB g d r) 16) 20), o', t') ∧ RC (htG g d) o' t' := by
  have key := kI_l4 (S := fX3_heatRows_s4 (nI d)) (fun i n x a b => n = nI (sumN (fun r => cnt (htB g d r) 16) i) ∧ x = nI i ∧ RC (htR g d i) a b) (fun q => ∃ o' t', q = some (nI (sumN (fun r => cnt (htB g d r) 16) 20), o', t') ∧ RC (htR g d 20) o' t') 20 5000 ?_ ?_ (by decide) 0 0 o t ⟨rfl, rfl, hC.congr (fun r f hr hf => by unfold htR; rw [if_neg (by omega)])⟩
  · obtain ⟨q, ⟨o', t', h1, h2⟩, h3⟩ := key
    exact ⟨o', t', h3.trans h1, h2.congr (fun r f hr hf => by unfold htR; rw [if_pos hr])⟩
  · rintro i n x a b hi ⟨rfl, rfl, hz⟩
    have er : htR g d i i = g i := by funext f; unfold htR; rw [if_neg (by omega)]
    have ho := omN_lt (g i)
    have ht := tmN_lt (g i)
    have ha := (hz i hi).1
    have hb := (hz i hi).2
    rw [er] at ha hb
    have e1 : (if d < 3 then nI 0 else nI (omN (g i) &&& (tmN (g i) ^^^ 4294967295))) = nI (bm (fun f => decide (g i f = 1 ∧ 3 ≤ d)) 16) := by
      by_cases h : d < 3
      · rw [if_pos h]
        congr 1
        refine bm_ext (n := 16) (by decide) (bm_lt _ 16) (fun f hf => ?_)
        rw [bm_bit, Nat.zero_testBit]
        simp [show ¬ 3 ≤ d by omega]
      · rw [if_neg h]
        congr 1
        refine bm_ext (n := 16) (Nat.lt_of_le_of_lt Nat.and_le_left ho) (bm_lt _ 16) (fun f hf => ?_)
        rw [bm_bit, Nat.testBit_and, not_bit (by omega), omN_bit _ hf, tmN_bit _ hf]
        have h3 := hg i f
        have hy : g i f = 0 ∨ g i f = 1 ∨ g i f = 2 ∨ g i f = 3 := by omega
        rcases hy with hy | hy | hy | hy <;> simp [hy, hf, show 3 ≤ d by omega]
    have e2 : (if d < 6 then nI 0 else nI (tmN (g i) &&& (omN (g i) ^^^ 4294967295))) = nI (bm (fun f => decide (g i f = 2 ∧ 6 ≤ d)) 16) := by
      by_cases h : d < 6
      · rw [if_pos h]
        congr 1
        refine bm_ext (n := 16) (by decide) (bm_lt _ 16) (fun f hf => ?_)
        rw [bm_bit, Nat.zero_testBit]
        simp [show ¬ 6 ≤ d by omega]
      · rw [if_neg h]
        congr 1
        refine bm_ext (n := 16) (Nat.lt_of_le_of_lt Nat.and_le_left ht) (bm_lt _ 16) (fun f hf => ?_)
        rw [bm_bit, Nat.testBit_and, not_bit (by omega), omN_bit _ hf, tmN_bit _ hf]
        have h3 := hg i f
        have hy : g i f = 0 ∨ g i f = 1 ∨ g i f = 2 ∨ g i f = 3 := by omega
        rcases hy with hy | hy | hy | hy <;> simp [hy, hf, show 6 ≤ d by omega]
    have l1 := bm_lt (fun f => decide (g i f = 1 ∧ 3 ≤ d)) 16
    have l2 := bm_lt (fun f => decide (g i f = 2 ∧ 6 ≤ d)) 16
    have eo : (omN (g i) &&& (bm (fun f => decide (g i f = 1 ∧ 3 ≤ d)) 16 ^^^ 4294967295)) ||| bm (fun f => decide (g i f = 2 ∧ 6 ≤ d)) 16 = omN (htG g d i) := by
      refine bm_ext (n := 16) (Nat.or_lt_two_pow (Nat.lt_of_le_of_lt Nat.and_le_left ho) l2) (omN_lt _) (fun f hf => ?_)
      rw [Nat.testBit_or, Nat.testBit_and, not_bit (by omega), bm_bit, bm_bit, omN_bit _ hf, omN_bit _ hf]
      unfold htG htB
      have h3 := hg i f
      have hy : g i f = 0 ∨ g i f = 1 ∨ g i f = 2 ∨ g i f = 3 := by omega
      by_cases q3 : 3 ≤ d <;> by_cases q6 : 6 ≤ d <;> rcases hy with hy | hy | hy | hy <;> simp [hy, hf, q3, q6]
    have et : tmN (g i) &&& (bm (fun f => decide (g i f = 2 ∧ 6 ≤ d)) 16 ^^^ 4294967295) = tmN (htG g d i) := by
      refine bm_ext (n := 16) (Nat.lt_of_le_of_lt Nat.and_le_left ht) (tmN_lt _) (fun f hf => ?_)
      rw [Nat.testBit_and, not_bit (by omega), bm_bit, tmN_bit _ hf, tmN_bit _ hf]
      unfold htG htB
      have h3 := hg i f
      have hy : g i f = 0 ∨ g i f = 1 ∨ g i f = 2 ∨ g i f = 3 := by omega
      by_cases q3 : 3 ≤ d <;> by_cases q6 : 6 ≤ d <;> rcases hy with hy | hy | hy | hy <;> simp [hy, hf, q3, q6]
    have ec : cnt (fun f => decide (g i f = 1 ∧ 3 ≤ d)) 16 + cnt (fun f => decide (g i f = 2 ∧ 6 ≤ d)) 16 = cnt (htB g d i) 16 := by
      refine cnt_or 16 (fun f hf => ⟨?_, ?_⟩)
      · unfold htB; simp
      · simp; omega
    refine ⟨nI (sumN (fun r => cnt (htB g d r) 16) (i + 1)), nI (i + 1), upd a i (nI (omN (htG g d i))), upd b i (nI (tmN (htG g d i))), ⟨rfl, rfl, fun r hr => ?_⟩, fun K => ?_⟩
    · rw [upd_z, upd_z]
      by_cases e : r = i
      · rw [if_pos e, if_pos e, e]
        have : htR g d (i + 1) i = htG g d i := by funext f; unfold htR; rw [if_pos (by omega)]
        rw [this]; exact ⟨rfl, rfl⟩
      · rw [if_neg e, if_neg e]
        have : htR g d (i + 1) r = htR g d i r := by
          funext f; unfold htR
          by_cases h : r < i
          · rw [if_pos h, if_pos (by omega)]
          · rw [if_neg h, if_neg (by omega)]
        rw [this]; exact hz r hr
    · have main : ∀ x5 x6 : Int32, x5 = nI (bm (fun f => decide (g i f = 1 ∧ 3 ≤ d)) 16) → x6 = nI (bm (fun f => decide (g i f = 2 ∧ 6 ≤ d)) 16) → (
        k_ck (nI i) 20 <| k_let (a (nI i).toNatClampNeg) fun (x7 : Int32) =>
        k_let (x5 ^^^ m1) fun (x8 : Int32) =>
        k_let (x7 &&& x8) fun (x9 : Int32) =>
        k_let (x9 ||| x6) fun (x10 : Int32) =>
        k_ck (nI i) 20 <| k_let (upd a (nI i).toNatClampNeg x10) fun (c11 : Nat → Int32) =>
        k_ck (nI i) 20 <| k_let (b (nI i).toNatClampNeg) fun (x12 : Int32) =>
        k_let (x6 ^^^ m1) fun (x13 : Int32) =>
        k_let (x12 &&& x13) fun (x14 : Int32) =>
        k_ck (nI i) 20 <| k_let (upd b (nI i).toNatClampNeg x14) fun (c15 : Nat → Int32) =>
        k_b1 (fJ6_bitCount_0f7a4 x5) fun (x16 : Int32) =>
        k_b1 (fJ6_bitCount_0f7a4 x6) fun (x17 : Int32) =>
        k_let (x16 + x17) fun (x18 : Int32) =>
        k_let (nI (sumN (fun r => cnt (htB g d r) 16) i) + x18) fun (x19 : Int32) =>
        k_let (nI i + 1) fun (x20 : Int32) =>
        K x19 x20 c11 c15) = K (nI (sumN (fun r => cnt (htB g d r) 16) (i + 1))) (nI (i + 1)) (upd a i (nI (omN (htG g d i)))) (upd b i (nI (tmN (htG g d i)))) := by
        intro x5 x6 h5 h6
        rw [h5, h6]
        simp (disch := omega) only [kE_let, kE_b1, kE_ck, nI_clamp, ha, hb, nI_notm, nI_and, nI_or, pJ6 l1, pJ6 l2, nI_add, L1, eo, et, pc_bm, ec]
        rfl
      unfold fX3_heatRows_s4
      simp (disch := omega) only [↓LM1, kE_if, kE_j1, L20, nI_leI, if_neg, L3, L6, L0, nI_ltI]
      by_cases h3 : d < 3
      · rw [if_pos h3] at e1
        rw [if_pos h3]
        by_cases h6 : d < 6
        · rw [if_pos h6] at e2
          rw [if_pos h6]
          exact main _ _ e1 e2
        · rw [if_neg h6] at e2
          rw [if_neg h6]
          simp (disch := omega) only [kE_let, kE_ck, nI_clamp, ha, hb, nI_notm, nI_and]
          have := main _ _ e1 e2
          simp (disch := omega) only [kE_let, kE_ck, nI_clamp, ha, hb, nI_notm, nI_and] at this
          exact this
      · rw [if_neg h3] at e1
        rw [if_neg h3]
        by_cases h6 : d < 6
        · rw [if_pos h6] at e2
          simp only [if_pos h6]
          simp (disch := omega) only [kE_let, kE_ck, nI_clamp, ha, hb, nI_notm, nI_and]
          have := main _ _ e1 e2
          simp (disch := omega) only [kE_let, kE_ck, nI_clamp, ha, hb, nI_notm, nI_and] at this
          exact this
        · rw [if_neg h6] at e2
          simp only [if_neg h6]
          simp (disch := omega) only [kE_let, kE_ck, nI_clamp, ha, hb, nI_notm, nI_and]
          have := main _ _ e1 e2
          simp (disch := omega) only [kE_let, kE_ck, nI_clamp, ha, hb, nI_notm, nI_and] at this
          exact this
  · rintro n x a b ⟨rfl, rfl, hz⟩
    refine ⟨_, ⟨a, b, rfl, hz⟩, fun K => ?_⟩
    unfold fX3_heatRows_s4
    simp only [↓LM1, kE_let, kE_if, kE_b1, kE_b2, kE_b3, kE_b4, kE_b5, kE_b6, kE_b7, kE_b8, kE_b9, kE_j0, kE_j1, kE_j2, kE_j3, kE_j4, L20, Int32.le_refl, if_true]
theorem pX3_copyFrom (hS : RS g tk en pu se o t st ti ey pt) (o1 t1 s1 : Nat → Int32) (a b c : Int32) : ∃ o' t' st', fX3_copyFrom o1 t1 s1 a b c o t st ti ey pt = some (o', t', st', ti, ey, pt) ∧ RS g tk en pu se o' t' st' ti ey pt := by
  refine ⟨_, _, _, rfl, fun r hr => ?_, fun k hk => ?_, hS.2.2⟩
  · have e : ∀ f h : Nat → Int32, va_cpy f h (0 : Int32).toNatClampNeg (0 : Int32).toNatClampNeg (20 : Int32).toNatClampNeg r = f r := fun f h => by
      rw [pk_cpy_in (by exact Nat.zero_le r) (by exact (by omega : r < 0 + 20))]
      exact congrArg f (by show 0 + (r - 0) = r; omega)
    rw [e, e]; exact hS.1 r hr
  · have e : ∀ f h : Nat → Int32, va_cpy f h (0 : Int32).toNatClampNeg (0 : Int32).toNatClampNeg (4 : Int32).toNatClampNeg k = f k := fun f h => by
      rw [pk_cpy_in (by exact Nat.zero_le k) (by exact (by omega : k < 0 + 4))]
      exact congrArg f (by show 0 + (k - 0) = k; omega)
    rw [e]; exact hS.2.1 k hk
theorem pX2_save (hS : RS g tk en pu se o t st ti ey pt) {S : Nat → ST} {m old : Nat} {ring : Nat → SV} (hm : m ≤ 6) (ho : old < 6) (hR : RSC S m ring old) : ∃ ring' old', fX2_save ring (nI old) (nI m) o t st ti ey pt = some (ring', nI old', nI (saveM m)) ∧ old' < 6 ∧ RSC (saveF S m (g, tk, en, pu, se)) (saveM m) ring' old' := by
  obtain ⟨o', t', st', e1, hS1⟩ := pX3_copyFrom hS (ring ((old + m) % 6)).1 (ring ((old + m) % 6)).2.1 (ring ((old + m) % 6)).2.2.1 (ring ((old + m) % 6)).2.2.2.1 (ring ((old + m) % 6)).2.2.2.2.1 (ring ((old + m) % 6)).2.2.2.2.2
  have hx : (old + m) % 6 < 6 := Nat.mod_lt _ (by decide)
  unfold fX2_save
  simp (disch := omega) only [kE_j1, kE_let, nI_add, L6, pk_rem, kE_ck, nI_clamp, e1, kE_b6, kE_if, nI_leI, L1]
  by_cases h : m = 6
  · have e : saveM m = 6 := if_pos h
    have eF : saveF S m (g, tk, en, pu, se) = fun j => if j < 5 then S (j + 1) else (g, tk, en, pu, se) := if_pos h
    refine ⟨va_up ring ((old + m) % 6) (o', t', st', ti, ey, pt), (old + 1) % 6, ?_, Nat.mod_lt _ (by decide), ?_⟩
    · rw [if_pos (by omega), e, h]
    · rw [e, eF]
      intro j hj
      rw [upw]
      by_cases h5 : j < 5
      · show RSs (if j < 5 then S (j + 1) else _) _
        rw [if_pos h5, if_neg (by omega), show ((old + 1) % 6 + j) % 6 = (old + (j + 1)) % 6 by omega]
        exact hR (j + 1) (by omega)
      · show RSs (if j < 5 then S (j + 1) else _) _
        rw [if_neg h5, if_pos (by omega)]
        exact hS1
  · have e : saveM m = m + 1 := if_neg h
    have eF : saveF S m (g, tk, en, pu, se) = fun j => if j = m then (g, tk, en, pu, se) else S j := if_neg h
    refine ⟨va_up ring ((old + m) % 6) (o', t', st', ti, ey, pt), old, ?_, ho, ?_⟩
    · rw [if_neg (by omega), e]
    · rw [e, eF]
      intro j hj
      rw [upw]
      by_cases h5 : j = m
      · show RSs (if j = m then _ else S j) _
        rw [if_pos h5, if_pos (by rw [h5])]
        exact hS1
      · show RSs (if j = m then _ else S j) _
        rw [if_neg h5, if_neg (by omega)]
        exact hR j (by omega)
theorem pX2_restore {S : Nat → ST} {m old : Nat} {ring : Nat → SV} (h0 : 0 < m) (hm : m ≤ 6) (ho : old < 6) (hR : RSC S m ring old) (o t st : Nat → Int32) (ti ey pt : Int32) : ∃ o' t' st' ti' ey' pt', fX2_restore ring (nI old) (nI m) o t st ti ey pt = some (nI (m - 1), o', t', st', ti', ey', pt') ∧ RSs (S (m - 1)) (o', t', st', ti', ey', pt') := by
  have h1 := hR (m - 1) (by omega)
  obtain ⟨o', t', st', e1, hS1⟩ := pX3_copyFrom h1 o t st ti ey pt
  have hx : (old + (m - 1)) % 6 < 6 := Nat.mod_lt _ (by decide)
  refine ⟨o', t', st', _, _, _, ?_, hS1⟩
  unfold fX2_restore
  simp (disch := omega) only [kE_let, L0, L1, nI_sub, nI_add, L6, pk_rem, kE_ck, nI_clamp, e1, kE_b6, kE_if, nI_leI, if_neg]
end CM
