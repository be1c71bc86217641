/-! copies, saved states, what would be, by the model -/
abbrev ST : Type := (Nat → Nat → Nat) × Nat × Int32 × Int32 × (Nat → Nat)
def RZs (s : ST) (z : Nat → Int32) : Prop := RZ s.1 s.2.1 s.2.2.1 s.2.2.2.1 s.2.2.2.2 z
def WFs (s : ST) : Prop := WF s.1 s.2.1 s.2.2.2.2
def cpN (A B : Nat → Int32) (b n : Nat) : Nat → Int32 := fun k => if b ≤ k ∧ k < b + n then A (k - b) else B k
theorem cpN_s (A B : Nat → Int32) (b i : Nat) : upd (cpN A B b i) (b + i) (A i) = cpN A B b (i + 1) := by
  funext k
  rw [upd_z]
  unfold cpN
  by_cases h : k = b + i
  · rw [if_pos h, if_pos ⟨by omega, by omega⟩, show k - b = i by omega]
  · rw [if_neg h]
    by_cases h2 : b ≤ k ∧ k < b + i
    · rw [if_pos h2, if_pos ⟨h2.1, by omega⟩]
    · rw [if_neg h2, if_neg (fun q => h2 ⟨q.1, by omega⟩)]
theorem cpN_0 (A B : Nat → Int32) (b : Nat) : cpN A B b 0 = B := by
  funext k
  unfold cpN
  rw [if_neg (by omega)]
def shN (s0 : Nat → Int32) (n : Nat) : Nat → Int32 := fun k => if k < n then s0 (k + 327) else s0 k
theorem shN_s (s0 : Nat → Int32) (i : Nat) : upd (shN s0 i) i (s0 (i + 327)) = shN s0 (i + 1) := by
  funext k
  rw [upd_z]
  unfold shN
  by_cases h : k = i
  · rw [if_pos h, if_pos (by omega), h]
  · rw [if_neg h]
    by_cases h2 : k < i
    · rw [if_pos h2, if_pos (by omega)]
    · rw [if_neg h2, if_neg (by omega)]
def saveF (S : Nat → ST) (m : Nat) (s : ST) : Nat → ST := if m = 6 then fun j => if j < 5 then S (j + 1) else s else fun j => if j = m then s else S j
def saveM (m : Nat) : Nat := if m = 6 then 6 else m + 1
def RSZ (S : Nat → ST) (m : Nat) (sv : Nat → Int32) : Prop := ∀ j, j < m → RZs (S j) (fun k => sv (327 * j + k))
theorem saveM_le {m : Nat} (h : m ≤ 6) : saveM m ≤ 6 := by unfold saveM; split <;> omega
section SZ
variable {g : Nat → Nat → Nat} {tk : Nat} {en pu : Int32} {se : Nat → Nat} {z : Nat → Int32}
theorem pX5_putAside (z c : Nat → Int32) : fX5_putAside z c = some (cpN z c 0 327) := by
  unfold fX5_putAside
  rw [L0]
  refine kE_l2 327 5000 nI (fun i => cpN z c 0 i) (fun i K hi => ?_) (fun K => ?_) (by decide) |> fun h => (by rw [cpN_0] at h; exact h)
  · unfold fX5_putAside_s2
    simp (disch := omega) only [↓LM1, kE_let, kE_if, kE_b1, kE_b2, kE_b3, kE_b4, kE_b5, kE_b6, kE_b7, kE_b8, kE_b9, kE_j0, kE_j1, kE_j2, kE_j3, kE_j4, L327, nI_leI, if_neg, kE_ck, nI_clamp, L1, nI_add]
    have := cpN_s z c 0 i
    rw [Nat.zero_add] at this
    rw [this]
  · unfold fX5_putAside_s2
    simp only [↓LM1, kE_let, kE_if, kE_b1, kE_b2, kE_b3, kE_b4, kE_b5, kE_b6, kE_b7, kE_b8, kE_b9, kE_j0, kE_j1, kE_j2, kE_j3, kE_j4, L327, Int32.le_refl, if_true]
theorem pX5_bringBack (z c : Nat → Int32) : fX5_bringBack z c = some (cpN c z 0 327) := by
  unfold fX5_bringBack
  rw [L0]
  refine kE_l2 327 5000 nI (fun i => cpN c z 0 i) (fun i K hi => ?_) (fun K => ?_) (by decide) |> fun h => (by rw [cpN_0] at h; exact h)
  · unfold fX5_bringBack_s2
    simp (disch := omega) only [↓LM1, kE_let, kE_if, kE_b1, kE_b2, kE_b3, kE_b4, kE_b5, kE_b6, kE_b7, kE_b8, kE_b9, kE_j0, kE_j1, kE_j2, kE_j3, kE_j4, L327, nI_leI, if_neg, kE_ck, nI_clamp, L1, nI_add]
    have := cpN_s c z 0 i
    rw [Nat.zero_add] at this
    rw [this]
  · unfold fX5_bringBack_s2
    simp only [↓LM1, kE_let, kE_if, kE_b1, kE_b2, kE_b3, kE_b4, kE_b5, kE_b6, kE_b7, kE_b8, kE_b9, kE_j0, kE_j1, kE_j2, kE_j3, kE_j4, L327, Int32.le_refl, if_true]
theorem pX5_save (z sv : Nat → Int32) {m : Nat} (hm : m ≤ 6) : fX5_save z sv (nI m) = some (cpN z (if m = 6 then shN sv 1635 else sv) (327 * (saveM m - 1)) 327, nI (saveM m)) := by
  have main : ∀ (c : Nat → Int32) (q : Nat), q < 6 → k_l2 (fX5_save_s52 (fun c3 => k_let (nI q + 1) fun x4 => some (c3, x4)) (nI q) z) 5000 0 c = some (cpN z c (327 * q) 327, nI (q + 1)) := by
    intro c q hq
    rw [L0]
    refine kE_l2 327 5000 nI (fun i => cpN z c (327 * q) i) (fun i K hi => ?_) (fun K => ?_) (by decide) |> fun h => (by rw [cpN_0] at h; exact h)
    · unfold fX5_save_s52
      simp (disch := omega) only [↓LM1, kE_let, kE_if, kE_b1, kE_b2, kE_b3, kE_b4, kE_b5, kE_b6, kE_b7, kE_b8, kE_b9, kE_j0, kE_j1, kE_j2, kE_j3, kE_j4, L327, nI_leI, if_neg, pk_mul, nI_add, kE_ck, nI_clamp, L1]
      rw [show q * 327 + i = 327 * q + i by omega, cpN_s]
    · unfold fX5_save_s52
      simp only [↓LM1, kE_let, kE_if, kE_b1, kE_b2, kE_b3, kE_b4, kE_b5, kE_b6, kE_b7, kE_b8, kE_b9, kE_j0, kE_j1, kE_j2, kE_j3, kE_j4, L327, Int32.le_refl, if_true, L1, nI_add]
  have shift : ∀ K40 : (Nat → Int32) → Option ((Nat → Int32) × Int32), k_l2 (fX5_save_s11 K40) 5000 0 sv = K40 (shN sv 1635) := by
    intro K40
    rw [L0]
    refine kE_l2 1635 5000 nI (fun i => shN sv i) (fun i K hi => ?_) (fun K => ?_) (by decide) |> fun h => (by rw [show shN sv 0 = sv from by funext k; unfold shN; rw [if_neg (by omega)]] at h; exact h)
    · unfold fX5_save_s11
      simp (disch := omega) only [↓LM1, kE_let, kE_if, kE_b1, kE_b2, kE_b3, kE_b4, kE_b5, kE_b6, kE_b7, kE_b8, kE_b9, kE_j0, kE_j1, kE_j2, kE_j3, kE_j4, L1635, L327, nI_leI, if_neg, nI_add, kE_ck, nI_clamp, L1]
      rw [show shN sv i (i + 327) = sv (i + 327) by unfold shN; rw [if_neg (by omega)], shN_s]
    · unfold fX5_save_s11
      simp only [↓LM1, kE_let, kE_if, kE_b1, kE_b2, kE_b3, kE_b4, kE_b5, kE_b6, kE_b7, kE_b8, kE_b9, kE_j0, kE_j1, kE_j2, kE_j3, kE_j4, L1635, Int32.le_refl, if_true]
  unfold fX5_save
  rw [kE_j2, kE_if, L6]
  by_cases h : m = 6
  · rw [if_pos (by rw [h]), kE_j1, shift, h, kE_let]
    dsimp only
    rw [kE_j1, L1, nI_sub (by decide)]
    have := main (shN sv 1635) 5 (by decide)
    rw [L1] at this
    exact this
  · rw [if_neg (by rw [nI_eq (by omega) (by decide)]; exact h), if_neg h]
    dsimp only
    rw [kE_j1]
    have := main sv m (by omega)
    rw [this]
    unfold saveM
    rw [if_neg h]; rfl
theorem pX5_saveR (hZ : RZ g tk en pu se z) {S : Nat → ST} {m : Nat} {sv : Nat → Int32} (hm : m ≤ 6) (hS : RSZ S m sv) : RSZ (saveF S m (g, tk, en, pu, se)) (saveM m) (cpN z (if m = 6 then shN sv 1635 else sv) (327 * (saveM m - 1)) 327) := by
  intro j hj
  by_cases h : m = 6
  · have e : saveM m = 6 := if_pos h
    have eF : saveF S m (g, tk, en, pu, se) = fun j => if j < 5 then S (j + 1) else (g, tk, en, pu, se) := if_pos h
    rw [e] at hj
    rw [e, eF, if_pos h]
    by_cases h5 : j < 5
    · show RZs (if j < 5 then S (j + 1) else _) _
      rw [if_pos h5]
      refine RZ.same (hS (j + 1) (by omega)) (fun k hk => ?_)
      unfold cpN shN
      rw [if_neg (by omega), if_pos (by omega), show 327 * j + k + 327 = 327 * (j + 1) + k by omega]
    · show RZs (if j < 5 then S (j + 1) else _) _
      rw [if_neg h5]
      refine RZ.same hZ (fun k hk => ?_)
      unfold cpN
      rw [if_pos ⟨by omega, by omega⟩, show 327 * j + k - 327 * (6 - 1) = k by omega]
  · have e : saveM m = m + 1 := if_neg h
    have eF : saveF S m (g, tk, en, pu, se) = fun j => if j = m then (g, tk, en, pu, se) else S j := if_neg h
    rw [e] at hj
    rw [e, eF, if_neg h]
    by_cases h5 : j = m
    · show RZs (if j = m then _ else S j) _
      rw [if_pos h5]
      refine RZ.same hZ (fun k hk => ?_)
      unfold cpN
      rw [if_pos ⟨by omega, by omega⟩, show 327 * j + k - 327 * (m + 1 - 1) = k by rw [h5]; omega]
    · show RZs (if j = m then _ else S j) _
      rw [if_neg h5]
      refine RZ.same (hS j (by omega)) (fun k hk => ?_)
      unfold cpN
      rw [if_neg (by omega)]
theorem pX5_undo0 (th : Int32) (z sv : Nat → Int32) : fX5_undo th z sv (nI 0) = some (0, 1, z, nI 0) := by
  unfold fX5_undo
  simp (disch := omega) only [↓LM1, kE_let, kE_if, kE_b1, kE_b2, kE_b3, kE_b4, kE_b5, kE_b6, kE_b7, kE_b8, kE_b9, kE_j0, kE_j1, kE_j2, kE_j3, kE_j4, L0, if_pos, L1, nI_leI, if_neg]
  rw [if_pos trivial]
theorem pX5_undoS (th : Int32) (z sv : Nat → Int32) {m : Nat} (h0 : 0 < m) (hm : m ≤ 6) : fX5_undo th z sv (nI m) = some (nI (m - 1), 0, cpN (fun k => sv (327 * (m - 1) + k)) z 0 327, nI (m - 1)) := by
  unfold fX5_undo
  simp (disch := omega) only [↓LM1, kE_let, kE_if, kE_b1, kE_b2, kE_b3, kE_b4, kE_b5, kE_b6, kE_b7, kE_b8, kE_b9, kE_j0, kE_j1, kE_j2, kE_j3, kE_j4, L0, nI_eq, if_neg, Int32.le_refl, if_true, L1, nI_sub]
  refine kE_l2 327 5000 nI (fun i => cpN (fun k => sv (327 * (m - 1) + k)) z 0 i) (fun i K hi => ?_) (fun K => ?_) (by decide) |> fun h => (by rw [cpN_0] at h; exact h)
  · unfold fX5_undo_s37
    simp (disch := omega) only [↓LM1, kE_let, kE_if, kE_b1, kE_b2, kE_b3, kE_b4, kE_b5, kE_b6, kE_b7, kE_b8, kE_b9, kE_j0, kE_j1, kE_j2, kE_j3, kE_j4, L327, nI_leI, if_neg, pk_mul, nI_add, kE_ck, nI_clamp, L1]
    have := cpN_s (fun k => sv (327 * (m - 1) + k)) z 0 i
    rw [Nat.zero_add] at this
    rw [show (m - 1) * 327 + i = 327 * (m - 1) + i by omega, this]
  · unfold fX5_undo_s37
    simp only [↓LM1, kE_let, kE_if, kE_b1, kE_b2, kE_b3, kE_b4, kE_b5, kE_b6, kE_b7, kE_b8, kE_b9, kE_j0, kE_j1, kE_j2, kE_j3, kE_j4, L327, Int32.le_refl, if_true]
theorem pX5_undoR {S : Nat → ST} {m : Nat} {sv : Nat → Int32} (h0 : 0 < m) (hS : RSZ S m sv) : RZs (S (m - 1)) (cpN (fun k => sv (327 * (m - 1) + k)) z 0 327) := by
  refine RZ.same (hS (m - 1) (by omega)) (fun k hk => ?_)
  unfold cpN
  rw [if_pos ⟨by omega, by omega⟩, Nat.sub_zero]
theorem cpN_back (hZ : RZ g tk en pu se z) (c d : Nat → Int32) : RZ g tk en pu se (cpN (cpN z c 0 327) d 0 327) := by
  refine hZ.same (fun k hk => ?_)
  unfold cpN
  rw [if_pos ⟨by omega, by omega⟩, if_pos ⟨by omega, by omega⟩]; rfl
theorem nextN_or (g : Nat → Nat → Nat) (tk : Nat) (th : Bool) : nextN g tk th = m1 ∨ (nxtN (mkN g tk th) 20 < 20 ∧ ¬ 2 ≤ g (nxtN (mkN g tk th) 20) 15 ∧ nextN g tk th = nI (nxtN (mkN g tk th) 20)) := by
  unfold nextN
  by_cases h : nxtN (mkN g tk th) 20 = 20 ∨ 2 ≤ g (nxtN (mkN g tk th) 20) 15
  · rw [if_pos h]; exact Or.inl rfl
  · rw [if_neg h]
    have := nxtN_le (mkN g tk th) 20
    exact Or.inr ⟨by omega, fun q => h (Or.inr q), rfl⟩
def wpW (g : Nat → Nat → Nat) (tk : Nat) (en : Int32) (se : Nat → Nat) (k v : Nat) : (Nat → Nat → Nat) × Int32 × Nat := wrN g tk se (nxtN (mkN g tk (decide (se 0 = 1))) 20) k v en
def wpM (g : Nat → Nat → Nat) (tk : Nat) (en : Int32) (se : Nat → Nat) (k v : Nat) : (Nat → Nat → Nat) × Int32 × Nat := mk1 (wpW g tk en se k v) tk se (nxtN (mkN g tk (decide (se 0 = 1))) 20) k
def wpN (g : Nat → Nat → Nat) (tk : Nat) (en : Int32) (se : Nat → Nat) (k v what : Nat) : Int32 := if nextN g tk (decide (se 0 = 1)) = m1 then m1 else
  if what = 0 then nI (wpW g tk en se k v).2.2 else if what = 1 then nI (kd (mkN (wpM g tk en se k v).1 tk (decide (se 0 = 1)) (nxtN (mkN g tk (decide (se 0 = 1))) 20))) else if what = 2 then (wpM g tk en se k v).2.1 - en else if what = 3 then valN (wpM g tk en se k v).1 tk (decide (se 0 = 1)) k else nI (wpM g tk en se k v).2.2
theorem wrN_le {g : Nat → Nat → Nat} {tk : Nat} {se : Nat → Nat} (hw : WF g tk se) (r k v : Nat) (en : Int32) : (∀ r' f', (wrN g tk se r k v en).1 r' f' ≤ 3) ∧ (wrN g tk se r k v en).2.2 ≤ 3 :=
  wrS_le (tk := tk) (se := se) (r := r) (W := wnt k v) (k := k) (v := v) hw.2.2.2.2.1 2 (wr1 g tk se r (wnt k v) en) (blP_le hw.1 (CW_le (tk := tk) (th := decide (se 0 = 1)) (r := r) (W := wnt k v) (tries := 0) hw.1 hw.2.2.2.2.1) 16)
theorem mk1_le {w : (Nat → Nat → Nat) × Int32 × Nat} {tk : Nat} {se : Nat → Nat} (hg : ∀ r f, w.1 r f ≤ 3) (hs : se 1 ≤ 3) (r k : Nat) : ∀ r' f', (mk1 w tk se r k).1 r' f' ≤ 3 := by
  unfold mk1
  split
  · exact mkG_le hg hs 20
  · exact hg
theorem pX5_wouldPut (hw : WF g tk se) (hZ : RZ g tk en pu se z) {k v what : Nat} (sp : Nat → Int32) (mb : Int32) (hk : k < 16) (hv : v < 64) (hq : what < 5) : ∃ z' sp' mb', fX5_wouldPut z sp mb (nI k) (nI v) (nI what) = some (wpN g tk en se k v what, z', sp', mb') ∧ RZ g tk en pu se z' := by
  unfold fX5_wouldPut
  simp only [kE_b1, pX5_nextRow hw hZ, kE_if, ↓LM1]
  unfold wpN
  rcases nextN_or g tk (decide (se 0 = 1)) with h | ⟨h1, h2, h3⟩
  · rw [if_pos h, if_pos h]; exact ⟨z, sp, mb, rfl, hZ⟩
  · have hne : ¬ nextN g tk (decide (se 0 = 1)) = m1 := by rw [h3]; exact nI_nm1 (by omega)
    rw [if_neg hne, if_neg hne, h3]
    obtain ⟨z1, e1, hz1⟩ := pX5_putInto hw hZ mb h1 hk hv
    have hw1 : WF (mk1 (wrN g tk se (nxtN (mkN g tk (decide (se 0 = 1))) 20) k v en) tk se (nxtN (mkN g tk (decide (se 0 = 1))) 20) k).1 tk se := hw.wG (mk1_le (wrN_le hw _ _ _ _).1 hw.2.2.2.2.1 _ _)
    refine ⟨cpN (cpN z sp 0 327) z1 0 327, cpN z sp 0 327, nI (mk1 (wrN g tk se (nxtN (mkN g tk (decide (se 0 = 1))) 20) k v en) tk se (nxtN (mkN g tk (decide (se 0 = 1))) 20) k).2.2, ?_, cpN_back hZ _ _⟩
    simp (disch := omega) only [↓LM1, kE_let, kE_if, kE_b1, kE_b2, kE_b3, kE_b4, kE_b5, kE_b6, kE_b7, kE_b8, kE_b9, kE_j0, kE_j1, kE_j2, kE_j3, kE_j4, pX5_putAside, L1, kE_ck, nI_clamp, hZ.2.1, e1, pX5_bringBack, L0, L2, L3, nI_eq, pX5_maskNow hw1 hz1 h1, pX5_kindM, hz1.2.1, pX5_valueNow hw1 hz1 hk]
    by_cases q0 : what = 0
    · rw [if_pos q0, if_pos q0]; rfl
    · rw [if_neg q0, if_neg q0]
      by_cases q1 : what = 1
      · rw [if_pos q1, if_pos q1]; rfl
      · rw [if_neg q1, if_neg q1]
        by_cases q2 : what = 2
        · rw [if_pos q2, if_pos q2]; rfl
        · rw [if_neg q2, if_neg q2]
          by_cases q3 : what = 3
          · rw [if_pos q3, if_pos q3]; rfl
          · rw [if_neg q3, if_neg q3]; rfl
theorem pX5_layBefore (hw : WF g tk se) (hZ : RZ g tk en pu se z) (b : Nat → Int32) : ∃ c, fX5_layBefore z b = some c ∧ (∀ r, r < 20 → c r = nI (kd (mkN g tk (decide (se 0 = 1)) r))) ∧ ∀ k, k < 16 → c (20 + k) = valN g tk (decide (se 0 = 1)) k := by
  unfold fX5_layBefore
  simp only [kE_j1]
  have k2 : ∀ c0 : Nat → Int32, (∀ r, r < 20 → c0 r = nI (kd (mkN g tk (decide (se 0 = 1)) r))) → ∃ q, (∃ c, q = some c ∧ (∀ r, r < 20 → c r = nI (kd (mkN g tk (decide (se 0 = 1)) r))) ∧ ∀ k, k < 16 → c (20 + k) = valN g tk (decide (se 0 = 1)) k) ∧ k_l2 (fX5_layBefore_s30 z) 5000 0 c0 = q := by
    intro c0 h0
    refine kI_l2 (S := fX5_layBefore_s30 z) (fun i x c => x = nI i ∧ (∀ r, r < 20 → c r = nI (kd (mkN g tk (decide (se 0 = 1)) r))) ∧ ∀ k, k < i → c (20 + k) = valN g tk (decide (se 0 = 1)) k) _ 16 5000 ?_ ?_ (by decide) 0 c0 ⟨rfl, h0, fun k hk => absurd hk (Nat.not_lt_zero k)⟩
    · rintro i x c hi ⟨rfl, ha, hb⟩
      refine ⟨nI (i + 1), upd c (20 + i) (valN g tk (decide (se 0 = 1)) i), ⟨rfl, fun r hr => ?_, fun k hk => ?_⟩, fun K => ?_⟩
      · rw [pk_un (by omega)]; exact ha r hr
      · rw [upd_z]
        by_cases e : k = i
        · rw [if_pos (by rw [e]), e]
        · rw [if_neg (by omega)]; exact hb k (by omega)
      · unfold fX5_layBefore_s30
        simp (disch := omega) only [↓LM1, kE_let, kE_if, kE_b1, kE_b2, kE_b3, kE_b4, kE_b5, kE_b6, kE_b7, kE_b8, kE_b9, kE_j0, kE_j1, kE_j2, kE_j3, kE_j4, L16, L20, nI_leI, if_neg, nI_add, pX5_valueNow hw hZ hi, kE_ck, nI_clamp, L1]
    · rintro x c ⟨rfl, ha, hb⟩
      refine ⟨some c, ⟨c, rfl, ha, hb⟩, fun K => ?_⟩
      unfold fX5_layBefore_s30
      simp only [↓LM1, kE_let, kE_if, kE_b1, kE_b2, kE_b3, kE_b4, kE_b5, kE_b6, kE_b7, kE_b8, kE_b9, kE_j0, kE_j1, kE_j2, kE_j3, kE_j4, L16, Int32.le_refl, if_true]
  have k1 := kI_l2 (S := fX5_layBefore_s2 (fun c1 => k_l2 (fX5_layBefore_s30 z) 5000 0 c1) z) (fun i x c => x = nI i ∧ (∀ r, r < i → c r = nI (kd (mkN g tk (decide (se 0 = 1)) r)))) (fun q => ∃ c, q = some c ∧ (∀ r, r < 20 → c r = nI (kd (mkN g tk (decide (se 0 = 1)) r))) ∧ ∀ k, k < 16 → c (20 + k) = valN g tk (decide (se 0 = 1)) k) 20 5000 ?_ ?_ (by decide) 0 b ⟨rfl, fun k hk => absurd hk (Nat.not_lt_zero k)⟩
  · obtain ⟨q, ⟨c, h1, h2⟩, h3⟩ := k1
    exact ⟨c, h3.trans h1, h2⟩
  · rintro i x c hi ⟨rfl, ha⟩
    refine ⟨nI (i + 1), upd c i (nI (kd (mkN g tk (decide (se 0 = 1)) i))), ⟨rfl, fun r hr => ?_⟩, fun K => ?_⟩
    · rw [upd_z]
      by_cases e : r = i
      · rw [if_pos e, e]
      · rw [if_neg e]; exact ha r (by omega)
    · unfold fX5_layBefore_s2
      simp (disch := omega) only [↓LM1, kE_let, kE_if, kE_b1, kE_b2, kE_b3, kE_b4, kE_b5, kE_b6, kE_b7, kE_b8, kE_b9, kE_j0, kE_j1, kE_j2, kE_j3, kE_j4, L20, nI_leI, if_neg, nI_add, pX5_maskNow hw hZ hi, pX5_kindM, kE_ck, nI_clamp, L1]
  · rintro x c ⟨rfl, ha⟩
    obtain ⟨q, hq, e⟩ := k2 c ha
    refine ⟨q, hq, fun K => ?_⟩
    unfold fX5_layBefore_s2
    simp only [↓LM1, kE_let, kE_if, kE_b1, kE_b2, kE_b3, kE_b4, kE_b5, kE_b6, kE_b7, kE_b8, kE_b9, kE_j0, kE_j1, kE_j2, kE_j3, kE_j4, L20, Int32.le_refl, if_true]
    exact e
def whN (g : Nat → Nat → Nat) (tk : Nat) (se : Nat → Nat) (d what : Nat) : Int32 := if what = 0 then nI (sumN (fun r => cnt (htB g d r) 16) 20) else if what = 1 then nI (cnt (fun r => decide (kd (mkN g tk (decide (se 0 = 1)) r) ≠ kd (mkN (htG g d) tk (decide (se 0 = 1)) r))) 20) else nI (cnt (fun k => decide (valN g tk (decide (se 0 = 1)) k ≠ valN (htG g d) tk (decide (se 0 = 1)) k)) 16)
theorem pX5_wouldHeat (hw : WF g tk se) (hZ : RZ g tk en pu se z) {d what : Nat} (sp b : Nat → Int32) (hd : d < 10) (hq : what < 3) : ∃ z' sp' b', fX5_wouldHeat z sp b (nI d) (nI what) = some (whN g tk se d what, z', sp', b') ∧ RZ g tk en pu se z' := by
  obtain ⟨c, ec, hc1, hc2⟩ := pX5_layBefore hw hZ b
  obtain ⟨z1, e1, hz1⟩ := pX5_heatAll hw.1 hZ hd
  have hw1 : WF (htG g d) tk se := hw.wG (htG_le hw.1 d)
  refine ⟨cpN (cpN z sp 0 327) z1 0 327, cpN z sp 0 327, c, ?_, cpN_back hZ _ _⟩
  unfold fX5_wouldHeat whN
  simp only [kE_b1, ec, pX5_putAside, e1, kE_b2, kE_j1]
  rw [L0]
  refine kE_l2 20 5000 (fun i => nI (cnt (fun r => decide (kd (mkN g tk (decide (se 0 = 1)) r) ≠ kd (mkN (htG g d) tk (decide (se 0 = 1)) r))) i)) nI (fun i K hi => ?_) (fun K => ?_) (by decide)
  · unfold fX5_wouldHeat_s20
    have k1 := kd_le (mkN g tk (decide (se 0 = 1)) i)
    have k2 := kd_le (mkN (htG g d) tk (decide (se 0 = 1)) i)
    simp (disch := omega) only [↓LM1, kE_let, kE_if, kE_b1, kE_b2, kE_b3, kE_b4, kE_b5, kE_b6, kE_b7, kE_b8, kE_b9, kE_j0, kE_j1, kE_j2, kE_j3, kE_j4, L20, nI_leI, if_neg, kE_ck, nI_clamp, hc1 i hi, pX5_maskNow hw1 hz1 hi, pX5_kindM, nI_eq, L0, L1, nI_add]
    by_cases h : kd (mkN g tk (decide (se 0 = 1)) i) = kd (mkN (htG g d) tk (decide (se 0 = 1)) i) <;> simp [cnt, h]
  · unfold fX5_wouldHeat_s20
    simp only [kE_if, L20, Int32.le_refl, if_true]
    refine kE_l2 16 5000 (fun i => nI (cnt (fun k => decide (valN g tk (decide (se 0 = 1)) k ≠ valN (htG g d) tk (decide (se 0 = 1)) k)) i)) nI (fun i K hi => ?_) (fun K => ?_) (by decide)
    · unfold fX5_wouldHeat_s68
      simp (disch := omega) only [↓LM1, kE_let, kE_if, kE_b1, kE_b2, kE_b3, kE_b4, kE_b5, kE_b6, kE_b7, kE_b8, kE_b9, kE_j0, kE_j1, kE_j2, kE_j3, kE_j4, L16, L20, nI_leI, if_neg, nI_add, kE_ck, nI_clamp, hc2 i hi, pX5_valueNow hw1 hz1 hi, L0, L1]
      by_cases h : valN g tk (decide (se 0 = 1)) i = valN (htG g d) tk (decide (se 0 = 1)) i <;> simp [cnt, h]
    · unfold fX5_wouldHeat_s68
      simp (disch := omega) only [↓LM1, kE_let, kE_if, kE_b1, kE_b2, kE_b3, kE_b4, kE_b5, kE_b6, kE_b7, kE_b8, kE_b9, kE_j0, kE_j1, kE_j2, kE_j3, kE_j4, L16, Int32.le_refl, if_true, pX5_bringBack, nI_eq, L0, L1]
      by_cases q0 : what = 0
      · rw [if_pos q0, if_pos q0]
      · rw [if_neg q0, if_neg q0]
        by_cases q1 : what = 1
        · rw [if_pos q1, if_pos q1]
        · rw [if_neg q1, if_neg q1]
end SZ
