/-! heat, refreshing, copies, saved states, by the model -/
def htB (g : Nat → Nat → Nat) (d r f : Nat) : Bool := decide ((g r f = 1 ∧ 3 ≤ d) ∨ (g r f = 2 ∧ 6 ≤ d))
def htG (g : Nat → Nat → Nat) (d : Nat) : Nat → Nat → Nat := fun r f => if htB g d r f = true then g r f - 1 else g r f
def htL (g : Nat → Nat → Nat) (d n : Nat) : Nat → Nat → Nat := fun r f => if 16 * r + f < n ∧ f < 16 ∧ htB g d r f = true then g r f - 1 else g r f
theorem htL_le {g : Nat → Nat → Nat} (hg : ∀ r f, g r f ≤ 3) (d n : Nat) : ∀ r f, htL g d n r f ≤ 3 := by
  intro r f
  unfold htL
  have := hg r f
  split <;> omega
theorem htG_le {g : Nat → Nat → Nat} (hg : ∀ r f, g r f ≤ 3) (d : Nat) : ∀ r f, htG g d r f ≤ 3 := by
  intro r f
  unfold htG
  have := hg r f
  split <;> omega
def rfP (g : Nat → Nat → Nat) (r f : Nat) : Bool := decide (2 ≤ g r f)
theorem cnt_grid (H : Nat → Nat → Bool) (n : Nat) : cnt (fun j => H (j / 16) (j % 16)) (16 * n) = sumN (fun r => cnt (H r) 16) n := by
  induction n with
  | zero => rfl
  | succ n ih =>
    rw [Nat.mul_succ, cnt_add, ih]
    show sumN (fun r => cnt (H r) 16) n + _ = sumN (fun r => cnt (H r) 16) n + cnt (H n) 16
    congr 1
    refine cnt_congr (fun j hj => ?_)
    rw [show (16 * n + j) / 16 = n by omega, show (16 * n + j) % 16 = j by omega]
theorem n10 : ¬ nI 1 = nI 0 := by decide
section HZ
variable {g : Nat → Nat → Nat} {tk : Nat} {en pu : Int32} {se : Nat → Nat} {z : Nat → Int32}
theorem RZ.congr {g' : Nat → Nat → Nat} (hZ : RZ g tk en pu se z) (h : ∀ r f, r < 20 → f < 16 → g' r f = g r f) : RZ g' tk en pu se z := ⟨hZ.1, hZ.2.1, hZ.2.2.1, hZ.2.2.2.1, fun r f hr hf => by rw [h r f hr hf]; exact hZ.2.2.2.2 r f hr hf⟩
theorem RZ.same {z' : Nat → Int32} (hZ : RZ g tk en pu se z) (h : ∀ k, k < 327 → z' k = z k) : RZ g tk en pu se z' := by
  refine ⟨?_, ?_, ?_, fun k hk => ?_, fun r f hr hf => ?_⟩
  · rw [h 0 (by omega)]; exact hZ.1
  · rw [h 1 (by omega)]; exact hZ.2.1
  · rw [h 2 (by omega)]; exact hZ.2.2.1
  · rw [h _ (by omega)]; exact hZ.2.2.2.1 k hk
  · rw [h _ (by omega)]; exact hZ.2.2.2.2 r f hr hf
theorem pX5_refreshAll (hw : WF g tk se) (hZ : RZ g tk en pu se z) {r : Nat} (hr : r < 20) : ∃ z', fX5_refreshAll z (nI r) = some (nI (cnt (fun f => decide (g r f = 2)) 16), z') ∧ RZ (blP g r (rfP g r) (fun _ => 3) 16) tk (enS (rfP g r) (fun _ => 3) en 16) pu se z' := by
  have key := kI_l3 (S := fX5_refreshAll_s4 (nI r)) (fun i n x c => x = nI i ∧ n = nI (cnt (fun f => decide (g r f = 2)) i) ∧ RZ (blP g r (rfP g r) (fun _ => 3) i) tk (enS (rfP g r) (fun _ => 3) en i) pu se c) (fun q => ∃ z', q = some (nI (cnt (fun f => decide (g r f = 2)) 16), z') ∧ RZ (blP g r (rfP g r) (fun _ => 3) 16) tk (enS (rfP g r) (fun _ => 3) en 16) pu se z') 16 5000 ?_ ?_ (by decide) (nI 0) 0 z ⟨rfl, rfl, by rw [blP_0]; exact hZ⟩
  · obtain ⟨q, ⟨z', h1, h2⟩, h3⟩ := key
    unfold fX5_refreshAll
    rw [L0]
    exact ⟨z', h3.trans h1, h2⟩
  · rintro i n x c hi ⟨rfl, rfl, hz⟩
    have hg' := blP_le (r := r) (P := rfP g r) (C := fun _ => 3) hw.1 (fun _ _ => Nat.le_refl 3) i
    have e5 := blP_row g r (rfP g r) (fun _ => 3) i i (Nat.le_refl i)
    have h2t := hw.2.1
    have h3 := hw.1 r i
    rw [blP_s, enS_s]
    by_cases hb : 2 ≤ g r i
    · have hP : rfP g r i = true := by unfold rfP; simp [hb]
      rw [if_pos hP, if_pos hP]
      obtain ⟨z', hz1, hz2⟩ := pX5_blowOne hz hr hi (hg' r i) (c := 3) (by omega)
      refine ⟨nI (cnt (fun f => decide (g r f = 2)) (i + 1)), nI (i + 1), z', ⟨rfl, rfl, hz2⟩, fun K => ?_⟩
      unfold fX5_refreshAll_s4
      simp (disch := omega) only [↓LM1, kE_let, kE_if, kE_b1, kE_b2, kE_b3, kE_b4, kE_b5, kE_b6, kE_b7, kE_b8, kE_b9, kE_j0, kE_j1, kE_j2, kE_j3, kE_j4, L16, nI_leI, if_neg, L0, kE_ck, nI_clamp, hz.1, pX5_thrice hg' hz hr hi, e5, L1, bI_eq1, pX5_strength hz hr hi, L3, hz1, nI_add]
      rw [if_pos hb]
      by_cases h4 : 3 ≤ g r i
      · rw [if_pos h4]; simp [cnt, show g r i ≠ 2 by omega]
      · rw [if_neg h4]; simp [cnt, show g r i = 2 by omega]
    · have hP : ¬ rfP g r i = true := by unfold rfP; simp; omega
      rw [if_neg hP, if_neg hP]
      refine ⟨nI (cnt (fun f => decide (g r f = 2)) (i + 1)), nI (i + 1), c, ⟨rfl, rfl, hz⟩, fun K => ?_⟩
      unfold fX5_refreshAll_s4
      simp (disch := omega) only [↓LM1, kE_let, kE_if, kE_b1, kE_b2, kE_b3, kE_b4, kE_b5, kE_b6, kE_b7, kE_b8, kE_b9, kE_j0, kE_j1, kE_j2, kE_j3, kE_j4, L16, nI_leI, if_neg, L0, kE_ck, nI_clamp, hz.1, pX5_thrice hg' hz hr hi, e5, L1, bI_eq1, nI_add]
      simp [cnt, show g r i ≠ 2 by omega]
  · rintro n x c ⟨rfl, rfl, hz⟩
    refine ⟨_, ⟨c, rfl, hz⟩, fun K => ?_⟩
    unfold fX5_refreshAll_s4
    simp only [↓LM1, kE_let, kE_if, kE_b1, kE_b2, kE_b3, kE_b4, kE_b5, kE_b6, kE_b7, kE_b8, kE_b9, kE_j0, kE_j1, kE_j2, kE_j3, kE_j4, L16, Int32.le_refl, if_true]
theorem pX5_heatAll (hg : ∀ r f, g r f ≤ 3) (hZ : RZ g tk en pu se z) {d : Nat} (hd : d < 10) : ∃ z', fX5_heatAll z (nI d) = some (nI (sumN (fun r => cnt (htB g d r) 16) 20), z') ∧ RZ (htG g d) tk en pu se z' := by
  have key := kI_l3 (S := fX5_heatAll_s5 (nI d)) (fun i n x c => x = nI (7 + i) ∧ n = nI (cnt (fun j => htB g d (j / 16) (j % 16)) i) ∧ RZ (htL g d i) tk en pu se c) (fun q => ∃ z', q = some (nI (cnt (fun j => htB g d (j / 16) (j % 16)) 320), z') ∧ RZ (htL g d 320) tk en pu se z') 320 5000 ?_ ?_ (by decide) (nI 0) (nI 7) z ⟨rfl, rfl, hZ.congr (fun r f hr hf => by unfold htL; rw [if_neg (by omega)])⟩
  · obtain ⟨q, ⟨z', h1, h2⟩, h3⟩ := key
    unfold fX5_heatAll
    rw [L0, L7]
    refine ⟨z', (h3.trans h1).trans ?_, h2.congr (fun r f hr hf => ?_)⟩
    · rw [show (320 : Nat) = 16 * 20 by rfl, cnt_grid]
    · unfold htL htG
      by_cases hb : htB g d r f = true
      · rw [if_pos hb, if_pos ⟨by omega, hf, hb⟩]
      · rw [if_neg hb, if_neg (fun q => hb q.2.2)]
  · rintro i n x c hi ⟨rfl, rfl, hz⟩
    have hr : i / 16 < 20 := by omega
    have hf : i % 16 < 16 := by omega
    have hx : 7 + i = 7 + 16 * (i / 16) + i % 16 := by omega
    have h3 := hg (i / 16) (i % 16)
    have e0 : htL g d i (i / 16) (i % 16) = g (i / 16) (i % 16) := by unfold htL; rw [if_neg (by omega)]
    have ec : c (7 + i) = nI (g (i / 16) (i % 16)) := by rw [hx, hz.2.2.2.2 _ _ hr hf, e0]
    have hcase : ∀ v : Nat, v = htL g d (i + 1) (i / 16) (i % 16) → RZ (htL g d (i + 1)) tk en pu se (upd c (7 + i) (nI v)) := by
      intro v hv
      rw [hx]
      refine (hz.up (v := v) hr hf).congr (fun r f hr' hf' => ?_)
      unfold upG
      by_cases e : r = i / 16 ∧ f = i % 16
      · rw [if_pos e, e.1, e.2, hv]
      · rw [if_neg e]
        unfold htL
        by_cases hb : 16 * r + f < i ∧ f < 16 ∧ htB g d r f = true
        · rw [if_pos hb, if_pos ⟨by omega, hb.2⟩]
        · rw [if_neg hb, if_neg]
          rintro ⟨a, b⟩
          exact hb ⟨by omega, b⟩
    have ev : htL g d (i + 1) (i / 16) (i % 16) = if htB g d (i / 16) (i % 16) = true then g (i / 16) (i % 16) - 1 else g (i / 16) (i % 16) := by
      unfold htL
      by_cases hb : htB g d (i / 16) (i % 16) = true
      · rw [if_pos hb, if_pos ⟨by omega, hf, hb⟩]
      · rw [if_neg hb, if_neg (fun q => hb q.2.2)]
    by_cases hb : htB g d (i / 16) (i % 16) = true
    · refine ⟨nI (cnt (fun j => htB g d (j / 16) (j % 16)) (i + 1)), nI (7 + (i + 1)), upd c (7 + i) (nI (g (i / 16) (i % 16) - 1)), ⟨rfl, rfl, hcase _ (by rw [ev, if_pos hb])⟩, fun K => ?_⟩
      unfold fX5_heatAll_s5
      have hb' := hb
      unfold htB at hb'
      simp at hb'
      have ecnt : cnt (fun j => htB g d (j / 16) (j % 16)) (i + 1) = cnt (fun j => htB g d (j / 16) (j % 16)) i + 1 := by simp [cnt, hb]
      rw [ecnt]
      simp (disch := omega) only [↓LM1, kE_let, kE_if, kE_b1, kE_b2, kE_b3, kE_b4, kE_b5, kE_b6, kE_b7, kE_b8, kE_b9, kE_j0, kE_j1, kE_j2, kE_j3, kE_j4, L327, nI_leI, if_neg, kE_ck, nI_clamp, ec, L1, L2, L3, L6, L0, nI_eq, nI_ltI, nI_add]
      rcases hb' with ⟨a, b⟩ | ⟨a, b⟩
      · simp only [if_pos a, if_pos b, if_neg n10]
        rw [nI_sub (by omega), Nat.add_assoc]
      · simp only [if_neg (show ¬ g (i / 16) (i % 16) = 1 by omega), if_pos a, if_neg (show ¬ d < 6 by omega), if_neg n10]
        rw [nI_sub (by omega), Nat.add_assoc]
    · refine ⟨nI (cnt (fun j => htB g d (j / 16) (j % 16)) (i + 1)), nI (7 + (i + 1)), upd c (7 + i) (nI (g (i / 16) (i % 16))), ⟨rfl, rfl, hcase _ (by rw [ev, if_neg hb])⟩, fun K => ?_⟩
      unfold fX5_heatAll_s5
      have hb' := hb
      unfold htB at hb'
      simp at hb'
      have ecnt : cnt (fun j => htB g d (j / 16) (j % 16)) (i + 1) = cnt (fun j => htB g d (j / 16) (j % 16)) i := by simp [cnt, hb]
      rw [ecnt]
      simp (disch := omega) only [↓LM1, kE_let, kE_if, kE_b1, kE_b2, kE_b3, kE_b4, kE_b5, kE_b6, kE_b7, kE_b8, kE_b9, kE_j0, kE_j1, kE_j2, kE_j3, kE_j4, L327, nI_leI, if_neg, kE_ck, nI_clamp, ec, L1, L2, L3, L6, L0, nI_eq, nI_ltI, nI_add]
      by_cases a : g (i / 16) (i % 16) = 1
      · simp only [if_pos a, if_neg (show ¬ 3 ≤ d by omega), if_neg (show ¬ g (i / 16) (i % 16) = 2 by omega), if_pos (rfl : nI 0 = nI 0)]
        rw [nI_sub (by omega), Nat.add_assoc]; rfl
      · by_cases a2 : g (i / 16) (i % 16) = 2
        · simp only [if_neg a, if_pos a2, if_pos (show d < 6 by omega), if_pos (rfl : nI 0 = nI 0)]
          rw [nI_sub (by omega), Nat.add_assoc]; rfl
        · simp only [if_neg a, if_neg a2, if_pos (rfl : nI 0 = nI 0)]
          rw [nI_sub (by omega), Nat.add_assoc]; rfl
  · rintro n x c ⟨rfl, rfl, hz⟩
    refine ⟨_, ⟨c, rfl, hz⟩, fun K => ?_⟩
    unfold fX5_heatAll_s5
    simp (disch := omega) only [↓LM1, kE_let, kE_if, kE_b1, kE_b2, kE_b3, kE_b4, kE_b5, kE_b6, kE_b7, kE_b8, kE_b9, kE_j0, kE_j1, kE_j2, kE_j3, kE_j4, L327, nI_leI, if_pos]
end HZ
