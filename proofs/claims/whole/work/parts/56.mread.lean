/-! the model's reading of a text as a whole -/
section MR
variable {T : Nat → Nat} {n : Nat} {bf : Nat → Int32}
def oSt (o : Option (Nat × Nat × Nat) × Nat) : Bool × Nat := (o.1.isSome, o.2)
theorem chainK {k : Nat} (hk : k < 5) (a b c : Int32) (G : Int32 → Int32 → Int32 → Int32 → Option ((Nat → Int32) × Int32 × Int32 × Int32 × Int32)) : (if nI k = nI 0 then k_b4 (fX5_number bf (nI n) a b c (nI 0) (nI 15)) G else if nI k = nI 2 then k_b4 (fX5_number bf (nI n) a b c (nI 1) (nI 9)) G else if nI k = nI 3 then k_b4 (fX5_number bf (nI n) a b c (nI 1) (nI 99)) G else k_b4 (fX5_number bf (nI n) a b c (nI 0) (nI 19)) G) = k_b4 (fX5_number bf (nI n) a b c (nI (loK k)) (nI (hiK k))) G := by
  rcases (show k = 0 ∨ k = 1 ∨ k = 2 ∨ k = 3 ∨ k = 4 by omega) with rfl | rfl | rfl | rfl | rfl
  · rw [if_pos rfl]; rfl
  · rw [if_neg (by decide), if_neg (by decide), if_neg (by decide)]; rfl
  · rw [if_neg (by decide), if_pos rfl]; rfl
  · rw [if_neg (by decide), if_neg (by decide), if_pos rfl]; rfl
  · rw [if_neg (by decide), if_neg (by decide), if_neg (by decide)]; rfl
theorem pX5_order (hT : TX T n bf) {q c : Nat} (hq : q ≤ n) (hc : c ≤ 14) (od : Nat → Int32) : ∃ od' sp wr sh, fX5_order bf (nI n) mr0 mb0 od (nI c) (nI q) m1 (nI 0) = some (od', nI (c + 1), sp, wr, sh) ∧ FS n (oSt (odS T n q)) sp wr sh ∧ (∀ k v w s, odS T n q = (some (k, v, w), s) → od' (3 * c) = nI k ∧ od' (3 * c + 1) = nI v ∧ (k = 0 → od' (3 * c + 2) = nI w)) ∧ ∀ i, i < 3 * c → od' i = od i := by
  have hn := hT.1
  obtain ⟨a1, a2, a3, e1, f1⟩ := pX5_kindAt hT hq
  obtain ⟨k1, k2, k3⟩ := kaS_w T hq
  obtain ⟨b1, b2, b3, e2, f2⟩ := pX5_word hT k1 f1
  rw [k2] at f2
  obtain ⟨l1, l2, l3, l4⟩ := loK_le _ k1
  generalize hk : (kaS T n q).1 = k at e1 k1 k3 e2 l3 l4
  have hw := wdS_le T hq
  unfold fX5_order
  simp (disch := omega) only [kE_let, L3, pk_mul, e1, kE_b4, e2, kE_b3, kE_ck, nI_clamp, L1, nI_add, kE_j4, kE_if, L0, L2, show (15 : Int32) = nI 15 by decide, show (9 : Int32) = nI 9 by decide, show (99 : Int32) = nI 99 by decide, show (19 : Int32) = nI 19 by decide, show (58 : Int32) = nI 58 by decide, L63, chainK k1]
  -- the number
  have hnum : ∀ st : Bool × Nat, FS n st b1 b2 b3 → ∃ x c1 c2 c3, fX5_number bf (nI n) b1 b2 b3 (nI (loK k)) (nI (hiK k)) = some (x, c1, c2, c3) ∧ FS n (if st.1 = true then (match numS T n (loK k) (hiK k) st.2 with | none => (false, st.2) | some (_, s) => (true, s)) else st) c1 c2 c3 ∧ ∀ v s, st.1 = true → numS T n (loK k) (hiK k) st.2 = some (v, s) → x = nI v := fun st h => pX5_number hT l3 l4 h
  rcases ew : wdS T n q with ⟨o, s⟩
  rw [ew] at f2 k3 hw
  obtain ⟨x, c1, c2, c3, e3, f3, g3⟩ := hnum _ f2
  rw [e3, kE_b4]
  -- the rest: for the kind 0 a sign and a second number
  have rest : ∃ od' sp wr sh, (if nI k = nI 0 then k_b3 (fX5_takes bf (nI n) c1 c2 c3 (nI 58)) fun (c21 : Int32) (c22 : Int32) (c23 : Int32) => k_b4 (fX5_number bf (nI n) c21 c22 c23 (nI 0) (nI 63)) fun (x25 : Int32) (c26 : Int32) (c27 : Int32) (c28 : Int32) => some (upd (upd (upd od (3 * c) (nI k)) (3 * c + 1) x) (3 * c + 2) x25, nI (c + 1), c26, c27, c28) else some (upd (upd od (3 * c) (nI k)) (3 * c + 1) x, nI (c + 1), c1, c2, c3)) = some (od', nI (c + 1), sp, wr, sh) ∧ FS n (oSt (odS T n q)) sp wr sh ∧ (∀ k v w s, odS T n q = (some (k, v, w), s) → od' (3 * c) = nI k ∧ od' (3 * c + 1) = nI v ∧ (k = 0 → od' (3 * c + 2) = nI w)) ∧ ∀ i, i < 3 * c → od' i = od i := by
    have un2 : ∀ y i, i < 3 * c → upd (upd od (3 * c) (nI k)) (3 * c + 1) y i = od i := fun y i hi => by rw [pk_un (by omega), pk_un (by omega)]
    have un3 : ∀ y z i, i < 3 * c → upd (upd (upd od (3 * c) (nI k)) (3 * c + 1) y) (3 * c + 2) z i = od i := fun y z i hi => by rw [pk_un (by omega)]; exact un2 y i hi
    cases o with
    | none =>
      have eo : odS T n q = (none, s) := by unfold odS; rw [ew]
      rw [eo]
      have f3' : FS n (false, s) c1 c2 c3 := f3
      by_cases h0 : k = 0
      · subst h0
        rw [if_pos rfl]
        obtain ⟨d1, d2, d3, e4, f4⟩ := pX5_takes hT (c := 58) (by decide) f3'
        obtain ⟨y, g1, g2, g3', e5, f5, -⟩ := pX5_number hT (lo := 0) (hi := 63) (by decide) (by decide) f4
        rw [e4, kE_b3, e5, kE_b4]
        exact ⟨_, _, _, _, rfl, f5, fun k v w s h => (by cases h), un3 _ _⟩
      · rw [if_neg (by rw [nI_eq (by omega) (by decide)]; exact h0)]
        exact ⟨_, _, _, _, rfl, f3', fun k v w s h => (by cases h), un2 _⟩
    | some k' =>
      have hk' : k = k' := k3 k' rfl
      subst hk'
      have hs : s ≤ n := hw.1
      have f3' : FS n (match numS T n (loK k) (hiK k) s with | none => (false, s) | some (_, s) => (true, s)) c1 c2 c3 := f3
      rcases e2n : numS T n (loK k) (hiK k) s with _ | ⟨v, s2⟩
      · rw [e2n] at f3'
        have eo : odS T n q = (none, s) := by unfold odS; rw [ew]; simp only [e2n]
        rw [eo]
        by_cases h0 : k = 0
        · subst h0
          rw [if_pos rfl]
          obtain ⟨d1, d2, d3, e4, f4⟩ := pX5_takes hT (c := 58) (by decide) f3'
          obtain ⟨y, g1, g2, g3', e5, f5, -⟩ := pX5_number hT (lo := 0) (hi := 63) (by decide) (by decide) f4
          rw [e4, kE_b3, e5, kE_b4]
          exact ⟨_, _, _, _, rfl, f5, fun k v w s h => (by cases h), un3 _ _⟩
        · rw [if_neg (by rw [nI_eq (by omega) (by decide)]; exact h0)]
          exact ⟨_, _, _, _, rfl, f3', fun k v w s h => (by cases h), un2 _⟩
      · rw [e2n] at f3'
        have hx : x = nI v := g3 v s2 rfl e2n
        have hn2 := numS_le T hs e2n
        by_cases h0 : k = 0
        · subst h0
          rw [if_pos rfl]
          obtain ⟨d1, d2, d3, e4, f4⟩ := pX5_takes hT (c := 58) (by decide) f3'
          obtain ⟨y, g1, g2, g3', e5, f5, h5⟩ := pX5_number hT (lo := 0) (hi := 63) (by decide) (by decide) f4
          rw [e4, kE_b3, e5, kE_b4]
          by_cases hc1 : s2 < n ∧ T s2 = 58
          · have es : stT T n 58 (true, s2) = (true, s2 + 1) := by unfold stT; rw [if_pos rfl, if_pos hc1]
            rw [es] at f5 h5
            rcases e3n : numS T n 0 63 (s2 + 1) with _ | ⟨v2, s3⟩
            · have eo : odS T n q = (none, s2 + 1) := by unfold odS; rw [ew]; simp only [e2n, if_pos hc1, e3n, if_true]
              rw [eo]
              have f5' : FS n (match numS T n 0 63 (s2 + 1) with | none => (false, s2 + 1) | some (_, s) => (true, s)) g1 g2 g3' := f5
              rw [e3n] at f5'
              exact ⟨_, _, _, _, rfl, f5', fun k v w s h => (by cases h), un3 _ _⟩
            · have eo : odS T n q = (some (0, v, v2), s3) := by unfold odS; rw [ew]; simp only [e2n, if_pos hc1, e3n, if_true]
              rw [eo]
              have f5' : FS n (match numS T n 0 63 (s2 + 1) with | none => (false, s2 + 1) | some (_, s) => (true, s)) g1 g2 g3' := f5
              rw [e3n] at f5'
              have hy := h5 v2 s3 rfl e3n
              refine ⟨_, _, _, _, rfl, f5', fun k' v' w' s' h => ?_, un3 _ _⟩
              cases h
              refine ⟨?_, ?_, fun _ => ?_⟩
              · rw [pk_un (by omega), pk_un (by omega), pk_us]
              · rw [pk_un (by omega), pk_us, hx]
              · rw [pk_us, hy]
          · have es : stT T n 58 (true, s2) = (false, s2) := by unfold stT; rw [if_pos rfl, if_neg hc1]
            rw [es] at f5
            have eo : odS T n q = (none, s2) := by unfold odS; rw [ew]; simp only [e2n, if_neg hc1, if_true]
            rw [eo]
            exact ⟨_, _, _, _, rfl, f5, fun k v w s h => (by cases h), un3 _ _⟩
        · rw [if_neg (by rw [nI_eq (by omega) (by decide)]; exact h0)]
          have eo : odS T n q = (some (k, v, 0), s2) := by unfold odS; rw [ew]; simp only [e2n, if_neg h0]
          rw [eo]
          refine ⟨_, _, _, _, rfl, f3', fun k' v' w' s' h => ?_, un2 _⟩
          cases h
          refine ⟨?_, ?_, fun z => absurd z h0⟩
          · rw [pk_un (by omega), pk_us]
          · rw [pk_us, hx]
  exact rest
theorem pX5_readL (hT : TX T n bf) : ∀ (f q c fu : Nat) (od : Nat → Int32), q ≤ n → 6 * c ≤ q → n < q + 6 * f → f < fu →
    ∃ od' many sp wr sh, k_l6 (fX5_readBuffer_s22 bf (nI n) mr0 mb0) fu (nI 1) od (nI c) (nI q) m1 (nI 0) = some (od', many, sp, wr, sh) ∧ FS n ((scS T n f q).2.2, (scS T n f q).2.1) sp wr sh ∧ ((scS T n f q).2.2 = true → many = nI (c + (scS T n f q).1.length) ∧ ∀ i o, (scS T n f q).1[i]? = some o → od' (3 * (c + i)) = nI o.1 ∧ od' (3 * (c + i) + 1) = nI o.2.1 ∧ (o.1 = 0 → od' (3 * (c + i) + 2) = nI o.2.2)) ∧ ∀ i, i < 3 * c → od' i = od i := by
  intro f
  induction f with
  | zero => intro q c fu od h1 h2 h3; omega
  | succ f ih =>
    intro q c fu od h1 h2 h3 hf
    have hn := hT.1
    obtain ⟨fu, rfl⟩ : ∃ x, fu = x + 2 := ⟨fu - 2, by omega⟩
    have ho := odS_le T h1
    obtain ⟨od1, a1, a2, a3, e1, f1, g1, u1⟩ := pX5_order hT h1 (show c ≤ 14 by omega) od
    have stop : ∀ (o2 : Nat → Int32) (m2 s2 w2 h2 : Int32), k_l6 (fX5_readBuffer_s22 bf (nI n) mr0 mb0) (fu + 1) (nI 0) o2 m2 s2 w2 h2 = some (o2, m2, s2, w2, h2) := by
      intro o2 m2 s2 w2 h2
      show fX5_readBuffer_s22 _ _ _ _ _ _ _ _ _ _ _ = _
      unfold fX5_readBuffer_s22
      simp only [kE_if, L0, if_true]
    have rec' := fun q c od a b d => ih q c (fu + 1) od a b d (by omega)
    show ∃ od' many sp wr sh, fX5_readBuffer_s22 bf (nI n) mr0 mb0 (k_l6 (fX5_readBuffer_s22 bf (nI n) mr0 mb0) (fu + 1)) (nI 1) od (nI c) (nI q) m1 (nI 0) = _ ∧ _
    generalize k_l6 (fX5_readBuffer_s22 bf (nI n) mr0 mb0) (fu + 1) = KK at stop rec' ⊢
    unfold fX5_readBuffer_s22
    simp only [kE_if, L0, n10, if_false, e1, kE_b5, kE_j1]
    rcases e : odS T n q with ⟨o, s⟩
    rw [e] at ho f1 g1
    cases o with
    | none =>
      have eS : scS T n (f + 1) q = ([], s, false) := by rw [scS, e]
      rw [eS]
      have f1' : FS n (false, s) a1 a2 a3 := f1
      have hst : MSt n s a2 a3 := by
        rcases f1' with ⟨z, -⟩ | ⟨-, z⟩
        · cases z
        · exact z
      rw [pX5_fineF hn hst]
      simp only [kE_b1, if_true]
      rw [stop]
      exact ⟨_, _, _, _, _, rfl, f1', fun z => (by cases z), u1⟩
    | some o =>
      obtain ⟨k, v, w⟩ := o
      have h5 := (ho.2 k v w rfl).2.1
      have hs : s ≤ n := ho.1
      simp only at h5
      have f1' : FS n (true, s) a1 a2 a3 := f1
      obtain ⟨hsp, rfl, rfl⟩ : a1 = nI s ∧ a2 = m1 ∧ a3 = nI 0 := by
        rcases f1' with ⟨-, -, z1, z2, z3⟩ | ⟨z, -⟩
        · exact ⟨z1, z2, z3⟩
        · cases z
      subst hsp
      obtain ⟨g2, g3, g4⟩ := g1 k v w s rfl
      rw [pX5_fineT]
      simp (disch := omega) only [kE_b1, n10, if_false, nI_leI, L1, show (59 : Int32) = nI 59 by decide]
      by_cases q1 : s = n
      · have eS : scS T n (f + 1) q = ([(k, v, w)], n, true) := by rw [scS, e]; exact if_pos q1
        rw [eS, if_pos (by omega)]
        simp only [if_true]
        rw [stop]
        refine ⟨_, _, _, _, _, rfl, by subst q1; exact f1', fun _ => ⟨rfl, fun i o h => ?_⟩, u1⟩
        have : i = 0 := by
          rcases i with _ | i
          · rfl
          · simp at h
        subst this
        cases h
        rw [Nat.add_zero]; exact ⟨g2, g3, g4⟩
      · rw [if_neg (by omega)]
        obtain ⟨d1, d2, d3, e4, f4⟩ := pX5_takes hT (c := 59) (by decide) f1'
        rw [e4]
        simp only [kE_b3]
        by_cases q2 : T s = 59
        · have eS : scS T n (f + 1) q = ((k, v, w) :: (scS T n f (s + 1)).1, (scS T n f (s + 1)).2) := by rw [scS, e]; exact (if_neg q1).trans (if_pos q2)
          have es : stT T n 59 (true, s) = (true, s + 1) := by unfold stT; rw [if_pos rfl, if_pos ⟨by omega, q2⟩]
          rw [es] at f4
          obtain ⟨rfl, rfl, rfl⟩ : d1 = nI (s + 1) ∧ d2 = m1 ∧ d3 = nI 0 := by
            rcases f4 with ⟨-, -, z1, z2, z3⟩ | ⟨z, -⟩
            · exact ⟨z1, z2, z3⟩
            · cases z
          rw [pX5_fineT, kE_b1, eS]
          obtain ⟨od', many, sp, wr, sh, r1, r2, r3, r4⟩ := rec' (s + 1) (c + 1) od1 (by omega) (by omega) (by omega)
          refine ⟨od', many, sp, wr, sh, r1, r2, fun z => ?_, fun i hi => by rw [r4 i (by omega)]; exact u1 i hi⟩
          obtain ⟨r5, r6⟩ := r3 z
          refine ⟨?_, fun i o h => ?_⟩
          · rw [r5]
            show nI (c + 1 + _) = nI (c + (_ + 1))
            rw [show c + 1 + (scS T n f (s + 1)).1.length = c + ((scS T n f (s + 1)).1.length + 1) by omega]
          · rcases i with _ | i
            · cases h
              rw [Nat.add_zero, r4 _ (by omega), r4 _ (by omega)]
              refine ⟨g2, g3, fun z => ?_⟩
              rw [r4 _ (by omega)]; exact g4 z
            · have := r6 i o h
              rw [show c + 1 + i = c + (i + 1) by omega] at this
              exact this
        · have eS : scS T n (f + 1) q = ([(k, v, w)], s, false) := by rw [scS, e]; exact (if_neg q1).trans (if_neg q2)
          have es : stT T n 59 (true, s) = (false, s) := by unfold stT; rw [if_pos rfl, if_neg (fun z => q2 z.2)]
          rw [es] at f4
          have hst : MSt n s d2 d3 := by
            rcases f4 with ⟨z, -⟩ | ⟨-, z⟩
            · cases z
            · exact z
          rw [pX5_fineF hn hst, kE_b1, eS, stop]
          exact ⟨_, _, _, _, _, rfl, f4, fun z => (by cases z), u1⟩
theorem pX5_readBuffer (hT : TX T n bf) (od : Nat → Int32) (a b c d : Int32) : ∃ od' many sp wr sh, fX5_readBuffer bf (nI n) mr0 mb0 od a b c d = some (od', many, sp, wr, sh) ∧ FS n ((scS T n 11 0).2.2, (scS T n 11 0).2.1) sp wr sh ∧ ((scS T n 11 0).2.2 = true → many = nI (scS T n 11 0).1.length ∧ ∀ i o, (scS T n 11 0).1[i]? = some o → od' (3 * i) = nI o.1 ∧ od' (3 * i + 1) = nI o.2.1 ∧ (o.1 = 0 → od' (3 * i + 2) = nI o.2.2)) := by
  have hn := hT.1
  obtain ⟨od', many, sp, wr, sh, r1, r2, r3, r4⟩ := pX5_readL hT 11 0 0 5000 od (by omega) (by omega) (by omega) (by omega)
  refine ⟨od', many, sp, wr, sh, ?_, r2, fun z => ?_⟩
  · unfold fX5_readBuffer
    rw [LM1, L0, L1]
    exact r1
  · have := r3 z
    rw [Nat.zero_add] at this
    refine ⟨this.1, fun i o h => ?_⟩
    have h2 := this.2 i o h
    rw [Nat.zero_add] at h2
    exact h2
end MR
