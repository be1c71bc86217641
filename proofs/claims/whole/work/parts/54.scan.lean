/-! the class's scan as a whole -/
section TS
variable {T : Nat → Nat} {n : Nat} {sg : Nat → Int32}
theorem wdS_le (T : Nat → Nat) {n q : Nat} (hq : q ≤ n) : (wdS T n q).2 ≤ n ∧ ∀ k, (wdS T n q).1 = some k → k < 5 ∧ q + 4 ≤ (wdS T n q).2 := by
  unfold wdS
  have m1' := fun L q' (h : q' ≤ n) => mtc_le T n L q' h
  split
  · rename_i c1
    split
    · rename_i d1
      have := m1' [116, 58] (q + 2) (by omega)
      split
      · exact ⟨by show q + 4 ≤ n; omega, fun k h => by cases h; exact ⟨by decide, Nat.le_refl _⟩⟩
      · exact ⟨by show q + 2 + _ ≤ n; omega, fun k h => by cases h⟩
    · split
      · rename_i d1 d2
        have := m1' [115, 115, 58] (q + 2) (by omega)
        split
        · exact ⟨by show q + 5 ≤ n; omega, fun k h => by cases h; exact ⟨by decide, by show q + 4 ≤ q + 5; omega⟩⟩
        · exact ⟨by show q + 2 + _ ≤ n; omega, fun k h => by cases h⟩
      · exact ⟨by show q + 1 ≤ n; omega, fun k h => by cases h⟩
  · split
    · rename_i c1 c2
      have := m1' [111, 99, 107, 58] (q + 1) (by omega)
      split
      · exact ⟨by show q + 5 ≤ n; omega, fun k h => by cases h; exact ⟨by decide, by show q + 4 ≤ q + 5; omega⟩⟩
      · exact ⟨by show q + 1 + _ ≤ n; omega, fun k h => by cases h⟩
    · split
      · rename_i c1 c2 c3
        have := m1' [101, 97, 116, 58] (q + 1) (by omega)
        split
        · exact ⟨by show q + 5 ≤ n; omega, fun k h => by cases h; exact ⟨by decide, by show q + 4 ≤ q + 5; omega⟩⟩
        · exact ⟨by show q + 1 + _ ≤ n; omega, fun k h => by cases h⟩
      · split
        · rename_i c1 c2 c3 c4
          have := m1' [105, 120, 58] (q + 1) (by omega)
          split
          · exact ⟨by show q + 4 ≤ n; omega, fun k h => by cases h; exact ⟨by decide, Nat.le_refl _⟩⟩
          · exact ⟨by show q + 1 + _ ≤ n; omega, fun k h => by cases h⟩
        · exact ⟨hq, fun k h => by cases h⟩
theorem numS_le (T : Nat → Nat) {n lo hi q : Nat} (hq : q ≤ n) {v s : Nat} (h : numS T n lo hi q = some (v, s)) : lo ≤ v ∧ v ≤ hi ∧ q + 1 ≤ s ∧ s ≤ n := by
  unfold numS at h
  split at h
  · rename_i c
    unfold num2 at h
    split at h
    · cases h; omega
    · cases h; omega
  · cases h
theorem loK_le (k : Nat) (hk : k < 5) : lowN k = nI (loK k) ∧ highN k = nI (hiK k) ∧ loK k ≤ 1 ∧ hiK k ≤ 99 := (by decide +kernel : ∀ k, k < 5 → lowN k = nI (loK k) ∧ highN k = nI (hiK k) ∧ loK k ≤ 1 ∧ hiK k ≤ 99) k hk
theorem odS_le (T : Nat → Nat) {n q : Nat} (hq : q ≤ n) : (odS T n q).2 ≤ n ∧ ∀ k v w, (odS T n q).1 = some (k, v, w) → k < 5 ∧ q + 5 ≤ (odS T n q).2 ∧ loK k ≤ v ∧ v ≤ hiK k ∧ w < 64 := by
  have hw := wdS_le T hq
  unfold odS
  rcases e : wdS T n q with ⟨o, s⟩
  rw [e] at hw
  cases o with
  | none => exact ⟨hw.1, fun k v w h => by cases h⟩
  | some k =>
    have hk := hw.2 k rfl
    simp only
    rcases e2 : numS T n (loK k) (hiK k) s with _ | ⟨v, s2⟩
    · exact ⟨hw.1, fun k v w h => by cases h⟩
    · have hn := numS_le T hw.1 e2
      simp only
      by_cases h0 : k = 0
      · rw [if_pos h0]
        by_cases h1 : s2 < n ∧ T s2 = 58
        · rw [if_pos h1]
          rcases e3 : numS T n 0 63 (s2 + 1) with _ | ⟨v2, s3⟩
          · exact ⟨by show s2 + 1 ≤ n; omega, fun k v w h => by cases h⟩
          · have hn3 := numS_le T (by omega) e3
            refine ⟨hn3.2.2.2, fun k' v' w' h => ?_⟩
            cases h
            subst h0
            exact ⟨by decide, by show q + 5 ≤ s3; have : q + 4 ≤ s := hk.2; omega, hn.1, hn.2.1, by omega⟩
        · rw [if_neg h1]
          exact ⟨hn.2.2.2, fun k v w h => by cases h⟩
      · rw [if_neg h0]
        refine ⟨hn.2.2.2, fun k' v' w' h => ?_⟩
        cases h
        exact ⟨hk.1, by show q + 5 ≤ s2; have : q + 4 ≤ s := hk.2; omega, hn.1, hn.2.1, by decide⟩
theorem pX1_scanOrder (hT : TX T n sg) {q c : Nat} (hq : q ≤ n) (hc : c < 10 ∨ n < q + 5) (hc2 : c ≤ 10) (ks ns vs : Nat → Int32) : fX1_scanOrder sg (nI n) (nI q) (nI c) ks ns vs = (match odS T n q with
    | (none, s) => some (nI 0, nI s, nI c, ks, ns, vs)
    | (some (k, v, w), s) => some (nI 1, nI s, nI (c + 1), upd ks c (nI k), upd ns c (nI v), upd vs c (nI w))) := by
  have hn := hT.1
  have ho := odS_le T hq
  have hw := wdS_le T hq
  unfold fX1_scanOrder
  rw [pX1_scanWord hT hq, kE_b2]
  unfold odS at ho ⊢
  rcases e : wdS T n q with ⟨o, s⟩
  rw [e] at hw ho
  cases o with
  | none =>
    simp only [kE_if, ↓LM1, if_true]
    first | done | rfl
  | some k =>
    have hk := hw.2 k rfl
    have hs : s ≤ n := hw.1
    obtain ⟨l1, l2, l3, l4⟩ := loK_le k hk.1
    simp only at ho ⊢
    simp (disch := omega) only [↓LM1, kE_let, kE_if, kE_b1, kE_b2, kE_b3, kE_b4, kE_b5, kE_b6, kE_b7, kE_b8, kE_b9, kE_j0, kE_j1, kE_j2, kE_j3, kE_j4, kE_ck, nI_clamp, l1, l2, L0, show (58 : Int32) = nI 58 by decide, L63, pX1_scanNumber hT l3 l4 hs]
    rw [if_neg (nI_nm1 (by omega))]
    rcases e2 : numS T n (loK k) (hiK k) s with _ | ⟨v, s2⟩
    · simp only [↓LM1, kE_let, kE_if, kE_b1, kE_b2, kE_b3, kE_b4, kE_b5, kE_b6, kE_b7, kE_b8, kE_b9, kE_j0, kE_j1, kE_j2, kE_j3, kE_j4]
      by_cases h0 : k = 0
      · subst h0; rfl
      · rw [if_neg (by rw [nI_eq (by omega) (by decide)]; exact h0)]; rfl
    · have hn2 := numS_le T hs e2
      rw [e2] at ho
      simp only [↓LM1, kE_let, kE_if, kE_b1, kE_b2, kE_b3, kE_b4, kE_b5, kE_b6, kE_b7, kE_b8, kE_b9, kE_j0, kE_j1, kE_j2, kE_j3, kE_j4] at ho ⊢
      by_cases h0 : k = 0
      · subst h0
        rw [if_pos rfl, if_neg (nI_nm1 (by omega)), if_pos rfl]
        rw [if_pos rfl] at ho
        rw [pX1_scanSign hT hn2.2.2.2 (by decide)]
        by_cases h1 : s2 < n ∧ T s2 = 58
        · rw [if_pos h1] at ho ⊢
          rw [if_pos h1]
          simp only [↓LM1, kE_let, kE_if, kE_b1, kE_b2, kE_b3, kE_b4, kE_b5, kE_b6, kE_b7, kE_b8, kE_b9, kE_j0, kE_j1, kE_j2, kE_j3, kE_j4, L0]
          rw [if_neg n10]
          have h3 := pX1_scanNumber hT (lo := 0) (hi := 63) (q := s2 + 1) (by omega) (by omega) (by omega)
          rw [h3]
          rcases e3 : numS T n 0 63 (s2 + 1) with _ | ⟨v2, s3⟩
          · simp only [↓LM1, kE_let, kE_if, kE_b1, kE_b2, kE_b3, kE_b4, kE_b5, kE_b6, kE_b7, kE_b8, kE_b9, kE_j0, kE_j1, kE_j2, kE_j3, kE_j4]
            rw [if_neg (nI_nm1 (by omega))]
            first | (rw [if_pos trivial]; done) | (rw [if_pos trivial]; rfl) | (rw [if_pos rfl]; done) | (rw [if_pos rfl]; rfl)
          · have hn3 := numS_le T (by omega) e3
            rw [e3] at ho
            have hh := ho.2 0 v v2 rfl
            have hq3 : q + 5 ≤ s3 := hh.2.1
            simp only [↓LM1, kE_let, kE_if, kE_b1, kE_b2, kE_b3, kE_b4, kE_b5, kE_b6, kE_b7, kE_b8, kE_b9, kE_j0, kE_j1, kE_j2, kE_j3, kE_j4]
            rw [if_neg (nI_nm1 (by omega)), if_neg (nI_nm1 (by omega))]
            simp (disch := omega) only [L10, nI_leI, if_neg, kE_ck, nI_clamp, kE_let, L1, nI_add]
        · rw [if_neg h1, if_neg h1]
          simp only [↓LM1, kE_let, kE_if, kE_b1, kE_b2, kE_b3, kE_b4, kE_b5, kE_b6, kE_b7, kE_b8, kE_b9, kE_j0, kE_j1, kE_j2, kE_j3, kE_j4, L0, if_true]
          rw [if_neg (nI_nm1 (by omega))]
      · rw [if_neg (by rw [nI_eq (by omega) (by decide)]; exact h0), if_neg h0]
        rw [if_neg h0] at ho
        have hh := ho.2 k v 0 rfl
        have hq3 : q + 5 ≤ s2 := hh.2.1
        rw [if_neg (nI_nm1 (by omega)), if_neg (nI_nm1 (by omega))]
        simp (disch := omega) only [L10, nI_leI, if_neg, kE_ck, nI_clamp, kE_let, L1, nI_add]
/-- arrays that hold a list of orders from a place on -/
def hold3 (l : List (Nat × Nat × Nat)) (c : Nat) (ks ns vs : Nat → Int32) : Prop := ∀ i o, l[i]? = some o → ks (c + i) = nI o.1 ∧ ns (c + i) = nI o.2.1 ∧ vs (c + i) = nI o.2.2
theorem scS_len (T : Nat → Nat) (n : Nat) : ∀ f p, p ≤ n → 6 * (scS T n f p).1.length ≤ n - p + 6 ∧ (scS T n f p).2.1 ≤ n := by
  intro f
  induction f with
  | zero => intro p hp; exact ⟨by show 6 * 0 ≤ _; omega, hp⟩
  | succ f ih =>
    intro p hp
    have ho := odS_le T hp
    unfold scS
    rcases e : odS T n p with ⟨o, s⟩
    rw [e] at ho
    cases o with
    | none => exact ⟨by show 6 * 0 ≤ _; omega, ho.1⟩
    | some o =>
      obtain ⟨k, v, w⟩ := o
      have h5 := (ho.2 k v w rfl).2.1
      have hs : s ≤ n := ho.1
      simp only at h5 ⊢
      by_cases h1 : s = n
      · rw [if_pos h1]; exact ⟨by show 6 * 1 ≤ _; omega, Nat.le_refl _⟩
      · rw [if_neg h1]
        by_cases h2 : T s = 59
        · rw [if_pos h2]
          have := ih (s + 1) (by omega)
          refine ⟨?_, this.2⟩
          show 6 * ((scS T n f (s + 1)).1.length + 1) ≤ _
          omega
        · rw [if_neg h2]; exact ⟨by show 6 * 1 ≤ _; omega, hs⟩
theorem pX1_scanL (hT : TX T n sg) : ∀ (f p c fu : Nat) (cp : Int32) (ks ns vs : Nat → Int32), p ≤ n → 6 * c ≤ p → n < p + 6 * f → f < fu →
    ∃ ks' ns' vs', k_l8 (fX1_scan_s19 sg (nI n)) fu (nI 1) (nI c) (nI p) cp (nI c) ks ns vs = some (nI (scS T n f p).2.1, bI ((scS T n f p).2.2 = true), nI (c + (scS T n f p).1.length), ks', ns', vs') ∧ hold3 (scS T n f p).1 c ks' ns' vs' ∧ ∀ i, i < c → ks' i = ks i ∧ ns' i = ns i ∧ vs' i = vs i := by
  intro f
  induction f with
  | zero => intro p c fu cp ks ns vs h1 h2 h3; omega
  | succ f ih =>
    intro p c fu cp ks ns vs h1 h2 h3 hf
    have hn := hT.1
    obtain ⟨fu, rfl⟩ : ∃ x, fu = x + 1 := ⟨fu - 1, by omega⟩
    have ho := odS_le T h1
    have e1 := pX1_scanOrder hT h1 (show c < 10 ∨ n < p + 5 by omega) (by omega) ks ns vs
    obtain ⟨fu, rfl⟩ : ∃ x, fu = x + 1 := ⟨fu - 1, by omega⟩
    have ih' := ih
    refine (show ∃ ks' ns' vs', fX1_scan_s19 sg (nI n) (k_l8 (fX1_scan_s19 sg (nI n)) (fu + 1)) (nI 1) (nI c) (nI p) cp (nI c) ks ns vs = _ ∧ _ from ?_)
    have stop : ∀ (cp2 : Int32) (i q c2 : Int32) (k2 n2 v2 : Nat → Int32), k_l8 (fX1_scan_s19 sg (nI n)) (fu + 1) (nI 0) i q cp2 c2 k2 n2 v2 = some (q, cp2, c2, k2, n2, v2) := by
      intro cp2 i q c2 k2 n2 v2
      show fX1_scan_s19 _ _ _ _ _ _ _ _ _ _ _ = _
      unfold fX1_scan_s19
      simp only [kE_if, L0, if_true]
      by_cases h : (60 : Int32) ≤ i
      · rw [if_pos h]
      · rw [if_neg h]
    have rec' := fun p c cp ks ns vs a b d => ih p c (fu + 1) cp ks ns vs a b d (by omega)
    generalize k_l8 (fX1_scan_s19 sg (nI n)) (fu + 1) = KK at stop rec' ⊢
    unfold fX1_scan_s19
    simp (disch := omega) only [kE_if, L60, nI_leI, if_neg, L0, L1, n10, if_false, kE_j1, kE_j2, kE_let, nI_add]
    rw [e1]
    rcases e : odS T n p with ⟨o, s⟩
    rw [e] at ho
    cases o with
    | none =>
      have eS : scS T n (f + 1) p = ([], s, false) := by rw [scS, e]
      rw [eS]
      simp only [kE_b6, if_true]
      rw [kE_bz0, stop]
      exact ⟨ks, ns, vs, by rw [bI_f (by simp)]; rfl, fun i o h => by simp at h, fun i _ => ⟨rfl, rfl, rfl⟩⟩
    | some o =>
      obtain ⟨k, v, w⟩ := o
      have h5 := (ho.2 k v w rfl).2.1
      have hs : s ≤ n := ho.1
      simp only at h5
      by_cases q1 : s = n
      · have eS : scS T n (f + 1) p = ([(k, v, w)], n, true) := by rw [scS, e]; exact if_pos q1
        rw [eS]
        simp only [kE_b6]
        rw [if_neg n10]
        simp (disch := omega) only [nI_eq]
        rw [if_pos q1, kE_bz1, show (59 : Int32) = nI 59 by decide, pX1_scanSign hT hs (by decide), if_neg (by omega), kE_b2, if_pos rfl, stop]
        refine ⟨_, _, _, by first | (rw [bI_T, q1]; rfl) | (rw [bI_t rfl, q1]; rfl), fun i o h => ?_, fun i hi => ?_⟩
        · have : i = 0 := by
            rcases i with _ | i
            · rfl
            · simp at h
          subst this
          cases h
          rw [Nat.add_zero, pk_us, pk_us, pk_us]; exact ⟨rfl, rfl, rfl⟩
        · rw [pk_un (by omega), pk_un (by omega), pk_un (by omega)]; exact ⟨rfl, rfl, rfl⟩
      · by_cases q2 : T s = 59
        · have eS : scS T n (f + 1) p = ((k, v, w) :: (scS T n f (s + 1)).1, (scS T n f (s + 1)).2) := by rw [scS, e]; exact (if_neg q1).trans (if_pos q2)
          rw [eS]
          simp only [kE_b6]
          rw [if_neg n10]
          simp (disch := omega) only [nI_eq]
          rw [if_neg q1, kE_bz0, show (59 : Int32) = nI 59 by decide, pX1_scanSign hT hs (by decide)]
          rw [if_pos ⟨by omega, q2⟩, kE_b2, if_neg n10]
          obtain ⟨a, b, d, r1, r2, r3⟩ := rec' (s + 1) (c + 1) (nI 0) (upd ks c (nI k)) (upd ns c (nI v)) (upd vs c (nI w)) (by omega) (by omega) (by omega)
          refine ⟨a, b, d, ?_, fun i o h => ?_, fun i hi => ?_⟩
          · rw [r1]
            show some (_, _, nI (c + 1 + _), _) = some (_, _, nI (c + (_ + 1)), _)
            rw [show c + 1 + (scS T n f (s + 1)).1.length = c + ((scS T n f (s + 1)).1.length + 1) by omega]
          · rcases i with _ | i
            · cases h
              have := r3 c (by omega)
              rw [Nat.add_zero, this.1, this.2.1, this.2.2, pk_us, pk_us, pk_us]; exact ⟨rfl, rfl, rfl⟩
            · have := r2 i o h
              rw [show c + 1 + i = c + (i + 1) by omega] at this
              exact this
          · have := r3 i (by omega)
            rw [pk_un (by omega), pk_un (by omega), pk_un (by omega)] at this
            exact this
        · have eS : scS T n (f + 1) p = ([(k, v, w)], s, false) := by rw [scS, e]; exact (if_neg q1).trans (if_neg q2)
          rw [eS]
          simp only [kE_b6]
          rw [if_neg n10]
          simp (disch := omega) only [nI_eq]
          rw [if_neg q1, kE_bz0, show (59 : Int32) = nI 59 by decide, pX1_scanSign hT hs (by decide)]
          rw [if_neg (fun z => q2 z.2), kE_b2, if_pos rfl, stop]
          refine ⟨_, _, _, by first | (rw [bI_F]; rfl) | (rw [bI_f Bool.false_ne_true]; rfl), fun i o h => ?_, fun i hi => ?_⟩
          · have : i = 0 := by
              rcases i with _ | i
              · rfl
              · simp at h
            subst this
            cases h
            rw [Nat.add_zero, pk_us, pk_us, pk_us]; exact ⟨rfl, rfl, rfl⟩
          · rw [pk_un (by omega), pk_un (by omega), pk_un (by omega)]; exact ⟨rfl, rfl, rfl⟩
theorem pX1_scan (hT : TX T n sg) (a b c : Int32) (ks ns vs : Nat → Int32) : ∃ ks' ns' vs', fX1_scan sg (nI n) a b c ks ns vs = some (nI (scS T n 11 0).2.1, bI ((scS T n 11 0).2.2 = true), nI (scS T n 11 0).1.length, ks', ns', vs') ∧ hold3 (scS T n 11 0).1 0 ks' ns' vs' := by
  have hn := hT.1
  obtain ⟨a1, b1, d1, r1, r2, r3⟩ := pX1_scanL hT 11 0 0 5000 (nI 0) ks ns vs (by omega) (by omega) (by omega) (by omega)
  rw [Nat.zero_add] at r1
  exact ⟨a1, b1, d1, r1, r2⟩
end TS
