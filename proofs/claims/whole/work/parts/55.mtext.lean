/-! the model's reading of a text -/
def MSt (n s : Nat) (wr sh : Int32) : Prop := (s < n ∧ wr = nI s ∧ sh = nI 0) ∨ (s = n ∧ wr = m1 ∧ sh = nI 1)
def FS (n : Nat) (st : Bool × Nat) (sp wr sh : Int32) : Prop := (st.1 = true ∧ st.2 ≤ n ∧ sp = nI st.2 ∧ wr = m1 ∧ sh = nI 0) ∨ (st.1 = false ∧ MSt n st.2 wr sh)
def stT (T : Nat → Nat) (n c : Nat) (st : Bool × Nat) : Bool × Nat := if st.1 = true then (if st.2 < n ∧ T st.2 = c then (true, st.2 + 1) else (false, st.2)) else st
def stW (T : Nat → Nat) (n : Nat) (L : List Nat) (st : Bool × Nat) : Bool × Nat := L.foldl (fun st c => stT T n c st) st
theorem stW_false (T : Nat → Nat) (n : Nat) (L : List Nat) (s : Nat) : stW T n L (false, s) = (false, s) := by
  induction L with
  | nil => rfl
  | cons c L ih => show stW T n L (stT T n c (false, s)) = _; exact ih
theorem stW_true (T : Nat → Nat) (n : Nat) (L : List Nat) : ∀ q, stW T n L (true, q) = if mtc T n L q = L.length then (true, q + L.length) else (false, q + mtc T n L q) := by
  induction L with
  | nil => intro q; rfl
  | cons c L ih =>
    intro q
    show stW T n L (stT T n c (true, q)) = _
    rw [mtc_c]
    unfold stT
    simp only [if_true]
    by_cases h : q < n ∧ T q = c
    · rw [if_pos h, if_pos h, ih]
      simp only [List.length_cons]
      by_cases e : mtc T n L (q + 1) = L.length
      · rw [if_pos e, if_pos (by omega)]; congr 1; omega
      · rw [if_neg e, if_neg (by omega)]; congr 1; omega
    · rw [if_neg h, if_neg h, stW_false]
      rw [if_neg (by simp)]; rfl
section MT
variable {T : Nat → Nat} {n : Nat} {bf : Nat → Int32}
theorem pX5_letter (hT : TX T n bf) {q : Nat} (hq : q < 1000) : fX5_letter bf (nI n) (nI q) = if q < n then some (nI (T q)) else some m1 := by
  have hn := hT.1
  unfold fX5_letter
  simp (disch := omega) only [↓LM1, kE_let, kE_if, kE_b1, kE_b2, kE_b3, kE_b4, kE_b5, kE_b6, kE_b7, kE_b8, kE_b9, kE_j0, kE_j1, kE_j2, kE_j3, kE_j4, nI_leI]
  by_cases h : n ≤ q
  · rw [if_pos h, if_neg (by omega)]
  · rw [if_neg h, if_pos (by omega)]
    simp (disch := omega) only [kE_ck, nI_clamp, (hT.2 q (by omega)).1]
theorem pX5_fineT : fX5_isFine m1 (nI 0) = some (nI 1) := by decide +kernel
theorem pX5_fineF {s : Nat} {wr sh : Int32} (hn : n ≤ 60) (h : MSt n s wr sh) : fX5_isFine wr sh = some (nI 0) := by
  unfold fX5_isFine
  rcases h with ⟨h1, rfl, rfl⟩ | ⟨h1, rfl, rfl⟩
  · simp only [↓LM1, kE_let, kE_if, kE_b1, kE_b2, kE_b3, kE_b4, kE_b5, kE_b6, kE_b7, kE_b8, kE_b9, kE_j0, kE_j1, kE_j2, kE_j3, kE_j4]
    rw [if_neg (nI_nm1 (by omega))]; rfl
  · decide +kernel
theorem pX5_takes (hT : TX T n bf) {st : Bool × Nat} {sp wr sh : Int32} {c : Nat} (hc : c < 128) (h : FS n st sp wr sh) : ∃ sp' wr' sh', fX5_takes bf (nI n) sp wr sh (nI c) = some (sp', wr', sh') ∧ FS n (stT T n c st) sp' wr' sh' := by
  have hn := hT.1
  unfold fX5_takes stT
  rcases h with ⟨h0, h1, rfl, rfl, rfl⟩ | ⟨h0, h1⟩
  · rw [if_pos h0, pX5_fineT]
    simp only [kE_b1, kE_if, L0, L1, n10, if_false, kE_j2, kE_let, nI_add, kE_b2]
    by_cases e : st.2 = n
    · rw [if_pos (by rw [e]), if_neg (by omega)]
      exact ⟨_, _, _, rfl, Or.inr ⟨rfl, Or.inr ⟨e, rfl, rfl⟩⟩⟩
    · rw [if_neg (by rw [nI_eq (by omega) (by omega)]; exact e), pX5_letter hT (by omega), if_pos (by omega), kE_b1]
      have ht := (hT.2 st.2 (by omega)).2
      by_cases e2 : T st.2 = c
      · rw [if_pos (by rw [e2]), if_pos ⟨by omega, e2⟩]
        exact ⟨_, _, _, rfl, Or.inl ⟨rfl, by show st.2 + 1 ≤ n; omega, rfl, rfl, rfl⟩⟩
      · rw [if_neg (by rw [nI_eq (by omega) (by omega)]; exact e2), if_neg (fun z => e2 z.2)]
        exact ⟨_, _, _, rfl, Or.inr ⟨rfl, Or.inl ⟨by show st.2 < n; omega, rfl, rfl⟩⟩⟩
  · rw [if_neg (by rw [h0]; decide), pX5_fineF hn h1]
    simp only [kE_b1, kE_if, L0, if_true]
    exact ⟨_, _, _, rfl, Or.inr ⟨h0, h1⟩⟩
def wrB (k : Nat) : Nat := [0, 2, 6, 10, 13, 16].getD k 0
def wrR (j : Nat) : Nat := [116, 58, 111, 99, 107, 58, 101, 97, 116, 58, 115, 115, 58, 105, 120, 58].getD j 0
def wrL (k : Nat) : List Nat := [[116, 58], [111, 99, 107, 58], [101, 97, 116, 58], [115, 115, 58], [105, 120, 58]].getD k []
theorem mb0_e : ∀ k, k < 6 → mb0 k = nI (wrB k) := by decide +kernel
theorem mr0_e : ∀ j, j < 16 → mr0 j = nI (wrR j) ∧ wrR j < 128 := by decide +kernel
theorem wrL_e : ∀ k, k < 5 → wrB k + (wrL k).length = wrB (k + 1) ∧ wrB (k + 1) ≤ 16 ∧ ∀ i, i < (wrL k).length → (wrL k).getD i 0 = wrR (wrB k + i) := by decide +kernel
theorem pX5_word (hT : TX T n bf) {st : Bool × Nat} {sp wr sh : Int32} {k : Nat} (hk : k < 5) (h : FS n st sp wr sh) : ∃ sp' wr' sh', fX5_word bf (nI n) mr0 mb0 sp wr sh (nI k) = some (sp', wr', sh') ∧ FS n (stW T n (wrL k) st) sp' wr' sh' := by
  obtain ⟨w1, w2, w3⟩ := wrL_e k hk
  have key := kI_l4 (S := fX5_word_s7 (nI k) mb0 mr0 bf (nI n)) (fun i x a b c => x = nI (wrB k + i) ∧ FS n (stW T n ((wrL k).take i) st) a b c) (fun q => ∃ sp' wr' sh', q = some (sp', wr', sh') ∧ FS n (stW T n (wrL k) st) sp' wr' sh') (wrL k).length 5000 ?_ ?_ (by omega) (nI (wrB k)) sp wr sh ⟨rfl, by simpa [stW] using h⟩
  · obtain ⟨q, ⟨a, b, c, e, f⟩, e2⟩ := key
    refine ⟨a, b, c, ?_, f⟩
    unfold fX5_word
    simp (disch := omega) only [kE_ck, nI_clamp, kE_let, mb0_e k (by omega)]
    exact e2.trans e
  · rintro i x a b c hi ⟨rfl, hf⟩
    have hm := mr0_e (wrB k + i) (by omega)
    obtain ⟨a', b', c', e, f⟩ := pX5_takes hT (c := wrR (wrB k + i)) hm.2 hf
    refine ⟨nI (wrB k + (i + 1)), a', b', c', ⟨rfl, ?_⟩, fun K => ?_⟩
    · rw [List.take_succ_eq_append_getElem hi]
      unfold stW at f ⊢
      rw [List.foldl_append]
      simp only [List.foldl_cons, List.foldl_nil]
      have : (wrL k)[i] = wrR (wrB k + i) := by
        rw [← w3 i hi, List.getD_eq_getElem?_getD, List.getElem?_eq_getElem hi]; rfl
      rw [this]; exact f
    · unfold fX5_word_s7
      simp (disch := omega) only [kE_let, L1, nI_add, kE_ck, nI_clamp, mb0_e (k + 1) (by omega), kE_if, nI_leI, if_neg, hm.1, e, kE_b3]
      rw [Nat.add_assoc]
  · rintro x a b c ⟨rfl, hf⟩
    rw [List.take_of_length_le (Nat.le_refl _)] at hf
    refine ⟨_, ⟨a, b, c, rfl, hf⟩, fun K => ?_⟩
    unfold fX5_word_s7
    simp (disch := omega) only [kE_let, L1, nI_add, kE_ck, nI_clamp, mb0_e (k + 1) (by omega), kE_if, nI_leI, if_pos]
/-- the letters that tell the kind, and what they leave -/
def kaS (T : Nat → Nat) (n q : Nat) : Nat × (Bool × Nat) :=
  if q < n ∧ T q = 112 then (if q + 1 < n ∧ T (q + 1) = 117 then (0, (true, q + 2)) else if q + 1 < n ∧ T (q + 1) = 97 then (3, (true, q + 2)) else (3, (false, q + 1)))
  else if q < n ∧ T q = 108 then (1, (true, q + 1)) else if q < n ∧ T q = 104 then (2, (true, q + 1)) else if q < n ∧ T q = 102 then (4, (true, q + 1)) else (4, (false, q))
theorem kaS_w (T : Nat → Nat) {n q : Nat} (hq : q ≤ n) : (kaS T n q).1 < 5 ∧ stW T n (wrL (kaS T n q).1) (kaS T n q).2 = (match wdS T n q with | (none, s) => (false, s) | (some _, s) => (true, s)) ∧ ∀ k, (wdS T n q).1 = some k → (kaS T n q).1 = k := by
  unfold kaS wdS
  by_cases c1 : q < n ∧ T q = 112
  · rw [if_pos c1, if_pos c1]
    by_cases d1 : q + 1 < n ∧ T (q + 1) = 117
    · rw [if_pos d1, if_pos d1]
      refine ⟨by show 0 < 5; decide, ?_, fun k h => ?_⟩
      · show stW T n [116, 58] (true, q + 2) = _
        rw [stW_true]; simp only [List.length_cons, List.length_nil, Nat.zero_add, Nat.reduceAdd]
        by_cases e : mtc T n [116, 58] (q + 2) = 2
        · rw [if_pos e, if_pos e]
        · rw [if_neg e, if_neg e]
      · by_cases e : mtc T n [116, 58] (q + 2) = 2
        · rw [if_pos e] at h; cases h; rfl
        · rw [if_neg e] at h; cases h
    · rw [if_neg d1, if_neg d1]
      by_cases d2 : q + 1 < n ∧ T (q + 1) = 97
      · rw [if_pos d2, if_pos d2]
        refine ⟨by show 3 < 5; decide, ?_, fun k h => ?_⟩
        · show stW T n [115, 115, 58] (true, q + 2) = _
          rw [stW_true]; simp only [List.length_cons, List.length_nil, Nat.zero_add, Nat.reduceAdd]
          by_cases e : mtc T n [115, 115, 58] (q + 2) = 3
          · rw [if_pos e, if_pos e]
          · rw [if_neg e, if_neg e]
        · by_cases e : mtc T n [115, 115, 58] (q + 2) = 3
          · rw [if_pos e] at h; cases h; rfl
          · rw [if_neg e] at h; cases h
      · rw [if_neg d2, if_neg d2]
        exact ⟨by show 3 < 5; decide, stW_false _ _ _ _, fun k h => by cases h⟩
  · rw [if_neg c1, if_neg c1]
    by_cases c2 : q < n ∧ T q = 108
    · rw [if_pos c2, if_pos c2]
      refine ⟨by show 1 < 5; decide, ?_, fun k h => ?_⟩
      · show stW T n [111, 99, 107, 58] (true, q + 1) = _
        rw [stW_true]; simp only [List.length_cons, List.length_nil, Nat.zero_add, Nat.reduceAdd]
        by_cases e : mtc T n [111, 99, 107, 58] (q + 1) = 4
        · rw [if_pos e, if_pos e]
        · rw [if_neg e, if_neg e]
      · by_cases e : mtc T n [111, 99, 107, 58] (q + 1) = 4
        · rw [if_pos e] at h; cases h; rfl
        · rw [if_neg e] at h; cases h
    · rw [if_neg c2, if_neg c2]
      by_cases c3 : q < n ∧ T q = 104
      · rw [if_pos c3, if_pos c3]
        refine ⟨by show 2 < 5; decide, ?_, fun k h => ?_⟩
        · show stW T n [101, 97, 116, 58] (true, q + 1) = _
          rw [stW_true]; simp only [List.length_cons, List.length_nil, Nat.zero_add, Nat.reduceAdd]
          by_cases e : mtc T n [101, 97, 116, 58] (q + 1) = 4
          · rw [if_pos e, if_pos e]
          · rw [if_neg e, if_neg e]
        · by_cases e : mtc T n [101, 97, 116, 58] (q + 1) = 4
          · rw [if_pos e] at h; cases h; rfl
          · rw [if_neg e] at h; cases h
      · rw [if_neg c3, if_neg c3]
        by_cases c4 : q < n ∧ T q = 102
        · rw [if_pos c4, if_pos c4]
          refine ⟨by show 4 < 5; decide, ?_, fun k h => ?_⟩
          · show stW T n [105, 120, 58] (true, q + 1) = _
            rw [stW_true]; simp only [List.length_cons, List.length_nil, Nat.zero_add, Nat.reduceAdd]
            by_cases e : mtc T n [105, 120, 58] (q + 1) = 3
            · rw [if_pos e, if_pos e]
            · rw [if_neg e, if_neg e]
          · by_cases e : mtc T n [105, 120, 58] (q + 1) = 3
            · rw [if_pos e] at h; cases h; rfl
            · rw [if_neg e] at h; cases h
        · rw [if_neg c4, if_neg c4]
          exact ⟨by show 4 < 5; decide, stW_false _ _ _ _, fun k h => by cases h⟩
theorem pX5_kindAt (hT : TX T n bf) {q : Nat} (hq : q ≤ n) : ∃ sp wr sh, fX5_kindAt bf (nI n) (nI q) m1 (nI 0) = some (nI (kaS T n q).1, sp, wr, sh) ∧ FS n (kaS T n q).2 sp wr sh := by
  have hn := hT.1
  have mne : ∀ c : Int32, c = nI 112 ∨ c = nI 117 ∨ c = nI 97 ∨ c = nI 108 ∨ c = nI 104 ∨ c = nI 102 → ¬ m1 = c := by
    rintro c (rfl | rfl | rfl | rfl | rfl | rfl) <;> decide
  have l112 : (112 : Int32) = nI 112 := by decide
  have l117 : (117 : Int32) = nI 117 := by decide
  have l97 : (97 : Int32) = nI 97 := by decide
  have l108 : (108 : Int32) = nI 108 := by decide
  have l104 : (104 : Int32) = nI 104 := by decide
  have l102 : (102 : Int32) = nI 102 := by decide
  have ne : ∀ a b : Nat, a < 128 → b < 128 → a ≠ b → ¬ nI a = nI b := fun a b ha hb h e => h (nI_inj (by omega) (by omega) e)
  unfold fX5_kindAt
  rw [pX5_letter hT (by omega)]
  by_cases hqn : q < n
  · have ht := (hT.2 q hqn).2
    rw [if_pos hqn]
    simp only [kE_b1, kE_let, kE_if, kE_j2, ↓LM1, L1, L0, nI_add, l112, l117, l97, l108, l104, l102]
    by_cases c1 : T q = 112
    · rw [if_pos (by rw [c1]), pX5_letter hT (by omega)]
      by_cases hq1 : q + 1 < n
      · have ht1 := (hT.2 (q + 1) hq1).2
        simp only [if_pos hq1, kE_b1]
        rw [if_neg (nI_nm1 (by omega))]
        by_cases d1 : T (q + 1) = 117
        · have ek : kaS T n q = (0, (true, q + 2)) := by unfold kaS; rw [if_pos ⟨hqn, c1⟩, if_pos ⟨hq1, d1⟩]
          rw [ek, d1, if_pos rfl, if_pos rfl]
          exact ⟨_, _, _, rfl, Or.inl ⟨rfl, by show q + 2 ≤ n; omega, rfl, rfl, rfl⟩⟩
        · rw [if_neg (ne _ _ ht1 (by decide) d1), if_neg (ne _ _ ht1 (by decide) d1), if_neg (ne _ _ ht1 (by decide) d1)]
          by_cases d2 : T (q + 1) = 97
          · have ek : kaS T n q = (3, (true, q + 2)) := by unfold kaS; rw [if_pos ⟨hqn, c1⟩, if_neg (fun z => d1 z.2), if_pos ⟨hq1, d2⟩]
            rw [ek, d2, if_pos rfl]
            exact ⟨_, _, _, rfl, Or.inl ⟨rfl, by show q + 2 ≤ n; omega, rfl, rfl, rfl⟩⟩
          · have ek : kaS T n q = (3, (false, q + 1)) := by unfold kaS; rw [if_pos ⟨hqn, c1⟩, if_neg (fun z => d1 z.2), if_neg (fun z => d2 z.2)]
            rw [ek, if_neg (ne _ _ ht1 (by decide) d2), nI_sub (by omega)]
            exact ⟨_, _, _, rfl, Or.inr ⟨rfl, Or.inl ⟨hq1, rfl, rfl⟩⟩⟩
      · have ek : kaS T n q = (3, (false, q + 1)) := by unfold kaS; rw [if_pos ⟨hqn, c1⟩, if_neg (fun z => hq1 z.1), if_neg (fun z => hq1 z.1)]
        simp only [if_neg hq1, kE_b1, if_true]
        rw [ek, if_neg (mne _ (by simp))]
        exact ⟨_, _, _, rfl, Or.inr ⟨rfl, Or.inr ⟨by show q + 1 = n; omega, rfl, rfl⟩⟩⟩
    · rw [if_neg (ne _ _ ht (by decide) c1), if_neg (nI_nm1 (by omega))]
      by_cases c2 : T q = 108
      · have ek : kaS T n q = (1, (true, q + 1)) := by unfold kaS; rw [if_neg (fun z => c1 z.2), if_pos ⟨hqn, c2⟩]
        rw [ek, c2, if_pos rfl, if_pos rfl]
        exact ⟨_, _, _, rfl, Or.inl ⟨rfl, by show q + 1 ≤ n; omega, rfl, rfl, rfl⟩⟩
      · simp only [if_neg (ne _ _ ht (by decide) c2)]
        by_cases c3 : T q = 104
        · have ek : kaS T n q = (2, (true, q + 1)) := by unfold kaS; rw [if_neg (fun z => c1 z.2), if_neg (fun z => c2 z.2), if_pos ⟨hqn, c3⟩]
          rw [ek, c3, if_pos rfl, if_pos rfl]
          exact ⟨_, _, _, rfl, Or.inl ⟨rfl, by show q + 1 ≤ n; omega, rfl, rfl, rfl⟩⟩
        · simp only [if_neg (ne _ _ ht (by decide) c3)]
          by_cases c4 : T q = 102
          · have ek : kaS T n q = (4, (true, q + 1)) := by unfold kaS; rw [if_neg (fun z => c1 z.2), if_neg (fun z => c2 z.2), if_neg (fun z => c3 z.2), if_pos ⟨hqn, c4⟩]
            rw [ek, c4, if_pos rfl]
            exact ⟨_, _, _, rfl, Or.inl ⟨rfl, by show q + 1 ≤ n; omega, rfl, rfl, rfl⟩⟩
          · have ek : kaS T n q = (4, (false, q)) := by unfold kaS; rw [if_neg (fun z => c1 z.2), if_neg (fun z => c2 z.2), if_neg (fun z => c3 z.2), if_neg (fun z => c4 z.2)]
            rw [ek, if_neg (ne _ _ ht (by decide) c4), nI_sub (by omega)]
            exact ⟨_, _, _, rfl, Or.inr ⟨rfl, Or.inl ⟨hqn, rfl, rfl⟩⟩⟩
  · have ek : kaS T n q = (4, (false, q)) := by unfold kaS; rw [if_neg (fun z => hqn z.1), if_neg (fun z => hqn z.1), if_neg (fun z => hqn z.1), if_neg (fun z => hqn z.1)]
    rw [if_neg hqn, ek]
    simp only [kE_b1, kE_let, kE_if, kE_j2, ↓LM1, L1, L0, nI_add, l112, l117, l97, l108, l104, l102, if_true]
    rw [if_neg (mne _ (by simp)), if_neg (mne _ (by simp)), if_neg (mne _ (by simp))]
    exact ⟨_, _, _, rfl, Or.inr ⟨rfl, Or.inr ⟨by show q = n; omega, rfl, rfl⟩⟩⟩
theorem in_m1 : fX5_in (m1 - nI 48) (nI 0) (nI 9) = some (nI 0) := by decide +kernel
theorem in_t {t : Nat} (ht : t < 128) : fX5_in (nI t - nI 48) (nI 0) (nI 9) = some (bI (48 ≤ t ∧ t ≤ 57)) := (by decide +kernel : ∀ t, t < 128 → fX5_in (nI t - nI 48) (nI 0) (nI 9) = some (bI (48 ≤ t ∧ t ≤ 57))) t ht
theorem sX5_num (hT : TX T n bf) {lo hi v p : Nat} (hhi : hi ≤ 99) (hp : p ≤ n) (hv : v ≤ 99) (KK : Int32 → Int32 → Int32 → Option (Int32 × Int32 × Int32 × Int32)) {x : Int32} (hx : x = (if p < n then nI (T p) else m1) - nI 48) : fX5_number_s86 m1 (nI 0) (nI hi) bf (nI n) KK (nI v) x (nI p) = if 0 < v ∧ p < n ∧ 48 ≤ T p ∧ T p ≤ 57 ∧ 10 * v + (T p - 48) ≤ hi then KK (nI (10 * v + (T p - 48))) ((if p + 1 < n then nI (T (p + 1)) else m1) - nI 48) (nI (p + 1)) else some (nI v, nI p, m1, nI 0) := by
  have hn := hT.1
  unfold fX5_number_s86
  rw [pX5_fineT]
  simp (disch := omega) only [kE_b1, kE_if, kE_let, L0, n10, if_false, nI_leI]
  by_cases h0 : v ≤ 0
  · rw [if_pos h0, if_neg (by omega)]
  · rw [if_neg h0, hx]
    by_cases h1 : p < n
    · have ht := (hT.2 p h1).2
      rw [if_pos h1, L9, in_t ht]
      simp (disch := omega) only [kE_b1, bI_eq0, L10]
      by_cases h2 : 48 ≤ T p ∧ T p ≤ 57
      · rw [if_neg (fun z => z h2)]
        rw [pk_mul, nI_sub h2.1, nI_add]
        simp (disch := omega) only [nI_ltI, L1, nI_add, show (48 : Int32) = nI 48 by decide]
        by_cases h3 : hi < 10 * v + (T p - 48)
        · rw [if_pos h3, if_neg (by omega)]
        · rw [if_neg h3, if_pos (by omega), pX5_letter hT (by omega)]
          by_cases h4 : p + 1 < n
          · simp only [if_pos h4, kE_b1]
          · simp only [if_neg h4, kE_b1]
      · rw [if_pos h2, if_neg (fun z => h2 ⟨z.2.2.1, z.2.2.2.1⟩)]
    · rw [if_neg h1, L9, in_m1]
      simp only [kE_b1, if_true]
      rw [if_neg (fun z => h1 z.2.1)]
theorem pX5_number (hT : TX T n bf) {lo hi : Nat} (hlo : lo ≤ 1) (hhi : hi ≤ 99) {st : Bool × Nat} {sp wr sh : Int32} (h : FS n st sp wr sh) : ∃ x sp' wr' sh', fX5_number bf (nI n) sp wr sh (nI lo) (nI hi) = some (x, sp', wr', sh') ∧ FS n (if st.1 = true then (match numS T n lo hi st.2 with | none => (false, st.2) | some (_, s) => (true, s)) else st) sp' wr' sh' ∧ ∀ v s, st.1 = true → numS T n lo hi st.2 = some (v, s) → x = nI v := by
  have hn := hT.1
  unfold fX5_number
  rcases h with ⟨h0, h1, rfl, rfl, rfl⟩ | ⟨h0, h1⟩
  · rw [if_pos h0, pX5_fineT]
    simp only [kE_b1, kE_if, kE_let, kE_j1, kE_j0, L0, L1, n10, if_false]
    by_cases e : st.2 = n
    · rw [if_pos (by rw [e])]
      have eN : numS T n lo hi st.2 = none := by unfold numS; rw [if_neg (by omega)]
      rw [eN]
      exact ⟨_, _, _, _, rfl, Or.inr ⟨rfl, Or.inr ⟨e, rfl, rfl⟩⟩, fun v s _ h => by cases h⟩
    · have hlt : st.2 < n := by omega
      have ht := (hT.2 st.2 hlt).2
      have stopK : ∀ (c5 : Int32) (x8 : Int32), MSt n st.2 c5 (nI 0) → ∀ x3 x6 : Int32, k_l3 (fX5_number_s86 c5 (nI 0) (nI hi) bf (nI n)) 5000 x3 x8 x6 = some (x3, x6, c5, nI 0) := by
        intro c5 x8 hm x3 x6
        show fX5_number_s86 _ _ _ _ _ _ _ _ _ = _
        unfold fX5_number_s86
        rw [pX5_fineF hn hm]
        simp only [kE_b1, kE_if, L0, if_true]
      rw [if_neg (by rw [nI_eq (by omega) (by omega)]; exact e), pX5_letter hT (by omega), if_pos hlt]
      simp only [kE_b1, show (48 : Int32) = nI 48 by decide, L9]
      rw [in_t ht]
      simp only [kE_b1, bI_eq0, nI_add]
      have hms : MSt n st.2 (nI st.2) (nI 0) := Or.inl ⟨hlt, rfl, rfl⟩
      rw [pX5_letter hT (by omega)]
      have lx : ∃ y, (if st.2 + 1 < n then some (nI (T (st.2 + 1))) else some m1) = some y ∧ y = (if st.2 + 1 < n then nI (T (st.2 + 1)) else m1) := by
        by_cases h4 : st.2 + 1 < n
        · exact ⟨_, if_pos h4, (if_pos h4).symm⟩
        · exact ⟨_, if_neg h4, (if_neg h4).symm⟩
      obtain ⟨y, ey, ey2⟩ := lx
      rw [ey]
      simp only [kE_b1]
      have bad : numS T n lo hi st.2 = none → ∃ x sp' wr' sh', k_l3 (fX5_number_s86 (nI st.2) (nI 0) (nI hi) bf (nI n)) 5000 (nI (T st.2) - nI 48) (y - nI 48) (nI (st.2 + 1)) = some (x, sp', wr', sh') ∧ FS n (match numS T n lo hi st.2 with | none => (false, st.2) | some (_, s) => (true, s)) sp' wr' sh' ∧ ∀ v s, st.1 = true → numS T n lo hi st.2 = some (v, s) → x = nI v := by
        intro eN
        rw [eN, stopK _ _ hms]
        exact ⟨_, _, _, _, rfl, Or.inr ⟨rfl, hms⟩, fun v s _ h => by cases h⟩
      by_cases h2 : 48 ≤ T st.2 ∧ T st.2 ≤ 57
      · rw [if_neg (fun z => z h2)]
        rw [nI_sub h2.1] at bad ⊢
        simp (disch := omega) only [nI_leI, nI_eq]
        have good : (lo ≤ T st.2 - 48 ∧ T st.2 - 48 ≤ hi) → ∃ x sp' wr' sh', k_l3 (fX5_number_s86 m1 (nI 0) (nI hi) bf (nI n)) 5000 (nI (T st.2 - 48)) (y - nI 48) (nI (st.2 + 1)) = some (x, sp', wr', sh') ∧ FS n (match numS T n lo hi st.2 with | none => (false, st.2) | some (_, s) => (true, s)) sp' wr' sh' ∧ ∀ v s, st.1 = true → numS T n lo hi st.2 = some (v, s) → x = nI v := by
          intro hg
          have eN : numS T n lo hi st.2 = some (num2 T n hi (T st.2 - 48) (st.2 + 1)) := by unfold numS; rw [if_pos ⟨hlt, h2.1, h2.2, hg.1, hg.2⟩]
          have e1 : k_l3 (fX5_number_s86 m1 (nI 0) (nI hi) bf (nI n)) 5000 (nI (T st.2 - 48)) (y - nI 48) (nI (st.2 + 1)) = some (nI (num2 T n hi (T st.2 - 48) (st.2 + 1)).1, nI (num2 T n hi (T st.2 - 48) (st.2 + 1)).2, m1, nI 0) := by
            refine (sX5_num (lo := lo) hT hhi (by omega) (by omega) (k_l3 _ 4999) (by rw [ey2])).trans ?_
            unfold num2
            by_cases h5 : 0 < T st.2 - 48 ∧ st.2 + 1 < n ∧ 48 ≤ T (st.2 + 1) ∧ T (st.2 + 1) ≤ 57 ∧ 10 * (T st.2 - 48) + (T (st.2 + 1) - 48) ≤ hi
            · rw [if_pos h5, if_pos h5]
              refine (sX5_num (lo := lo) hT hhi (by omega) (by omega) (k_l3 _ 4998) rfl).trans ?_
              rw [if_neg (by omega)]
            · rw [if_neg h5, if_neg h5]
          have hle := numS_le T (by omega) eN
          rw [eN, e1]
          exact ⟨_, _, _, _, rfl, Or.inl ⟨rfl, hle.2.2.2, rfl, rfl, rfl⟩, fun v s _ h => by rw [Option.some.inj h]⟩
        by_cases h3 : lo ≤ T st.2 - 48
        · rw [if_pos h3]
          by_cases h4 : T st.2 - 48 ≤ hi
          · rw [if_pos h4]; exact good ⟨h3, h4⟩
          · rw [if_neg h4]; exact bad (by unfold numS; rw [if_neg (fun z => h4 z.2.2.2.2)])
        · rw [if_neg h3, if_pos (by omega)]
          exact bad (by unfold numS; rw [if_neg (fun z => h3 z.2.2.2.1)])
      · rw [if_pos h2]
        exact bad (by unfold numS; rw [if_neg (fun z => h2 ⟨z.2.1, z.2.2.1⟩)])
  · rw [if_neg (by rw [h0]; decide), pX5_fineF hn h1]
    simp only [kE_b1, kE_if, L0, if_true]
    exact ⟨_, _, _, _, rfl, Or.inr ⟨h0, h1⟩, fun v s h => by rw [h0] at h; cases h⟩
end MT
