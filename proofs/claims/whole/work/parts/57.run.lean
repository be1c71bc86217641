/-! the relation between the class and the model; texts: append, clear, first error, run -/
theorem ix_in {j N : Nat} (h : j < N) (hN : N < 2 ^ 31) : fX4_isIndex (nI j) (nI N) = some (nI 1) := by
  unfold fX4_isIndex
  simp only [↓LM1, kE_let, kE_if, kE_b1, kE_b2, kE_b3, kE_b4, kE_b5, kE_b6, kE_b7, kE_b8, kE_b9, kE_j0, kE_j1, kE_j2, kE_j3, kE_j4, L0, L1]
  rw [if_neg (nI_nlt0 (by omega)), if_neg (nI_ge h hN)]
theorem in_in {j lo hi : Nat} (h1 : lo ≤ j) (h2 : j ≤ hi) (h : hi < 2 ^ 31) : fX5_in (nI j) (nI lo) (nI hi) = some (nI 1) := by
  rw [pX5_in3 (by omega) (by omega) h, bI_t ⟨h1, h2⟩]
theorem ix_or (x : Int32) {N : Nat} (h0 : 0 < N) (hN : N < 2 ^ 31) : (∃ j, j < N ∧ x = nI j) ∨ (fX4_isIndex x (nI N) = some (nI 0) ∧ fX5_in x (nI 0) (nI (N - 1)) = some (nI 0)) := by
  rcases pk_ix x hN with h | h | h
  · right
    unfold fX4_isIndex fX5_in
    simp only [↓LM1, kE_let, kE_if, kE_b1, kE_b2, kE_b3, kE_b4, kE_b5, kE_b6, kE_b7, kE_b8, kE_b9, kE_j0, kE_j1, kE_j2, kE_j3, kE_j4, L0]
    have hx : x < nI 0 := h
    refine ⟨?_, ?_⟩
    · rw [if_pos hx]
    · rw [if_pos hx]
  · right
    unfold fX4_isIndex fX5_in
    simp only [↓LM1, kE_let, kE_if, kE_b1, kE_b2, kE_b3, kE_b4, kE_b5, kE_b6, kE_b7, kE_b8, kE_b9, kE_j0, kE_j1, kE_j2, kE_j3, kE_j4, L0]
    have hx : ¬ x < nI 0 := by
      intro q
      exact Int32.not_le.mpr (Int32.lt_of_lt_of_le q (nI_le (Nat.zero_le N) hN)) h |> fun z => z
    refine ⟨?_, ?_⟩
    · rw [if_neg hx, if_pos h]
    · rw [if_neg hx, if_pos (Int32.lt_of_lt_of_le (nI_lt (by omega) hN) h)]
  · exact Or.inl h
theorem wi_or (x : Int32) {lo hi : Nat} (h : hi < 2 ^ 30) (hl : lo ≤ hi) : (∃ j, lo ≤ j ∧ j ≤ hi ∧ x = nI j) ∨ (fX4_isWithin x (nI lo) (nI hi) = some (nI 0) ∧ fX5_in x (nI lo) (nI hi) = some (nI 0)) := by
  by_cases h1 : x < nI lo
  · right
    unfold fX4_isWithin fX5_in
    simp only [↓LM1, kE_let, kE_if, kE_b1, kE_b2, kE_b3, kE_b4, kE_b5, kE_b6, kE_b7, kE_b8, kE_b9, kE_j0, kE_j1, kE_j2, kE_j3, kE_j4, L0]
    rw [if_pos h1]
    exact ⟨rfl, rfl⟩
  · by_cases h2 : nI hi < x
    · right
      unfold fX4_isWithin fX5_in
      simp only [↓LM1, kE_let, kE_if, kE_b1, kE_b2, kE_b3, kE_b4, kE_b5, kE_b6, kE_b7, kE_b8, kE_b9, kE_j0, kE_j1, kE_j2, kE_j3, kE_j4, L0]
      rw [if_neg h1, if_pos h2]
      exact ⟨rfl, rfl⟩
    · left
      have h3 : ¬ x < 0 := fun q => h1 (Int32.lt_of_lt_of_le q (by rw [L0]; exact nI_le (Nat.zero_le lo) (by omega)))
      obtain ⟨j, hj, rfl⟩ := nI_of h3
      rw [nI_ltI hj (by omega)] at h1
      rw [nI_ltI (by omega) hj] at h2
      exact ⟨j, by omega, by omega, rfl⟩
def RLc (S : ST) (St : Nat → ST) (m old : Nat) (no nt ns : Nat → Int32) (ni ne np : Int32) (sr : Nat → SV) (so sc : Int32) : Prop := WFs S ∧ RSs S (no, nt, ns, ni, ne, np) ∧ m ≤ 6 ∧ old < 6 ∧ so = nI old ∧ sc = nI m ∧ RSC St m sr old ∧ ∀ j, j < m → WFs (St j)
def RLm (S : ST) (St : Nat → ST) (m : Nat) (z sv : Nat → Int32) (sm : Int32) : Prop := RZs S z ∧ RSZ St m sv ∧ sm = nI m
theorem saveF_wf {St : Nat → ST} {m : Nat} {S : ST} (hS : WFs S) (h : ∀ j, j < m → WFs (St j)) : ∀ j, j < saveM m → WFs (saveF St m S j) := by
  intro j hj
  unfold saveF saveM at *
  by_cases e : m = 6
  · rw [if_pos e] at hj ⊢
    by_cases h5 : j < 5
    · show WFs (if j < 5 then St (j + 1) else S)
      rw [if_pos h5]; exact h (j + 1) (by omega)
    · show WFs (if j < 5 then St (j + 1) else S)
      rw [if_neg h5]; exact hS
  · rw [if_neg e] at hj ⊢
    by_cases h5 : j = m
    · show WFs (if j = m then S else St j)
      rw [if_pos h5]; exact hS
    · show WFs (if j = m then S else St j)
      rw [if_neg h5]; exact h j (by omega)
section RT
variable {S : ST} {St : Nat → ST} {m old : Nat} {no nt ns : Nat → Int32} {ni ne np : Int32} {sr : Nat → SV} {so sc : Int32} {z sv : Nat → Int32} {sm : Int32}
theorem RL_save (hc : RLc S St m old no nt ns ni ne np sr so sc) (hm : RLm S St m z sv sm) : ∃ sr' old' sv', fX2_save sr so sc no nt ns ni ne np = some (sr', nI old', nI (saveM m)) ∧ fX5_save z sv sm = some (sv', nI (saveM m)) ∧ ∀ S' no' nt' ns' ni' ne' np' z', WFs S' → RSs S' (no', nt', ns', ni', ne', np') → RZs S' z' → RLc S' (saveF St m S) (saveM m) old' no' nt' ns' ni' ne' np' sr' (nI old') (nI (saveM m)) ∧ RLm S' (saveF St m S) (saveM m) z' sv' (nI (saveM m)) := by
  obtain ⟨h1, h2, h3, h4, rfl, rfl, h7, h8⟩ := hc
  obtain ⟨z1, z2, rfl⟩ := hm
  obtain ⟨sr', old', e1, o1, r1⟩ := pX2_save (g := S.1) (tk := S.2.1) (en := S.2.2.1) (pu := S.2.2.2.1) (se := S.2.2.2.2) h2 h3 h4 h7
  refine ⟨sr', old', _, e1, pX5_save z sv h3, fun S' no' nt' ns' ni' ne' np' z' w1 w2 w3 => ⟨⟨w1, w2, saveM_le h3, o1, rfl, rfl, r1, saveF_wf h1 h8⟩, w3, ?_, rfl⟩⟩
  exact pX5_saveR (g := S.1) (tk := S.2.1) (en := S.2.2.1) (pu := S.2.2.2.1) (se := S.2.2.2.2) z1 h3 z2
end RT
section RX
variable {T : Nat → Nat} {n : Nat} {sg bf : Nat → Int32}
theorem ch_e {j : Nat} (h : j < 128) : vp_nar .char ((nI j).toUInt32 % 65536).toInt32 = nI j := (by decide +kernel : ∀ j, j < 128 → vp_nar .char ((nI j).toUInt32 % 65536).toInt32 = nI j) j h
theorem pX1_isFull {n : Nat} (hn : n ≤ 60) : fX1_isFull (nI n) = some (bI (n = 60)) := by
  unfold fX1_isFull
  simp (disch := omega) only [↓LM1, kE_let, kE_if, kE_b1, kE_b2, kE_b3, kE_b4, kE_b5, kE_b6, kE_b7, kE_b8, kE_b9, kE_j0, kE_j1, kE_j2, kE_j3, kE_j4, L60, nI_ltI, L0, L1]
  by_cases h : n < 60
  · rw [if_pos h, bI_f (by omega)]
  · rw [if_neg h, bI_t (by omega)]
def upT (T : Nat → Nat) (n c : Nat) : Nat → Nat := fun j => if j = n then c else T j
theorem TX.add (h : TX T n sg) {c : Nat} (hn : n < 60) (hc : c < 128) : TX (upT T n c) (n + 1) (upd sg n (nI c)) := by
  refine ⟨hn, fun j hj => ?_⟩
  rw [upd_z]
  unfold upT
  by_cases e : j = n
  · rw [if_pos e, if_pos e]; exact ⟨rfl, hc⟩
  · rw [if_neg e, if_neg e]; exact h.2 j (by omega)
theorem pr_append (hs : TX T n sg) (hb : TX T n bf) (th : Int32) (p : Int32) : ∃ (k : Nat) (r : Int32) (sg' bf' : Nat → Int32) (n' : Nat) (T' : Nat → Nat) (w : Int32), fX4_append sg (nI n) p = some (k, r, sg', nI n') ∧ fX5_append th bf (nI n) p = some (r, w, bf', nI n') ∧ ((k = 0 ∧ w = nI 0) ∨ (k = 2 ∧ w = nI 1) ∨ (k = 3 ∧ w = nI 2)) ∧ TX T' n' sg' ∧ TX T' n' bf' := by
  have hn := hs.1
  rcases wi_or p (lo := 33) (hi := 126) (by decide) (by decide) with ⟨j, h1, h2, rfl⟩ | ⟨h1, h2⟩
  · have e1 : fX4_isWithin (nI j) (nI 33) (nI 126) = some (nI 1) := in_in h1 h2 (by decide)
    have e2 : fX5_in (nI j) (nI 33) (nI 126) = some (nI 1) := in_in h1 h2 (by decide)
    by_cases hf : n = 60
    · refine ⟨3, 0, sg, bf, n, T, nI 2, ?_, ?_, Or.inr (Or.inr ⟨rfl, rfl⟩), hs, hb⟩
      · unfold fX4_append
        simp only [↓LM1, kE_let, kE_if, kE_b1, kE_b2, kE_b3, kE_b4, kE_b5, kE_b6, kE_b7, kE_b8, kE_b9, kE_j0, kE_j1, kE_j2, kE_j3, kE_j4, L33, L126, e1, n10, if_false, L0, pX1_isFull hn]
        rw [bI_t hf, if_neg n10]
        simp only [if_true]
      · unfold fX5_append
        simp only [↓LM1, kE_let, kE_if, kE_b1, kE_b2, kE_b3, kE_b4, kE_b5, kE_b6, kE_b7, kE_b8, kE_b9, kE_j0, kE_j1, kE_j2, kE_j3, kE_j4, L33, L126, e2, n10, if_false, L0, L60]
        rw [if_pos (by rw [hf]), L2, if_neg (by decide)]
    · refine ⟨0, nI (n + 1), upd sg n (nI j), upd bf n (nI j), n + 1, upT T n j, nI 0, ?_, ?_, Or.inl ⟨rfl, rfl⟩, hs.add (by omega) (by omega), hb.add (by omega) (by omega)⟩
      · unfold fX4_append fX1_add
        simp only [↓LM1, kE_let, kE_if, kE_b1, kE_b2, kE_b3, kE_b4, kE_b5, kE_b6, kE_b7, kE_b8, kE_b9, kE_j0, kE_j1, kE_j2, kE_j3, kE_j4, L33, L126, e1, n10, if_false, L0, pX1_isFull hn]
        rw [bI_f hf, if_pos rfl]
        simp (disch := omega) only [L1, n10, if_false, kE_b1, if_true, kE_ck, nI_clamp, ch_e, nI_add, kE_b2]
      · unfold fX5_append
        simp only [↓LM1, kE_let, kE_if, kE_b1, kE_b2, kE_b3, kE_b4, kE_b5, kE_b6, kE_b7, kE_b8, kE_b9, kE_j0, kE_j1, kE_j2, kE_j3, kE_j4, L33, L126, e2, n10, if_false, L0, L60]
        rw [if_neg (by rw [nI_eq (by omega) (by decide)]; exact hf), if_pos (by decide)]
        simp (disch := omega) only [kE_ck, nI_clamp, L1, nI_add]
  · refine ⟨2, 0, sg, bf, n, T, nI 1, ?_, ?_, Or.inr (Or.inl ⟨rfl, rfl⟩), hs, hb⟩
    · unfold fX4_append
      simp only [↓LM1, kE_let, kE_if, kE_b1, kE_b2, kE_b3, kE_b4, kE_b5, kE_b6, kE_b7, kE_b8, kE_b9, kE_j0, kE_j1, kE_j2, kE_j3, kE_j4, L33, L126, h1, L0, if_true]
    · unfold fX5_append
      simp only [↓LM1, kE_let, kE_if, kE_b1, kE_b2, kE_b3, kE_b4, kE_b5, kE_b6, kE_b7, kE_b8, kE_b9, kE_j0, kE_j1, kE_j2, kE_j3, kE_j4, L33, L126, h2, L0, if_true, L1]
      rw [if_neg (by decide)]
theorem pr_first (hs : TX T n sg) (hb : TX T n bf) (a b c : Int32) (ks ns vs : Nat → Int32) (th : Int32) (od : Nat → Int32) (om sp wr sh : Int32) : ∃ r a' b' c' ks' ns' vs' od' om' sp' wr' sh', fX4_firstError sg (nI n) a b c ks ns vs = some (r, a', b', c', ks', ns', vs') ∧ fX5_firstError th bf (nI n) mr0 mb0 od om sp wr sh = some (r, nI 0, od', om', sp', wr', sh') := by
  have hn := hs.1
  obtain ⟨ks', ns', vs', e1, -⟩ := pX1_scan hs a b c ks ns vs
  obtain ⟨od', many, sp', wr', sh', e2, f2, -⟩ := pX5_readBuffer hb od om sp wr sh
  unfold fX4_firstError fX5_firstError
  rw [e1, e2]
  simp only [↓LM1, kE_let, kE_if, kE_b1, kE_b2, kE_b3, kE_b4, kE_b5, kE_b6, kE_b7, kE_b8, kE_b9, kE_j0, kE_j1, kE_j2, kE_j3, kE_j4, L0]
  have hcase : (wr' = m1 ∧ (scS T n 11 0).2.1 = n) ∨ (¬ wr' = m1 ∧ wr' = nI (scS T n 11 0).2.1) := by
    have hcomp : ∀ f q, q ≤ n → (scS T n f q).2.2 = true → (scS T n f q).2.1 = n := by
      intro f
      induction f with
      | zero => intro q _ h; cases h
      | succ f ih =>
        intro q hq h
        rw [scS] at h ⊢
        have ho := odS_le T hq
        rcases e : odS T n q with ⟨o, s⟩
        rw [e] at h ho
        cases o with
        | none => cases h
        | some o =>
          simp only at h ⊢
          by_cases q1 : s = n
          · rw [if_pos q1]
          · rw [if_neg q1] at h ⊢
            by_cases q2 : T s = 59
            · rw [if_pos q2] at h ⊢
              have hs2 : s ≤ n := ho.1
              exact ih (s + 1) (by omega) h
            · rw [if_neg q2] at h; cases h
    rcases f2 with ⟨h1, h2, h3, h4, h5⟩ | ⟨h1, h2⟩
    · exact Or.inl ⟨h4, hcomp 11 0 (Nat.zero_le _) h1⟩
    · rcases h2 with ⟨h3, h4, h5⟩ | ⟨h3, h4, h5⟩
      · exact Or.inr ⟨by rw [h4]; exact nI_nm1 (by show (scS T n 11 0).2.1 < _; have : (scS T n 11 0).2.1 < n := h3; omega), h4⟩
      · exact Or.inl ⟨h4, h3⟩
  rcases hcase with ⟨h1, h2⟩ | ⟨h1, h2⟩
  · rw [if_pos h1, h2]
    exact ⟨_, _, _, _, _, _, _, _, _, _, _, _, rfl, rfl⟩
  · rw [if_neg h1, h2]
    exact ⟨_, _, _, _, _, _, _, _, _, _, _, _, rfl, rfl⟩
end RX
