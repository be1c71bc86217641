/-! the pure part: the class and the model answer alike; how the steps compute -/
theorem kE_let {α β : Type} (a : α) (F : α → Option β) : k_let a F = F a := Eq.trans rfl rfl
theorem kE_if {β : Type} (P : Prop) [Decidable P] (a b : Option β) : k_if P a b = if P then a else b := Eq.trans rfl rfl
theorem kE_b1 {A0 β : Type} (x0 : A0) (F : A0 → Option β) : k_b1 (some (x0)) F = F x0 := Eq.trans rfl rfl
theorem kE_b2 {A0 A1 β : Type} (x0 : A0) (x1 : A1) (F : A0 → A1 → Option β) : k_b2 (some (x0, x1)) F = F x0 x1 := Eq.trans rfl rfl
theorem kE_b3 {A0 A1 A2 β : Type} (x0 : A0) (x1 : A1) (x2 : A2) (F : A0 → A1 → A2 → Option β) : k_b3 (some (x0, x1, x2)) F = F x0 x1 x2 := Eq.trans rfl rfl
theorem kE_b4 {A0 A1 A2 A3 β : Type} (x0 : A0) (x1 : A1) (x2 : A2) (x3 : A3) (F : A0 → A1 → A2 → A3 → Option β) : k_b4 (some (x0, x1, x2, x3)) F = F x0 x1 x2 x3 := Eq.trans rfl rfl
theorem kE_b5 {A0 A1 A2 A3 A4 β : Type} (x0 : A0) (x1 : A1) (x2 : A2) (x3 : A3) (x4 : A4) (F : A0 → A1 → A2 → A3 → A4 → Option β) : k_b5 (some (x0, x1, x2, x3, x4)) F = F x0 x1 x2 x3 x4 := Eq.trans rfl rfl
theorem kE_b6 {A0 A1 A2 A3 A4 A5 β : Type} (x0 : A0) (x1 : A1) (x2 : A2) (x3 : A3) (x4 : A4) (x5 : A5) (F : A0 → A1 → A2 → A3 → A4 → A5 → Option β) : k_b6 (some (x0, x1, x2, x3, x4, x5)) F = F x0 x1 x2 x3 x4 x5 := Eq.trans rfl rfl
theorem kE_b7 {A0 A1 A2 A3 A4 A5 A6 β : Type} (x0 : A0) (x1 : A1) (x2 : A2) (x3 : A3) (x4 : A4) (x5 : A5) (x6 : A6) (F : A0 → A1 → A2 → A3 → A4 → A5 → A6 → Option β) : k_b7 (some (x0, x1, x2, x3, x4, x5, x6)) F = F x0 x1 x2 x3 x4 x5 x6 := Eq.trans rfl rfl
theorem kE_b8 {A0 A1 A2 A3 A4 A5 A6 A7 β : Type} (x0 : A0) (x1 : A1) (x2 : A2) (x3 : A3) (x4 : A4) (x5 : A5) (x6 : A6) (x7 : A7) (F : A0 → A1 → A2 → A3 → A4 → A5 → A6 → A7 → Option β) : k_b8 (some (x0, x1, x2, x3, x4, x5, x6, x7)) F = F x0 x1 x2 x3 x4 x5 x6 x7 := Eq.trans rfl rfl
theorem kE_b9 {A0 A1 A2 A3 A4 A5 A6 A7 A8 β : Type} (x0 : A0) (x1 : A1) (x2 : A2) (x3 : A3) (x4 : A4) (x5 : A5) (x6 : A6) (x7 : A7) (x8 : A8) (F : A0 → A1 → A2 → A3 → A4 → A5 → A6 → A7 → A8 → Option β) : k_b9 (some (x0, x1, x2, x3, x4, x5, x6, x7, x8)) F = F x0 x1 x2 x3 x4 x5 x6 x7 x8 := Eq.trans rfl rfl
theorem kE_b10 {A0 A1 A2 A3 A4 A5 A6 A7 A8 A9 β : Type} (x0 : A0) (x1 : A1) (x2 : A2) (x3 : A3) (x4 : A4) (x5 : A5) (x6 : A6) (x7 : A7) (x8 : A8) (x9 : A9) (F : A0 → A1 → A2 → A3 → A4 → A5 → A6 → A7 → A8 → A9 → Option β) : k_b10 (some (x0, x1, x2, x3, x4, x5, x6, x7, x8, x9)) F = F x0 x1 x2 x3 x4 x5 x6 x7 x8 x9 := Eq.trans rfl rfl
theorem kE_b11 {A0 A1 A2 A3 A4 A5 A6 A7 A8 A9 A10 β : Type} (x0 : A0) (x1 : A1) (x2 : A2) (x3 : A3) (x4 : A4) (x5 : A5) (x6 : A6) (x7 : A7) (x8 : A8) (x9 : A9) (x10 : A10) (F : A0 → A1 → A2 → A3 → A4 → A5 → A6 → A7 → A8 → A9 → A10 → Option β) : k_b11 (some (x0, x1, x2, x3, x4, x5, x6, x7, x8, x9, x10)) F = F x0 x1 x2 x3 x4 x5 x6 x7 x8 x9 x10 := Eq.trans rfl rfl
theorem kE_b12 {A0 A1 A2 A3 A4 A5 A6 A7 A8 A9 A10 A11 β : Type} (x0 : A0) (x1 : A1) (x2 : A2) (x3 : A3) (x4 : A4) (x5 : A5) (x6 : A6) (x7 : A7) (x8 : A8) (x9 : A9) (x10 : A10) (x11 : A11) (F : A0 → A1 → A2 → A3 → A4 → A5 → A6 → A7 → A8 → A9 → A10 → A11 → Option β) : k_b12 (some (x0, x1, x2, x3, x4, x5, x6, x7, x8, x9, x10, x11)) F = F x0 x1 x2 x3 x4 x5 x6 x7 x8 x9 x10 x11 := Eq.trans rfl rfl
theorem kE_b13 {A0 A1 A2 A3 A4 A5 A6 A7 A8 A9 A10 A11 A12 β : Type} (x0 : A0) (x1 : A1) (x2 : A2) (x3 : A3) (x4 : A4) (x5 : A5) (x6 : A6) (x7 : A7) (x8 : A8) (x9 : A9) (x10 : A10) (x11 : A11) (x12 : A12) (F : A0 → A1 → A2 → A3 → A4 → A5 → A6 → A7 → A8 → A9 → A10 → A11 → A12 → Option β) : k_b13 (some (x0, x1, x2, x3, x4, x5, x6, x7, x8, x9, x10, x11, x12)) F = F x0 x1 x2 x3 x4 x5 x6 x7 x8 x9 x10 x11 x12 := Eq.trans rfl rfl
theorem kE_b14 {A0 A1 A2 A3 A4 A5 A6 A7 A8 A9 A10 A11 A12 A13 β : Type} (x0 : A0) (x1 : A1) (x2 : A2) (x3 : A3) (x4 : A4) (x5 : A5) (x6 : A6) (x7 : A7) (x8 : A8) (x9 : A9) (x10 : A10) (x11 : A11) (x12 : A12) (x13 : A13) (F : A0 → A1 → A2 → A3 → A4 → A5 → A6 → A7 → A8 → A9 → A10 → A11 → A12 → A13 → Option β) : k_b14 (some (x0, x1, x2, x3, x4, x5, x6, x7, x8, x9, x10, x11, x12, x13)) F = F x0 x1 x2 x3 x4 x5 x6 x7 x8 x9 x10 x11 x12 x13 := Eq.trans rfl rfl
theorem kE_b15 {A0 A1 A2 A3 A4 A5 A6 A7 A8 A9 A10 A11 A12 A13 A14 β : Type} (x0 : A0) (x1 : A1) (x2 : A2) (x3 : A3) (x4 : A4) (x5 : A5) (x6 : A6) (x7 : A7) (x8 : A8) (x9 : A9) (x10 : A10) (x11 : A11) (x12 : A12) (x13 : A13) (x14 : A14) (F : A0 → A1 → A2 → A3 → A4 → A5 → A6 → A7 → A8 → A9 → A10 → A11 → A12 → A13 → A14 → Option β) : k_b15 (some (x0, x1, x2, x3, x4, x5, x6, x7, x8, x9, x10, x11, x12, x13, x14)) F = F x0 x1 x2 x3 x4 x5 x6 x7 x8 x9 x10 x11 x12 x13 x14 := Eq.trans rfl rfl
theorem kE_b16 {A0 A1 A2 A3 A4 A5 A6 A7 A8 A9 A10 A11 A12 A13 A14 A15 β : Type} (x0 : A0) (x1 : A1) (x2 : A2) (x3 : A3) (x4 : A4) (x5 : A5) (x6 : A6) (x7 : A7) (x8 : A8) (x9 : A9) (x10 : A10) (x11 : A11) (x12 : A12) (x13 : A13) (x14 : A14) (x15 : A15) (F : A0 → A1 → A2 → A3 → A4 → A5 → A6 → A7 → A8 → A9 → A10 → A11 → A12 → A13 → A14 → A15 → Option β) : k_b16 (some (x0, x1, x2, x3, x4, x5, x6, x7, x8, x9, x10, x11, x12, x13, x14, x15)) F = F x0 x1 x2 x3 x4 x5 x6 x7 x8 x9 x10 x11 x12 x13 x14 x15 := Eq.trans rfl rfl
theorem kE_b17 {A0 A1 A2 A3 A4 A5 A6 A7 A8 A9 A10 A11 A12 A13 A14 A15 A16 β : Type} (x0 : A0) (x1 : A1) (x2 : A2) (x3 : A3) (x4 : A4) (x5 : A5) (x6 : A6) (x7 : A7) (x8 : A8) (x9 : A9) (x10 : A10) (x11 : A11) (x12 : A12) (x13 : A13) (x14 : A14) (x15 : A15) (x16 : A16) (F : A0 → A1 → A2 → A3 → A4 → A5 → A6 → A7 → A8 → A9 → A10 → A11 → A12 → A13 → A14 → A15 → A16 → Option β) : k_b17 (some (x0, x1, x2, x3, x4, x5, x6, x7, x8, x9, x10, x11, x12, x13, x14, x15, x16)) F = F x0 x1 x2 x3 x4 x5 x6 x7 x8 x9 x10 x11 x12 x13 x14 x15 x16 := Eq.trans rfl rfl
theorem kE_b18 {A0 A1 A2 A3 A4 A5 A6 A7 A8 A9 A10 A11 A12 A13 A14 A15 A16 A17 β : Type} (x0 : A0) (x1 : A1) (x2 : A2) (x3 : A3) (x4 : A4) (x5 : A5) (x6 : A6) (x7 : A7) (x8 : A8) (x9 : A9) (x10 : A10) (x11 : A11) (x12 : A12) (x13 : A13) (x14 : A14) (x15 : A15) (x16 : A16) (x17 : A17) (F : A0 → A1 → A2 → A3 → A4 → A5 → A6 → A7 → A8 → A9 → A10 → A11 → A12 → A13 → A14 → A15 → A16 → A17 → Option β) : k_b18 (some (x0, x1, x2, x3, x4, x5, x6, x7, x8, x9, x10, x11, x12, x13, x14, x15, x16, x17)) F = F x0 x1 x2 x3 x4 x5 x6 x7 x8 x9 x10 x11 x12 x13 x14 x15 x16 x17 := Eq.trans rfl rfl
theorem kE_b19 {A0 A1 A2 A3 A4 A5 A6 A7 A8 A9 A10 A11 A12 A13 A14 A15 A16 A17 A18 β : Type} (x0 : A0) (x1 : A1) (x2 : A2) (x3 : A3) (x4 : A4) (x5 : A5) (x6 : A6) (x7 : A7) (x8 : A8) (x9 : A9) (x10 : A10) (x11 : A11) (x12 : A12) (x13 : A13) (x14 : A14) (x15 : A15) (x16 : A16) (x17 : A17) (x18 : A18) (F : A0 → A1 → A2 → A3 → A4 → A5 → A6 → A7 → A8 → A9 → A10 → A11 → A12 → A13 → A14 → A15 → A16 → A17 → A18 → Option β) : k_b19 (some (x0, x1, x2, x3, x4, x5, x6, x7, x8, x9, x10, x11, x12, x13, x14, x15, x16, x17, x18)) F = F x0 x1 x2 x3 x4 x5 x6 x7 x8 x9 x10 x11 x12 x13 x14 x15 x16 x17 x18 := Eq.trans rfl rfl
theorem kE_b20 {A0 A1 A2 A3 A4 A5 A6 A7 A8 A9 A10 A11 A12 A13 A14 A15 A16 A17 A18 A19 β : Type} (x0 : A0) (x1 : A1) (x2 : A2) (x3 : A3) (x4 : A4) (x5 : A5) (x6 : A6) (x7 : A7) (x8 : A8) (x9 : A9) (x10 : A10) (x11 : A11) (x12 : A12) (x13 : A13) (x14 : A14) (x15 : A15) (x16 : A16) (x17 : A17) (x18 : A18) (x19 : A19) (F : A0 → A1 → A2 → A3 → A4 → A5 → A6 → A7 → A8 → A9 → A10 → A11 → A12 → A13 → A14 → A15 → A16 → A17 → A18 → A19 → Option β) : k_b20 (some (x0, x1, x2, x3, x4, x5, x6, x7, x8, x9, x10, x11, x12, x13, x14, x15, x16, x17, x18, x19)) F = F x0 x1 x2 x3 x4 x5 x6 x7 x8 x9 x10 x11 x12 x13 x14 x15 x16 x17 x18 x19 := Eq.trans rfl rfl
theorem kE_j0 {β : Type} (F : Option β) (G : Option β → Option β) : k_j0 F G = G F := Eq.trans rfl rfl
theorem kE_j1 {A0 β : Type} (F : A0 → Option β) (G : (A0 → Option β) → Option β) : k_j1 F G = G F := Eq.trans rfl rfl
theorem kE_j2 {A0 A1 β : Type} (F : A0 → A1 → Option β) (G : (A0 → A1 → Option β) → Option β) : k_j2 F G = G F := Eq.trans rfl rfl
theorem kE_j3 {A0 A1 A2 β : Type} (F : A0 → A1 → A2 → Option β) (G : (A0 → A1 → A2 → Option β) → Option β) : k_j3 F G = G F := Eq.trans rfl rfl
theorem kE_j4 {A0 A1 A2 A3 β : Type} (F : A0 → A1 → A2 → A3 → Option β) (G : (A0 → A1 → A2 → A3 → Option β) → Option β) : k_j4 F G = G F := Eq.trans rfl rfl
theorem kE_j5 {A0 A1 A2 A3 A4 β : Type} (F : A0 → A1 → A2 → A3 → A4 → Option β) (G : (A0 → A1 → A2 → A3 → A4 → Option β) → Option β) : k_j5 F G = G F := Eq.trans rfl rfl
theorem kE_j6 {A0 A1 A2 A3 A4 A5 β : Type} (F : A0 → A1 → A2 → A3 → A4 → A5 → Option β) (G : (A0 → A1 → A2 → A3 → A4 → A5 → Option β) → Option β) : k_j6 F G = G F := Eq.trans rfl rfl
theorem kE_j7 {A0 A1 A2 A3 A4 A5 A6 β : Type} (F : A0 → A1 → A2 → A3 → A4 → A5 → A6 → Option β) (G : (A0 → A1 → A2 → A3 → A4 → A5 → A6 → Option β) → Option β) : k_j7 F G = G F := Eq.trans rfl rfl
theorem kE_j8 {A0 A1 A2 A3 A4 A5 A6 A7 β : Type} (F : A0 → A1 → A2 → A3 → A4 → A5 → A6 → A7 → Option β) (G : (A0 → A1 → A2 → A3 → A4 → A5 → A6 → A7 → Option β) → Option β) : k_j8 F G = G F := Eq.trans rfl rfl
theorem kE_j9 {A0 A1 A2 A3 A4 A5 A6 A7 A8 β : Type} (F : A0 → A1 → A2 → A3 → A4 → A5 → A6 → A7 → A8 → Option β) (G : (A0 → A1 → A2 → A3 → A4 → A5 → A6 → A7 → A8 → Option β) → Option β) : k_j9 F G = G F := Eq.trans rfl rfl
theorem kE_j10 {A0 A1 A2 A3 A4 A5 A6 A7 A8 A9 β : Type} (F : A0 → A1 → A2 → A3 → A4 → A5 → A6 → A7 → A8 → A9 → Option β) (G : (A0 → A1 → A2 → A3 → A4 → A5 → A6 → A7 → A8 → A9 → Option β) → Option β) : k_j10 F G = G F := Eq.trans rfl rfl
theorem kE_ck {β : Type} {j n : Nat} {b : Option β} (h : j < n) (hn : n < 2 ^ 31) : k_ck (nI j) n b = b := by
  unfold k_ck
  exact if_neg (nI_in h hn)
theorem kE_bz0 {β : Type} {b : Option β} : k_bz (nI 0) b = b := rfl
theorem kE_bz1 {β : Type} {b : Option β} : k_bz (nI 1) b = b := rfl
theorem kE_bz {β : Type} {v : Int32} {b : Option β} (h : v = nI 0 ∨ v = nI 1) : k_bz v b = b := by
  rcases h with rfl | rfl <;> rfl
theorem L0 : (0 : Int32) = nI 0 := by decide
theorem L1 : (1 : Int32) = nI 1 := by decide
theorem L2 : (2 : Int32) = nI 2 := by decide
theorem L3 : (3 : Int32) = nI 3 := by decide
theorem L4 : (4 : Int32) = nI 4 := by decide
theorem L5 : (5 : Int32) = nI 5 := by decide
theorem L6 : (6 : Int32) = nI 6 := by decide
theorem L7 : (7 : Int32) = nI 7 := by decide
theorem L8 : (8 : Int32) = nI 8 := by decide
theorem L9 : (9 : Int32) = nI 9 := by decide
theorem L10 : (10 : Int32) = nI 10 := by decide
theorem L11 : (11 : Int32) = nI 11 := by decide
theorem L12 : (12 : Int32) = nI 12 := by decide
theorem L13 : (13 : Int32) = nI 13 := by decide
theorem L14 : (14 : Int32) = nI 14 := by decide
theorem L15 : (15 : Int32) = nI 15 := by decide
theorem L16 : (16 : Int32) = nI 16 := by decide
theorem L19 : (19 : Int32) = nI 19 := by decide
theorem L20 : (20 : Int32) = nI 20 := by decide
theorem L31 : (31 : Int32) = nI 31 := by decide
theorem L32 : (32 : Int32) = nI 32 := by decide
theorem L33 : (33 : Int32) = nI 33 := by decide
theorem L36 : (36 : Int32) = nI 36 := by decide
theorem L48 : (48 : Int32) = nI 48 := by decide
theorem L49 : (49 : Int32) = nI 49 := by decide
theorem L57 : (57 : Int32) = nI 57 := by decide
theorem L60 : (60 : Int32) = nI 60 := by decide
theorem L63 : (63 : Int32) = nI 63 := by decide
theorem L64 : (64 : Int32) = nI 64 := by decide
theorem L99 : (99 : Int32) = nI 99 := by decide
theorem L126 : (126 : Int32) = nI 126 := by decide
theorem L327 : (327 : Int32) = nI 327 := by decide
theorem L1023 : (1023 : Int32) = nI 1023 := by decide
theorem L1635 : (1635 : Int32) = nI 1635 := by decide
theorem L1962 : (1962 : Int32) = nI 1962 := by decide
theorem L9999 : (9999 : Int32) = nI 9999 := by decide
theorem L16383 : (16383 : Int32) = nI 16383 := by decide
theorem L37449 : (37449 : Int32) = nI 37449 := by decide
theorem kE_l1 {A0 β : Type} {S : (A0 → Option β) → A0 → Option β} {r : Option β} (N fuel : Nat) (s0 : Nat → A0) (hstep : ∀ (k : Nat) (K : A0 → Option β), k < N → S K (s0 k) = K (s0 (k + 1))) (hend : ∀ K : A0 → Option β, S K (s0 N) = r) (hf : N < fuel) : k_l1 S fuel (s0 0) = r := by
  have go : ∀ (d fu : Nat), d ≤ N → d < fu → k_l1 S fu (s0 (N - d)) = r := by
    intro d
    induction d with
    | zero =>
      intro fu _ hfu
      obtain ⟨fu, rfl⟩ : ∃ x, fu = x + 1 := ⟨fu - 1, by omega⟩
      exact hend _
    | succ d ih =>
      intro fu hd hfu
      obtain ⟨fu, rfl⟩ : ∃ x, fu = x + 1 := ⟨fu - 1, by omega⟩
      have h1 := hstep (N - (d + 1)) (k_l1 S fu) (by omega)
      rw [show N - (d + 1) + 1 = N - d by omega] at h1
      exact h1.trans (ih fu (by omega) (by omega))
  have := go N fuel (Nat.le_refl _) hf
  rw [Nat.sub_self] at this
  exact this
theorem kE_l2 {A0 A1 β : Type} {S : (A0 → A1 → Option β) → A0 → A1 → Option β} {r : Option β} (N fuel : Nat) (s0 : Nat → A0) (s1 : Nat → A1) (hstep : ∀ (k : Nat) (K : A0 → A1 → Option β), k < N → S K (s0 k) (s1 k) = K (s0 (k + 1)) (s1 (k + 1))) (hend : ∀ K : A0 → A1 → Option β, S K (s0 N) (s1 N) = r) (hf : N < fuel) : k_l2 S fuel (s0 0) (s1 0) = r := by
  have go : ∀ (d fu : Nat), d ≤ N → d < fu → k_l2 S fu (s0 (N - d)) (s1 (N - d)) = r := by
    intro d
    induction d with
    | zero =>
      intro fu _ hfu
      obtain ⟨fu, rfl⟩ : ∃ x, fu = x + 1 := ⟨fu - 1, by omega⟩
      exact hend _
    | succ d ih =>
      intro fu hd hfu
      obtain ⟨fu, rfl⟩ : ∃ x, fu = x + 1 := ⟨fu - 1, by omega⟩
      have h1 := hstep (N - (d + 1)) (k_l2 S fu) (by omega)
      rw [show N - (d + 1) + 1 = N - d by omega] at h1
      exact h1.trans (ih fu (by omega) (by omega))
  have := go N fuel (Nat.le_refl _) hf
  rw [Nat.sub_self] at this
  exact this
theorem kE_l3 {A0 A1 A2 β : Type} {S : (A0 → A1 → A2 → Option β) → A0 → A1 → A2 → Option β} {r : Option β} (N fuel : Nat) (s0 : Nat → A0) (s1 : Nat → A1) (s2 : Nat → A2) (hstep : ∀ (k : Nat) (K : A0 → A1 → A2 → Option β), k < N → S K (s0 k) (s1 k) (s2 k) = K (s0 (k + 1)) (s1 (k + 1)) (s2 (k + 1))) (hend : ∀ K : A0 → A1 → A2 → Option β, S K (s0 N) (s1 N) (s2 N) = r) (hf : N < fuel) : k_l3 S fuel (s0 0) (s1 0) (s2 0) = r := by
  have go : ∀ (d fu : Nat), d ≤ N → d < fu → k_l3 S fu (s0 (N - d)) (s1 (N - d)) (s2 (N - d)) = r := by
    intro d
    induction d with
    | zero =>
      intro fu _ hfu
      obtain ⟨fu, rfl⟩ : ∃ x, fu = x + 1 := ⟨fu - 1, by omega⟩
      exact hend _
    | succ d ih =>
      intro fu hd hfu
      obtain ⟨fu, rfl⟩ : ∃ x, fu = x + 1 := ⟨fu - 1, by omega⟩
      have h1 := hstep (N - (d + 1)) (k_l3 S fu) (by omega)
      rw [show N - (d + 1) + 1 = N - d by omega] at h1
      exact h1.trans (ih fu (by omega) (by omega))
  have := go N fuel (Nat.le_refl _) hf
  rw [Nat.sub_self] at this
  exact this
theorem kE_l4 {A0 A1 A2 A3 β : Type} {S : (A0 → A1 → A2 → A3 → Option β) → A0 → A1 → A2 → A3 → Option β} {r : Option β} (N fuel : Nat) (s0 : Nat → A0) (s1 : Nat → A1) (s2 : Nat → A2) (s3 : Nat → A3) (hstep : ∀ (k : Nat) (K : A0 → A1 → A2 → A3 → Option β), k < N → S K (s0 k) (s1 k) (s2 k) (s3 k) = K (s0 (k + 1)) (s1 (k + 1)) (s2 (k + 1)) (s3 (k + 1))) (hend : ∀ K : A0 → A1 → A2 → A3 → Option β, S K (s0 N) (s1 N) (s2 N) (s3 N) = r) (hf : N < fuel) : k_l4 S fuel (s0 0) (s1 0) (s2 0) (s3 0) = r := by
  have go : ∀ (d fu : Nat), d ≤ N → d < fu → k_l4 S fu (s0 (N - d)) (s1 (N - d)) (s2 (N - d)) (s3 (N - d)) = r := by
    intro d
    induction d with
    | zero =>
      intro fu _ hfu
      obtain ⟨fu, rfl⟩ : ∃ x, fu = x + 1 := ⟨fu - 1, by omega⟩
      exact hend _
    | succ d ih =>
      intro fu hd hfu
      obtain ⟨fu, rfl⟩ : ∃ x, fu = x + 1 := ⟨fu - 1, by omega⟩
      have h1 := hstep (N - (d + 1)) (k_l4 S fu) (by omega)
      rw [show N - (d + 1) + 1 = N - d by omega] at h1
      exact h1.trans (ih fu (by omega) (by omega))
  have := go N fuel (Nat.le_refl _) hf
  rw [Nat.sub_self] at this
  exact this
theorem kE_l5 {A0 A1 A2 A3 A4 β : Type} {S : (A0 → A1 → A2 → A3 → A4 → Option β) → A0 → A1 → A2 → A3 → A4 → Option β} {r : Option β} (N fuel : Nat) (s0 : Nat → A0) (s1 : Nat → A1) (s2 : Nat → A2) (s3 : Nat → A3) (s4 : Nat → A4) (hstep : ∀ (k : Nat) (K : A0 → A1 → A2 → A3 → A4 → Option β), k < N → S K (s0 k) (s1 k) (s2 k) (s3 k) (s4 k) = K (s0 (k + 1)) (s1 (k + 1)) (s2 (k + 1)) (s3 (k + 1)) (s4 (k + 1))) (hend : ∀ K : A0 → A1 → A2 → A3 → A4 → Option β, S K (s0 N) (s1 N) (s2 N) (s3 N) (s4 N) = r) (hf : N < fuel) : k_l5 S fuel (s0 0) (s1 0) (s2 0) (s3 0) (s4 0) = r := by
  have go : ∀ (d fu : Nat), d ≤ N → d < fu → k_l5 S fu (s0 (N - d)) (s1 (N - d)) (s2 (N - d)) (s3 (N - d)) (s4 (N - d)) = r := by
    intro d
    induction d with
    | zero =>
      intro fu _ hfu
      obtain ⟨fu, rfl⟩ : ∃ x, fu = x + 1 := ⟨fu - 1, by omega⟩
      exact hend _
    | succ d ih =>
      intro fu hd hfu
      obtain ⟨fu, rfl⟩ : ∃ x, fu = x + 1 := ⟨fu - 1, by omega⟩
      have h1 := hstep (N - (d + 1)) (k_l5 S fu) (by omega)
      rw [show N - (d + 1) + 1 = N - d by omega] at h1
      exact h1.trans (ih fu (by omega) (by omega))
  have := go N fuel (Nat.le_refl _) hf
  rw [Nat.sub_self] at this
  exact this
theorem kE_l6 {A0 A1 A2 A3 A4 A5 β : Type} {S : (A0 → A1 → A2 → A3 → A4 → A5 → Option β) → A0 → A1 → A2 → A3 → A4 → A5 → Option β} {r : Option β} (N fuel : Nat) (s0 : Nat → A0) (s1 : Nat → A1) (s2 : Nat → A2) (s3 : Nat → A3) (s4 : Nat → A4) (s5 : Nat → A5) (hstep : ∀ (k : Nat) (K : A0 → A1 → A2 → A3 → A4 → A5 → Option β), k < N → S K (s0 k) (s1 k) (s2 k) (s3 k) (s4 k) (s5 k) = K (s0 (k + 1)) (s1 (k + 1)) (s2 (k + 1)) (s3 (k + 1)) (s4 (k + 1)) (s5 (k + 1))) (hend : ∀ K : A0 → A1 → A2 → A3 → A4 → A5 → Option β, S K (s0 N) (s1 N) (s2 N) (s3 N) (s4 N) (s5 N) = r) (hf : N < fuel) : k_l6 S fuel (s0 0) (s1 0) (s2 0) (s3 0) (s4 0) (s5 0) = r := by
  have go : ∀ (d fu : Nat), d ≤ N → d < fu → k_l6 S fu (s0 (N - d)) (s1 (N - d)) (s2 (N - d)) (s3 (N - d)) (s4 (N - d)) (s5 (N - d)) = r := by
    intro d
    induction d with
    | zero =>
      intro fu _ hfu
      obtain ⟨fu, rfl⟩ : ∃ x, fu = x + 1 := ⟨fu - 1, by omega⟩
      exact hend _
    | succ d ih =>
      intro fu hd hfu
      obtain ⟨fu, rfl⟩ : ∃ x, fu = x + 1 := ⟨fu - 1, by omega⟩
      have h1 := hstep (N - (d + 1)) (k_l6 S fu) (by omega)
      rw [show N - (d + 1) + 1 = N - d by omega] at h1
      exact h1.trans (ih fu (by omega) (by omega))
  have := go N fuel (Nat.le_refl _) hf
  rw [Nat.sub_self] at this
  exact this
theorem kE_l7 {A0 A1 A2 A3 A4 A5 A6 β : Type} {S : (A0 → A1 → A2 → A3 → A4 → A5 → A6 → Option β) → A0 → A1 → A2 → A3 → A4 → A5 → A6 → Option β} {r : Option β} (N fuel : Nat) (s0 : Nat → A0) (s1 : Nat → A1) (s2 : Nat → A2) (s3 : Nat → A3) (s4 : Nat → A4) (s5 : Nat → A5) (s6 : Nat → A6) (hstep : ∀ (k : Nat) (K : A0 → A1 → A2 → A3 → A4 → A5 → A6 → Option β), k < N → S K (s0 k) (s1 k) (s2 k) (s3 k) (s4 k) (s5 k) (s6 k) = K (s0 (k + 1)) (s1 (k + 1)) (s2 (k + 1)) (s3 (k + 1)) (s4 (k + 1)) (s5 (k + 1)) (s6 (k + 1))) (hend : ∀ K : A0 → A1 → A2 → A3 → A4 → A5 → A6 → Option β, S K (s0 N) (s1 N) (s2 N) (s3 N) (s4 N) (s5 N) (s6 N) = r) (hf : N < fuel) : k_l7 S fuel (s0 0) (s1 0) (s2 0) (s3 0) (s4 0) (s5 0) (s6 0) = r := by
  have go : ∀ (d fu : Nat), d ≤ N → d < fu → k_l7 S fu (s0 (N - d)) (s1 (N - d)) (s2 (N - d)) (s3 (N - d)) (s4 (N - d)) (s5 (N - d)) (s6 (N - d)) = r := by
    intro d
    induction d with
    | zero =>
      intro fu _ hfu
      obtain ⟨fu, rfl⟩ : ∃ x, fu = x + 1 := ⟨fu - 1, by omega⟩
      exact hend _
    | succ d ih =>
      intro fu hd hfu
      obtain ⟨fu, rfl⟩ : ∃ x, fu = x + 1 := ⟨fu - 1, by omega⟩
      have h1 := hstep (N - (d + 1)) (k_l7 S fu) (by omega)
      rw [show N - (d + 1) + 1 = N - d by omega] at h1
      exact h1.trans (ih fu (by omega) (by omega))
  have := go N fuel (Nat.le_refl _) hf
  rw [Nat.sub_self] at this
  exact this
theorem kE_l8 {A0 A1 A2 A3 A4 A5 A6 A7 β : Type} {S : (A0 → A1 → A2 → A3 → A4 → A5 → A6 → A7 → Option β) → A0 → A1 → A2 → A3 → A4 → A5 → A6 → A7 → Option β} {r : Option β} (N fuel : Nat) (s0 : Nat → A0) (s1 : Nat → A1) (s2 : Nat → A2) (s3 : Nat → A3) (s4 : Nat → A4) (s5 : Nat → A5) (s6 : Nat → A6) (s7 : Nat → A7) (hstep : ∀ (k : Nat) (K : A0 → A1 → A2 → A3 → A4 → A5 → A6 → A7 → Option β), k < N → S K (s0 k) (s1 k) (s2 k) (s3 k) (s4 k) (s5 k) (s6 k) (s7 k) = K (s0 (k + 1)) (s1 (k + 1)) (s2 (k + 1)) (s3 (k + 1)) (s4 (k + 1)) (s5 (k + 1)) (s6 (k + 1)) (s7 (k + 1))) (hend : ∀ K : A0 → A1 → A2 → A3 → A4 → A5 → A6 → A7 → Option β, S K (s0 N) (s1 N) (s2 N) (s3 N) (s4 N) (s5 N) (s6 N) (s7 N) = r) (hf : N < fuel) : k_l8 S fuel (s0 0) (s1 0) (s2 0) (s3 0) (s4 0) (s5 0) (s6 0) (s7 0) = r := by
  have go : ∀ (d fu : Nat), d ≤ N → d < fu → k_l8 S fu (s0 (N - d)) (s1 (N - d)) (s2 (N - d)) (s3 (N - d)) (s4 (N - d)) (s5 (N - d)) (s6 (N - d)) (s7 (N - d)) = r := by
    intro d
    induction d with
    | zero =>
      intro fu _ hfu
      obtain ⟨fu, rfl⟩ : ∃ x, fu = x + 1 := ⟨fu - 1, by omega⟩
      exact hend _
    | succ d ih =>
      intro fu hd hfu
      obtain ⟨fu, rfl⟩ : ∃ x, fu = x + 1 := ⟨fu - 1, by omega⟩
      have h1 := hstep (N - (d + 1)) (k_l8 S fu) (by omega)
      rw [show N - (d + 1) + 1 = N - d by omega] at h1
      exact h1.trans (ih fu (by omega) (by omega))
  have := go N fuel (Nat.le_refl _) hf
  rw [Nat.sub_self] at this
  exact this
/-! bits -/
theorem nI_and (a b : Nat) : nI a &&& nI b = nI (a &&& b) := by
  apply Int32.toBitVec_inj.mp
  show BitVec.ofNat 32 a &&& BitVec.ofNat 32 b = BitVec.ofNat 32 (a &&& b)
  rw [BitVec.ofNat_and]
theorem nI_or (a b : Nat) : nI a ||| nI b = nI (a ||| b) := by
  apply Int32.toBitVec_inj.mp
  show BitVec.ofNat 32 a ||| BitVec.ofNat 32 b = BitVec.ofNat 32 (a ||| b)
  rw [BitVec.ofNat_or]
theorem nI_xor (a b : Nat) : nI a ^^^ nI b = nI (a ^^^ b) := by
  apply Int32.toBitVec_inj.mp
  show BitVec.ofNat 32 a ^^^ BitVec.ofNat 32 b = BitVec.ofNat 32 (a ^^^ b)
  rw [BitVec.ofNat_xor]
theorem nI_not (a : Nat) : nI a ^^^ (-1) = nI (a ^^^ 4294967295) := by
  rw [show (-1 : Int32) = nI 4294967295 by decide, nI_xor]
theorem nI_31 {a : Nat} (h : a < 32) : nI a &&& nI 31 = nI a := by
  rw [nI_and, show (31 : Nat) = 2 ^ 5 - 1 by rfl, Nat.and_two_pow_sub_one_eq_mod, Nat.mod_eq_of_lt h]
theorem nI_smod {a : Nat} (h : a < 32) : ((nI a).toBitVec.smod 32).toNat = a := by
  exact (by decide +kernel : ∀ a, a < 32 → ((nI a).toBitVec.smod 32).toNat = a) a h
theorem nI_shl {a s : Nat} (hs : s < 32) (h : a * 2 ^ s < 2 ^ 32) : nI a <<< nI s = nI (a * 2 ^ s) := pk_shlN (nI s) s (nI_smod hs) h
theorem nI_shr {a s : Nat} (hs : s < 32) (h : a < 2 ^ 31) : nI a >>> nI s = nI (a / 2 ^ s) := pk_shrN h (nI s) s (nI_smod hs)
theorem nI_sub {a b : Nat} (h : b ≤ a) : nI a - nI b = nI (a - b) := pk_sub h
theorem nI_inj {a b : Nat} (ha : a < 2 ^ 31) (hb : b < 2 ^ 31) (h : nI a = nI b) : a = b := (nI_eq ha hb).mp h
theorem nI_m1 {a : Nat} (h : a < 2 ^ 31) : ¬ nI a = -1 := fun q => by
  have := congrArg Int32.toInt q
  rw [nI_toInt h] at this
  have h1 : (-1 : Int32).toInt = -1 := by decide
  omega
/-- a mask of bits by what each of them is -/
def bm (P : Nat → Bool) : Nat → Nat
  | 0 => 0
  | n + 1 => bm P n ||| (if P n then 2 ^ n else 0)
theorem bm_lt (P : Nat → Bool) (n : Nat) : bm P n < 2 ^ n := by
  induction n with
  | zero => exact Nat.one_pos
  | succ n ih =>
    unfold bm
    have h1 : 2 ^ n < 2 ^ (n + 1) := Nat.pow_lt_pow_right (by decide) (Nat.lt_succ_self n)
    refine Nat.or_lt_two_pow (Nat.lt_trans ih h1) ?_
    split
    · exact h1
    · exact Nat.two_pow_pos _
theorem bm_bit (P : Nat → Bool) (n j : Nat) : (bm P n).testBit j = (decide (j < n) && P j) := by
  induction n with
  | zero => simp [bm]
  | succ n ih =>
    unfold bm
    rw [Nat.testBit_or, ih]
    by_cases hp : P n
    · rw [if_pos hp, Nat.testBit_two_pow]
      by_cases hj : n = j
      · subst hj; simp [hp]
      · have : decide (j < n) = decide (j < n + 1) := by
          apply decide_eq_decide.mpr; omega
        simp [hj, this]
    · rw [if_neg hp, Nat.zero_testBit, Bool.or_false]
      by_cases hj : n = j
      · subst hj; simp [hp]
      · have : decide (j < n) = decide (j < n + 1) := by
          apply decide_eq_decide.mpr; omega
        simp [this]
theorem bm_ext {a b n : Nat} (ha : a < 2 ^ n) (hb : b < 2 ^ n) (h : ∀ j, j < n → a.testBit j = b.testBit j) : a = b := by
  apply Nat.eq_of_testBit_eq
  intro j
  by_cases hj : j < n
  · exact h j hj
  · rw [Nat.testBit_lt_two_pow (Nat.lt_of_lt_of_le ha (Nat.pow_le_pow_right (by decide) (Nat.not_lt.mp hj))), Nat.testBit_lt_two_pow (Nat.lt_of_lt_of_le hb (Nat.pow_le_pow_right (by decide) (Nat.not_lt.mp hj)))]
theorem bm_congr {P Q : Nat → Bool} {n : Nat} (h : ∀ j, j < n → P j = Q j) : bm P n = bm Q n := by
  induction n with
  | zero => rfl
  | succ n ih => unfold bm; rw [ih (fun j hj => h j (Nat.lt_succ_of_lt hj)), h n (Nat.lt_succ_self n)]
/-- the lowest bit, and how many bits there are -/
theorem bit_of {m f : Nat} : m / 2 ^ f % 2 = (if m.testBit f then 1 else 0) := by
  rw [Nat.testBit_eq_decide_div_mod_eq]
  by_cases h : m / 2 ^ f % 2 = 1
  · simp [h]
  · simp [h]; omega
def cnt (P : Nat → Bool) : Nat → Nat
  | 0 => 0
  | n + 1 => cnt P n + (if P n then 1 else 0)
theorem cnt_le (P : Nat → Bool) (n : Nat) : cnt P n ≤ n := by
  induction n with
  | zero => exact Nat.le_refl _
  | succ n ih => unfold cnt; split <;> omega
theorem cnt_congr {P Q : Nat → Bool} {n : Nat} (h : ∀ j, j < n → P j = Q j) : cnt P n = cnt Q n := by
  induction n with
  | zero => rfl
  | succ n ih => unfold cnt; rw [ih (fun j hj => h j (Nat.lt_succ_of_lt hj)), h n (Nat.lt_succ_self n)]
theorem cnt_shift (P : Nat → Bool) (n : Nat) : cnt P (n + 1) = (if P 0 then 1 else 0) + cnt (fun j => P (j + 1)) n := by
  induction n with
  | zero => simp [cnt]
  | succ n ih =>
    rw [show cnt P (n + 1 + 1) = cnt P (n + 1) + (if P (n + 1) then 1 else 0) from rfl, ih, show cnt (fun j => P (j + 1)) (n + 1) = cnt (fun j => P (j + 1)) n + (if P (n + 1) then 1 else 0) from rfl]
    omega
def pc (m n : Nat) : Nat := cnt m.testBit n
theorem pc_shift (m n : Nat) : pc m (n + 1) = m % 2 + pc (m / 2) n := by
  unfold pc
  rw [cnt_shift]
  congr 1
  · rw [Nat.testBit_zero]
    by_cases h : m % 2 = 1
    · simp [h]
    · simp [h]; omega
  · exact cnt_congr (fun j _ => by rw [Nat.testBit_succ])
theorem pc_step (n : Nat) : ∀ m, m < 2 ^ n → 0 < m → pc (m &&& (m - 1)) n + 1 = pc m n ∧ (m &&& (m - 1)) < m := by
  induction n with
  | zero => intro m h h0; omega
  | succ n ih =>
    intro m h h0
    rw [pc_shift, pc_shift m]
    rcases Nat.mod_two_eq_zero_or_one m with h2 | h2
    · have hd : 0 < m / 2 := by omega
      have h1 := ih (m / 2) (by rw [Nat.pow_succ] at h; omega) hd
      have e : m &&& (m - 1) = 2 * ((m / 2) &&& (m / 2 - 1)) := by
        apply Nat.eq_of_testBit_eq
        intro j
        cases j with
        | zero => simp [Nat.testBit_zero, h2]
        | succ j => rw [Nat.testBit_and, Nat.testBit_succ, Nat.testBit_succ, Nat.testBit_succ, Nat.mul_div_cancel_left _ (by decide), show (m - 1) / 2 = m / 2 - 1 by omega, Nat.testBit_and]
      rw [e, Nat.mul_mod_right, Nat.mul_div_cancel_left _ (by decide), h2]
      omega
    · have e : m &&& (m - 1) = 2 * (m / 2) := by
        apply Nat.eq_of_testBit_eq
        intro j
        cases j with
        | zero => simp [Nat.testBit_zero, show (m - 1) % 2 = 0 by omega]
        | succ j => rw [Nat.testBit_and, Nat.testBit_succ, Nat.testBit_succ, Nat.testBit_succ, Nat.mul_div_cancel_left _ (by decide), show (m - 1) / 2 = m / 2 by omega, Bool.and_self]
      rw [e, Nat.mul_mod_right, Nat.mul_div_cancel_left _ (by decide), h2]
      omega
theorem pc_zero (n : Nat) : pc 0 n = 0 := by
  induction n with
  | zero => rfl
  | succ n ih => rw [pc_shift, Nat.zero_div, ih]
theorem pc_mono {m n k : Nat} (h : m < 2 ^ n) (hk : n ≤ k) : pc m k = pc m n := by
  induction k with
  | zero => rw [show n = 0 by omega]
  | succ k ih =>
    by_cases hn : n = k + 1
    · rw [hn]
    · have h1 : m.testBit k = false := Nat.testBit_lt_two_pow (Nat.lt_of_lt_of_le h (Nat.pow_le_pow_right (by decide) (by omega)))
      rw [← ih (by omega)]
      show cnt m.testBit k + (if m.testBit k then 1 else 0) = cnt m.testBit k
      rw [h1]; rfl
theorem pc_bm (P : Nat → Bool) (n : Nat) : pc (bm P n) n = cnt P n := cnt_congr (fun j hj => by rw [bm_bit]; simp [hj])
theorem pc_pos {m n : Nat} (h : m < 2 ^ n) (h0 : 0 < m) : 0 < pc m n := by
  have := (pc_step n m h h0).1
  omega
/-- numbers of all but the lowest kinds of rows -/
def zer (m : Nat) : Nat := 10 - pc (m % 1024) 10
def kd (m : Nat) : Nat := if m = 0 then 0 else if m % 16384 = 0 then 1 else if m / 16384 % 2 = 1 then 2 else if m / 1024 % 16 = zer m then 4 else 3
def ky (m : Nat) : Nat := m % 16
def vl (m : Nat) : Nat := m / 16 % 64
theorem nI_modAnd {a k : Nat} {x : Nat} (hx : x = 2 ^ k - 1) : nI a &&& nI x = nI (a % 2 ^ k) := by
  rw [nI_and, hx, Nat.and_two_pow_sub_one_eq_mod]
theorem nI_a15 (a : Nat) : nI a &&& nI 15 = nI (a % 16) := nI_modAnd (k := 4) rfl
theorem nI_a63 (a : Nat) : nI a &&& nI 63 = nI (a % 64) := nI_modAnd (k := 6) rfl
theorem nI_a1023 (a : Nat) : nI a &&& nI 1023 = nI (a % 1024) := nI_modAnd (k := 10) rfl
theorem nI_a16383 (a : Nat) : nI a &&& nI 16383 = nI (a % 16384) := nI_modAnd (k := 14) rfl
theorem nI_a1 (a : Nat) : nI a &&& nI 1 = nI (a % 2) := nI_modAnd (k := 1) rfl