def fX4_bitsOfShare_s18 (K49 : UInt64 → Int64 → Option (Int64)) (rec18 : UInt64 → Int64 → Int32 → Option (Int64)) (z9 : UInt64) (z10 : Int64) (z11 : Int32) : Option (Int64) :=
  k_if (64 ≤ z11)
  (
    K49 z9 z10)
  (
    k_let (Op.cmpValue (FP.dcmp z9 FP.dconst1) .g) fun (z12 : Int32) =>
    k_if (0 ≤ z12)
    (
      K49 z9 z10)
    (
      k_nn (FP.dmul z9 ((4611686018427387904 : UInt64))) <| k_let (FP.dmul z9 ((4611686018427387904 : UInt64))) fun (z13 : UInt64) =>
      k_let (z10 - 1) fun (z14 : Int64) =>
      k_let (z11 + 1) fun (z15 : Int32) =>
      rec18 z13 z14 z15))
def fX4_bitsOfShare (p0 : UInt64) : Option (Int64) :=
  k_let (Op.cmpValue (FP.dcmp p0 FP.dconst0) .g) fun (z1 : Int32) =>
  k_if (0 < z1)
  (
    k_j2
    (fun (z2 : UInt64) (z3 : Int64) =>
      k_nn (FP.dsub z2 FP.dconst1) <| k_let (FP.dsub z2 FP.dconst1) fun (z4 : UInt64) =>
      k_nn (FP.dmul z4 ((4841369599423283200 : UInt64))) <| k_let (FP.dmul z4 ((4841369599423283200 : UInt64))) fun (z5 : UInt64) =>
      k_let (FP.d2l z5) fun (z6 : Int64) =>
      k_let (z3 <<< ((52 : Int32).toInt64 &&& 63)) fun (z7 : Int64) =>
      k_let (z7 ||| z6) fun (z8 : Int64) =>
      some z8)
    (fun K49 =>
    k_l3 (fX4_bitsOfShare_s18 K49) 5000 p0 1023 0))
  (
    some 0)
theorem hdX4_bitsOfShare : yX4_bitsOfShare.cls ≠ "java/lang/invoke/MethodHandle" ∧ yX4_bitsOfShare.cls ≠ "java/lang/invoke/VarHandle" ∧ (parseMethodDescriptor yX4_bitsOfShare.desc).map (fun d => d.parameters.length) = some 1 := by decide +kernel
set_option maxRecDepth 100000 in
set_option maxHeartbeats 4000000 in
theorem mX4_bitsOfShare (l : Launch) (dC : Nat → ClassId) (dI : Nat → Nat → Nat) (cyI cyC cyO : ClassId)  (p0 : UInt64) {r : Int64} (hf : fX4_bitsOfShare p0 = some r) : MetRL l yX4_bitsOfShare cX4_bitsOfShare 8 (some .long) 0 0 [.double p0] (dC, dI) (tyS cyI cyC cyO) [] r := by
  refine metRL_of (by decide) (Nat.le_of_ble_eq_true rfl) ?_
  intro p e s m below meth c ls hC hr hlk hP hK hl
  have hC : CallFix p m c cX4_bitsOfShare 8 s [.double p0].toArray wA RX4 := hC
  obtain ⟨hx, hb, hml, hown, hts⟩ := id hC
  have hS : va_S kF s.heap s.heap [] := va_S.rf
  have hl : lv_has ls 8 [(0, .double p0)] := hl
  have h := hf
  unfold fX4_bitsOfShare at h
  obtain ⟨H, hH⟩ : ∃ H, H = s.heap := ⟨_, rfl⟩
  obtain ⟨locs, hlo⟩ : ∃ locs : List Loc, locs = [] := ⟨_, rfl⟩
  rw [← hH] at hP
  rw [← hlo] at hS
  have hS : va_S kF s.heap H locs := by rw [hH]; exact hS
  show W p l e (k_rm 0 0) s m [.double p0].toArray below meth c s.heap [] 0 0 _ _
  rw [← hlo, ← hH]
  refine lv_dload_n hx hb dX4_bitsOfShare_0 rfl (lv_at hl 0 rfl) ?_
  refine lv_dconst0 hx hb dX4_bitsOfShare_1 ?_
  refine g_dcmp hx hb dX4_bitsOfShare_2 h (fun z1 h => ?_)
  refine g_if_gt (tgt := 8) hx hb dX4_bitsOfShare_3 (by decide) h (fun h => ?_) (fun h => ?_)
  · refine lv_dload_n hx hb dX4_bitsOfShare_8 rfl (lv_at hl 0 rfl) ?_
    refine lv_dstore_n (lv' := [(2, .double p0), (0, .double p0)]) hx hb dX4_bitsOfShare_9 rfl hl (by decide) rfl (fun ls hl => ?_)
    refine lv_ldc2 hx hb hown (hts _ q456) dX4_bitsOfShare_10 ?_
    refine lv_lstore (lv' := [(4, .long 1023), (2, .double p0), (0, .double p0)]) hx hb dX4_bitsOfShare_13 hl (by decide) rfl (fun ls hl => ?_)
    refine lv_iconst (v := 0) hx hb dX4_bitsOfShare_15 (by decide) ?_
    refine lv_istore (lv' := [(6, .int 0), (4, .long 1023), (2, .double p0), (0, .double p0)]) hx hb dX4_bitsOfShare_16 hl (by decide) rfl (fun ls hl => ?_)
    obtain ⟨K49, hK49, h⟩ := k_j2_e h
    have J49 : ∀ (z2 : UInt64) (z3 : Int64) (H : Heap) (locs : List Loc) (ls : Array Slot), K49 z2 z3 = some r → va_S kF s.heap H locs → lv_has ls 8 [(2, .double z2), (4, .long z3)] → W p l e (k_rm 0 0) s m [.double p0].toArray below meth c H locs 0 0 (MQ below (qRL r) [.double p0].toArray s 0 0 kF) (F0 m 49 ls []) := by
      intro z2 z3 H locs ls h hS hl
      have h := k_a2 hK49 h
      refine lv_dload_n hx hb dX4_bitsOfShare_49 rfl (lv_at hl 0 rfl) ?_
      refine lv_dconst1 hx hb dX4_bitsOfShare_50 ?_
      refine g_dsub hx hb dX4_bitsOfShare_51 h (fun z4 h => ?_)
      refine lv_ldc2d hx hb hown (hts _ q458) dX4_bitsOfShare_52 ?_
      refine g_dmul hx hb dX4_bitsOfShare_55 h (fun z5 h => ?_)
      refine g_d2l hx hb dX4_bitsOfShare_56 h (fun z6 h => ?_)
      refine lv_lstore (lv' := [(6, .long z6), (2, .double z2), (4, .long z3)]) hx hb dX4_bitsOfShare_57 hl (by decide) rfl (fun ls hl => ?_)
      refine lv_lload hx hb dX4_bitsOfShare_59 (lv_at hl 2 rfl) ?_
      refine lv_bipush (v := 52) hx hb dX4_bitsOfShare_61 (by decide) ?_
      refine g_lshl hx hb dX4_bitsOfShare_63 h (fun z7 h => ?_)
      refine lv_lload hx hb dX4_bitsOfShare_64 (lv_at hl 0 rfl) ?_
      refine g_lor hx hb dX4_bitsOfShare_66 h (fun z8 h => ?_)
      exact g_retRL hx hb hr hlk hS h dX4_bitsOfShare_67
    obtain ⟨S18, hS18⟩ : ∃ z, z = (fX4_bitsOfShare_s18 K49) := ⟨_, rfl⟩
    rw [← hS18] at h
    have L18 : ∀ (n : Nat) (z9 : UInt64) (z10 : Int64) (z11 : Int32) (H : Heap) (locs : List Loc) (ls : Array Slot), k_l3 S18 n z9 z10 z11 = some r → va_S kF s.heap H locs → lv_has ls 8 [(2, .double z9), (4, .long z10), (6, .int z11)] → W p l e (k_rm 0 0) s m [.double p0].toArray below meth c H locs 0 0 (MQ below (qRL r) [.double p0].toArray s 0 0 kF) (F0 m 18 ls []) := by
      intro n
      induction n with
      | zero =>
        intro z9 z10 z11 H locs ls h
        exact (k_l3_0 h).elim
      | succ n ih18 =>
        intro z9 z10 z11 H locs ls h hS hl
        have h := k_l3_s h
        have h := k_a4 hS18 h
        unfold fX4_bitsOfShare_s18 at h
        refine lv_iload hx hb dX4_bitsOfShare_18 (lv_at hl 2 rfl) ?_
        refine lv_bipush (v := 64) hx hb dX4_bitsOfShare_20 (by decide) ?_
        refine g_icmp_ge (tgt := 49) hx hb dX4_bitsOfShare_22 (by decide) h (fun h => ?_) (fun h => ?_)
        · exact J49 z9 z10 _ _ _ h hS (lv_sub hl [0, 1] rfl)
        · refine lv_dload_n hx hb dX4_bitsOfShare_25 rfl (lv_at hl 0 rfl) ?_
          refine lv_dconst1 hx hb dX4_bitsOfShare_26 ?_
          refine g_dcmp hx hb dX4_bitsOfShare_27 h (fun z12 h => ?_)
          refine g_if_ge (tgt := 49) hx hb dX4_bitsOfShare_28 (by decide) h (fun h => ?_) (fun h => ?_)
          · exact J49 z9 z10 _ _ _ h hS (lv_sub hl [0, 1] rfl)
          · refine lv_dload_n hx hb dX4_bitsOfShare_31 rfl (lv_at hl 0 rfl) ?_
            refine lv_ldc2d hx hb hown (hts _ q457) dX4_bitsOfShare_32 ?_
            refine g_dmul hx hb dX4_bitsOfShare_35 h (fun z13 h => ?_)
            refine lv_dstore_n (lv' := [(2, .double z13), (4, .long z10), (6, .int z11)]) hx hb dX4_bitsOfShare_36 rfl hl (by decide) rfl (fun ls hl => ?_)
            refine lv_lload hx hb dX4_bitsOfShare_37 (lv_at hl 1 rfl) ?_
            refine lv_lconst (v := 1) hx hb dX4_bitsOfShare_39 (by decide) ?_
            refine g_lsub hx hb dX4_bitsOfShare_40 h (fun z14 h => ?_)
            refine lv_lstore (lv' := [(4, .long z14), (2, .double z13), (6, .int z11)]) hx hb dX4_bitsOfShare_41 hl (by decide) rfl (fun ls hl => ?_)
            refine g_iinc (dv := 1) hx hb dX4_bitsOfShare_43 hl (j := 2) rfl (by decide) (by decide) h (fun z15 ls h hl => ?_)
            have hl : lv_has ls 8 [(6, .int z15), (4, .long z14), (2, .double z13)] := hl
            refine lv_goto (tgt := 18) hx hb dX4_bitsOfShare_46 (by decide) ?_
            exact ih18 z13 z14 z15 _ _ _ h hS (lv_sub hl [2, 1, 0] rfl)
    exact L18 5000 p0 1023 0 _ _ _ h hS (lv_sub hl [2, 1, 0] rfl)
  · refine lv_lconst (v := 0) hx hb dX4_bitsOfShare_6 (by decide) ?_
    exact g_retRL hx hb hr hlk hS h dX4_bitsOfShare_7
def fX4_digest_s346 (x_length : Int32) (c13 : Nat → Int32) (c14 : Nat → Int32) (c15 : Nat → Int32) (c16 : Int32) (c17 : Int32) (c18 : Int32) (x_signs : Nat → Int32) (rec346 : Int64 → Int32 → Option (Int64 × (Nat → Int32) × (Nat → Int32) × (Nat → Int32) × Int32 × Int32 × Int32)) (z38 : Int64) (z39 : Int32) : Option (Int64 × (Nat → Int32) × (Nat → Int32) × (Nat → Int32) × Int32 × Int32 × Int32) :=
  k_if (x_length ≤ z39)
  (
    some (z38, c13, c14, c15, c16, c17, c18))
  (
    k_let (31 * z38) fun (z40 : Int64) =>
    k_ck z39 60 <| k_let (x_signs z39.toNatClampNeg) fun (z41 : Int32) =>
    k_let (z41.toInt64) fun (z42 : Int64) =>
    k_let (z40 + z42) fun (z43 : Int64) =>
    k_let (z39 + 1) fun (z44 : Int32) =>
    rec346 z43 z44)
def fX4_digest_s249 (K275 : Int64 → (Nat → Int32) → (Nat → Int32) → (Nat → Int32) → Int32 → Int32 → Int32 → Option (Int64 × (Nat → Int32) × (Nat → Int32) × (Nat → Int32) × Int32 × Int32 × Int32)) (n_ones : Nat → Int32) (n_twos : Nat → Int32) (n_settings : Nat → Int32) (n_tick : Int32) (n_energy : Int32) (n_valuesPut : Int32) (rec249 : Int64 → Int32 → (Nat → Int32) → (Nat → Int32) → (Nat → Int32) → Int32 → Int32 → Int32 → Option (Int64 × (Nat → Int32) × (Nat → Int32) × (Nat → Int32) × Int32 × Int32 × Int32)) (z45 : Int64) (z46 : Int32) (c47 : Nat → Int32) (c48 : Nat → Int32) (c49 : Nat → Int32) (c50 : Int32) (c51 : Int32) (c52 : Int32) : Option (Int64 × (Nat → Int32) × (Nat → Int32) × (Nat → Int32) × Int32 × Int32 × Int32) :=
  k_if (3 ≤ z46)
  (
    K275 z45 c47 c48 c49 c50 c51 c52)
  (
    k_let (31 * z45) fun (z53 : Int64) =>
    k_b7 (fX4_heatOutcome n_ones n_twos n_settings n_tick n_energy n_valuesPut c47 c48 c49 c50 c51 c52 6 z46) fun (z54 : Int32) (c55 : Nat → Int32) (c56 : Nat → Int32) (c57 : Nat → Int32) (c58 : Int32) (c59 : Int32) (c60 : Int32) =>
    k_let (z54.toInt64) fun (z61 : Int64) =>
    k_let (z53 + z61) fun (z62 : Int64) =>
    k_let (z46 + 1) fun (z63 : Int32) =>
    rec249 z62 z63 c55 c56 c57 c58 c59 c60)
def fX4_digest_s221 (K247 : Int64 → (Nat → Int32) → (Nat → Int32) → (Nat → Int32) → Int32 → Int32 → Int32 → Option (Int64 × (Nat → Int32) × (Nat → Int32) × (Nat → Int32) × Int32 × Int32 × Int32)) (n_ones : Nat → Int32) (n_twos : Nat → Int32) (n_settings : Nat → Int32) (n_tick : Int32) (n_energy : Int32) (n_valuesPut : Int32) (rec221 : Int64 → Int32 → (Nat → Int32) → (Nat → Int32) → (Nat → Int32) → Int32 → Int32 → Int32 → Option (Int64 × (Nat → Int32) × (Nat → Int32) × (Nat → Int32) × Int32 × Int32 × Int32)) (z64 : Int64) (z65 : Int32) (c66 : Nat → Int32) (c67 : Nat → Int32) (c68 : Nat → Int32) (c69 : Int32) (c70 : Int32) (c71 : Int32) : Option (Int64 × (Nat → Int32) × (Nat → Int32) × (Nat → Int32) × Int32 × Int32 × Int32) :=
  k_if (5 ≤ z65)
  (
    K247 z64 c66 c67 c68 c69 c70 c71)
  (
    k_let (31 * z64) fun (z72 : Int64) =>
    k_b7 (fX4_putOutcome n_ones n_twos n_settings n_tick n_energy n_valuesPut c66 c67 c68 c69 c70 c71 3 5 z65) fun (z73 : Int32) (c74 : Nat → Int32) (c75 : Nat → Int32) (c76 : Nat → Int32) (c77 : Int32) (c78 : Int32) (c79 : Int32) =>
    k_let (z73.toInt64) fun (z80 : Int64) =>
    k_let (z72 + z80) fun (z81 : Int64) =>
    k_let (z65 + 1) fun (z82 : Int32) =>
    rec221 z81 z82 c74 c75 c76 c77 c78 c79)
def fX4_digest_s151 (K179 : Int64 → Option (Int64 × (Nat → Int32) × (Nat → Int32) × (Nat → Int32) × Int32 × Int32 × Int32)) (n_ones : Nat → Int32) (n_twos : Nat → Int32) (n_settings : Nat → Int32) (n_tick : Int32) (z84 : Int32) (rec151 : Int64 → Int32 → Option (Int64 × (Nat → Int32) × (Nat → Int32) × (Nat → Int32) × Int32 × Int32 × Int32)) (z95 : Int64) (z96 : Int32) : Option (Int64 × (Nat → Int32) × (Nat → Int32) × (Nat → Int32) × Int32 × Int32 × Int32) :=
  k_if (6 ≤ z96)
  (
    K179 z95)
  (
    k_let (31 * z95) fun (z97 : Int64) =>
    k_b1 (fX4_keyProperty n_ones n_twos n_settings n_tick z84 z96) fun (z98 : Int32) =>
    k_let (z98.toInt64) fun (z99 : Int64) =>
    k_let (z97 + z99) fun (z100 : Int64) =>
    k_let (z96 + 1) fun (z101 : Int32) =>
    rec151 z100 z101)
def fX4_digest_s142 (K219 : Int64 → Option (Int64 × (Nat → Int32) × (Nat → Int32) × (Nat → Int32) × Int32 × Int32 × Int32)) (n_ones : Nat → Int32) (n_twos : Nat → Int32) (n_settings : Nat → Int32) (n_tick : Int32) (rec142 : Int64 → Int32 → Option (Int64 × (Nat → Int32) × (Nat → Int32) × (Nat → Int32) × Int32 × Int32 × Int32)) (z83 : Int64) (z84 : Int32) : Option (Int64 × (Nat → Int32) × (Nat → Int32) × (Nat → Int32) × Int32 × Int32 × Int32) :=
  k_if (16 ≤ z84)
  (
    K219 z83)
  (
    k_j1
    (fun (z85 : Int64) =>
      k_let (31 * z85) fun (z86 : Int64) =>
      k_b1 (fX3_earlierValue n_ones n_twos n_settings n_tick z84 0) fun (z87 : Int32) =>
      k_let (z87.toInt64) fun (z88 : Int64) =>
      k_let (z86 + z88) fun (z89 : Int64) =>
      k_let (31 * z89) fun (z90 : Int64) =>
      k_b1 (fX3_earlierValue n_ones n_twos n_settings n_tick z84 1) fun (z91 : Int32) =>
      k_let (z91.toInt64) fun (z92 : Int64) =>
      k_let (z90 + z92) fun (z93 : Int64) =>
      k_let (z84 + 1) fun (z94 : Int32) =>
      rec142 z93 z94)
    (fun K179 =>
    k_l2 (fX4_digest_s151 K179 n_ones n_twos n_settings n_tick z84) 5000 z83 0))
def fX4_digest_s103 (K134 : Int64 → Option (Int64 × (Nat → Int32) × (Nat → Int32) × (Nat → Int32) × Int32 × Int32 × Int32)) (n_ones : Nat → Int32) (n_twos : Nat → Int32) (z103 : Int32) (rec103 : Int64 → Int32 → Option (Int64 × (Nat → Int32) × (Nat → Int32) × (Nat → Int32) × Int32 × Int32 × Int32)) (z107 : Int64) (z108 : Int32) : Option (Int64 × (Nat → Int32) × (Nat → Int32) × (Nat → Int32) × Int32 × Int32 × Int32) :=
  k_if (16 ≤ z108)
  (
    K134 z107)
  (
    k_let (31 * z107) fun (z109 : Int64) =>
    k_b1 (fX3_strength n_ones n_twos z103 z108) fun (z110 : Int32) =>
    k_let (z110.toInt64) fun (z111 : Int64) =>
    k_let (z109 + z111) fun (z112 : Int64) =>
    k_let (z108 + 1) fun (z113 : Int32) =>
    rec103 z112 z113)
def fX4_digest_s72 (K100 : Int64 → Option (Int64 × (Nat → Int32) × (Nat → Int32) × (Nat → Int32) × Int32 × Int32 × Int32)) (n_ones : Nat → Int32) (n_twos : Nat → Int32) (n_settings : Nat → Int32) (n_tick : Int32) (z103 : Int32) (rec72 : Int64 → Int32 → Option (Int64 × (Nat → Int32) × (Nat → Int32) × (Nat → Int32) × Int32 × Int32 × Int32)) (z114 : Int64) (z115 : Int32) : Option (Int64 × (Nat → Int32) × (Nat → Int32) × (Nat → Int32) × Int32 × Int32 × Int32) :=
  k_if (9 ≤ z115)
  (
    K100 z114)
  (
    k_let (31 * z114) fun (z116 : Int64) =>
    k_b1 (fX4_rowProperty n_ones n_twos n_settings n_tick z103 z115) fun (z117 : Int32) =>
    k_let (z117.toInt64) fun (z118 : Int64) =>
    k_let (z116 + z118) fun (z119 : Int64) =>
    k_let (z115 + 1) fun (z120 : Int32) =>
    rec72 z119 z120)
def fX4_digest_s63 (K140 : Int64 → Option (Int64 × (Nat → Int32) × (Nat → Int32) × (Nat → Int32) × Int32 × Int32 × Int32)) (n_ones : Nat → Int32) (n_twos : Nat → Int32) (n_settings : Nat → Int32) (n_tick : Int32) (rec63 : Int64 → Int32 → Option (Int64 × (Nat → Int32) × (Nat → Int32) × (Nat → Int32) × Int32 × Int32 × Int32)) (z102 : Int64) (z103 : Int32) : Option (Int64 × (Nat → Int32) × (Nat → Int32) × (Nat → Int32) × Int32 × Int32 × Int32) :=
  k_if (20 ≤ z103)
  (
    K140 z102)
  (
    k_j1
    (fun (z104 : Int64) =>
      k_j1
      (fun (z105 : Int64) =>
        k_let (z103 + 1) fun (z106 : Int32) =>
        rec63 z105 z106)
      (fun K134 =>
      k_l2 (fX4_digest_s103 K134 n_ones n_twos z103) 5000 z104 0))
    (fun K100 =>
    k_l2 (fX4_digest_s72 K100 n_ones n_twos n_settings n_tick z103) 5000 z102 0))
def fX4_digest_s33 (K61 : Int64 → Option (Int64 × (Nat → Int32) × (Nat → Int32) × (Nat → Int32) × Int32 × Int32 × Int32)) (n_settings : Nat → Int32) (rec33 : Int64 → Int32 → Option (Int64 × (Nat → Int32) × (Nat → Int32) × (Nat → Int32) × Int32 × Int32 × Int32)) (z121 : Int64) (z122 : Int32) : Option (Int64 × (Nat → Int32) × (Nat → Int32) × (Nat → Int32) × Int32 × Int32 × Int32) :=
  k_if (4 ≤ z122)
  (
    K61 z121)
  (
    k_let (31 * z121) fun (z123 : Int64) =>
    k_ck z122 4 <| k_let (n_settings z122.toNatClampNeg) fun (z124 : Int32) =>
    k_let (z124.toInt64) fun (z125 : Int64) =>
    k_let (z123 + z125) fun (z126 : Int64) =>
    k_let (z122 + 1) fun (z127 : Int32) =>
    rec33 z126 z127)
def fX4_digest_s6 (K31 : Int64 → Option (Int64 × (Nat → Int32) × (Nat → Int32) × (Nat → Int32) × Int32 × Int32 × Int32)) (n_ones : Nat → Int32) (n_twos : Nat → Int32) (n_settings : Nat → Int32) (n_tick : Int32) (n_energy : Int32) (n_valuesPut : Int32) (s_count : Int32) (rec6 : Int64 → Int32 → Option (Int64 × (Nat → Int32) × (Nat → Int32) × (Nat → Int32) × Int32 × Int32 × Int32)) (z128 : Int64) (z129 : Int32) : Option (Int64 × (Nat → Int32) × (Nat → Int32) × (Nat → Int32) × Int32 × Int32 × Int32) :=
  k_if (13 ≤ z129)
  (
    K31 z128)
  (
    k_let (31 * z128) fun (z130 : Int64) =>
    k_b1 (fX4_countOf n_ones n_twos n_settings n_tick n_energy n_valuesPut s_count z129) fun (z131 : Int32) =>
    k_let (z131.toInt64) fun (z132 : Int64) =>
    k_let (z130 + z132) fun (z133 : Int64) =>
    k_let (z129 + 1) fun (z134 : Int32) =>
    rec6 z133 z134)
def fX4_digest (n_ones : Nat → Int32) (n_twos : Nat → Int32) (n_settings : Nat → Int32) (n_tick : Int32) (n_energy : Int32) (n_valuesPut : Int32) (t_ones : Nat → Int32) (t_twos : Nat → Int32) (t_settings : Nat → Int32) (t_tick : Int32) (t_energy : Int32) (t_valuesPut : Int32) (s_count : Int32) (x_signs : Nat → Int32) (x_length : Int32) : Option (Int64 × (Nat → Int32) × (Nat → Int32) × (Nat → Int32) × Int32 × Int32 × Int32) :=
  k_j1
  (fun (z1 : Int64) =>
    k_j1
    (fun (z2 : Int64) =>
      k_j1
      (fun (z3 : Int64) =>
        k_j1
        (fun (z4 : Int64) =>
          k_j7
          (fun (z5 : Int64) (c6 : Nat → Int32) (c7 : Nat → Int32) (c8 : Nat → Int32) (c9 : Int32) (c10 : Int32) (c11 : Int32) =>
            k_j7
            (fun (z12 : Int64) (c13 : Nat → Int32) (c14 : Nat → Int32) (c15 : Nat → Int32) (c16 : Int32) (c17 : Int32) (c18 : Int32) =>
              k_let (31 * z12) fun (z19 : Int64) =>
              k_b1 (fX4_valuesReadOtherwise n_ones n_twos n_settings n_tick 1 0) fun (z20 : Int32) =>
              k_let (z20.toInt64) fun (z21 : Int64) =>
              k_let (z19 + z21) fun (z22 : Int64) =>
              k_let (31 * z22) fun (z23 : Int64) =>
              k_b1 (fX4_valuesReadOtherwise n_ones n_twos n_settings n_tick 1 1) fun (z24 : Int32) =>
              k_let (z24.toInt64) fun (z25 : Int64) =>
              k_let (z23 + z25) fun (z26 : Int64) =>
              k_let (31 * z26) fun (z27 : Int64) =>
              k_b1 (fX4_worst n_ones n_twos n_settings n_tick) fun (z28 : Int32) =>
              k_let (z28.toInt64) fun (z29 : Int64) =>
              k_let (z27 + z29) fun (z30 : Int64) =>
              k_let (31 * z30) fun (z31 : Int64) =>
              k_b1 (fX4_sureShare n_ones n_twos) fun (z32 : UInt64) =>
              k_b1 (fX4_bitsOfShare z32) fun (z33 : Int64) =>
              k_let (z31 + z33) fun (z34 : Int64) =>
              k_let (31 * z34) fun (z35 : Int64) =>
              k_let (x_length.toInt64) fun (z36 : Int64) =>
              k_let (z35 + z36) fun (z37 : Int64) =>
              k_l2 (fX4_digest_s346 x_length c13 c14 c15 c16 c17 c18 x_signs) 5000 z37 0)
            (fun K275 =>
            k_l8 (fX4_digest_s249 K275 n_ones n_twos n_settings n_tick n_energy n_valuesPut) 5000 z5 0 c6 c7 c8 c9 c10 c11))
          (fun K247 =>
          k_l8 (fX4_digest_s221 K247 n_ones n_twos n_settings n_tick n_energy n_valuesPut) 5000 z4 0 t_ones t_twos t_settings t_tick t_energy t_valuesPut))
        (fun K219 =>
        k_l2 (fX4_digest_s142 K219 n_ones n_twos n_settings n_tick) 5000 z3 0))
      (fun K140 =>
      k_l2 (fX4_digest_s63 K140 n_ones n_twos n_settings n_tick) 5000 z2 0))
    (fun K61 =>
    k_l2 (fX4_digest_s33 K61 n_settings) 5000 z1 0))
  (fun K31 =>
  k_l2 (fX4_digest_s6 K31 n_ones n_twos n_settings n_tick n_energy n_valuesPut s_count) 5000 2683 0)
theorem hdX4_digest : yX4_digest.cls = RX4 ∧ yX4_digest.cls ≠ "java/lang/invoke/MethodHandle" ∧ yX4_digest.cls ≠ "java/lang/invoke/VarHandle" ∧ (parseMethodDescriptor yX4_digest.desc).map (fun d => d.parameters.length) = some 0 := by decide +kernel
set_option maxRecDepth 100000 in
set_option maxHeartbeats 4000000 in
theorem mX4_digest (l : Launch) (dC : Nat → ClassId) (dI : Nat → Nat → Nat) (cyI cyC cyO : ClassId) (ob : Nat) (n0 : Nat) (n1 : Nat) (n2 : Nat) (n3 : Nat) (t0 : Nat) (t1 : Nat) (t2 : Nat) (t3 : Nat) (s0 : Nat) (aR : Nat) (ro : Nat → Nat) (r1 : Nat → Nat) (r2 : Nat → Nat) (r3 : Nat → Nat) (x0 : Nat) (x1 : Nat) (x2 : Nat) (x3 : Nat) (x4 : Nat) (n_ones : Nat → Int32) (n_twos : Nat → Int32) (n_settings : Nat → Int32) (n_tick : Int32) (n_energy : Int32) (n_valuesPut : Int32) (t_ones : Nat → Int32) (t_twos : Nat → Int32) (t_settings : Nat → Int32) (t_tick : Int32) (t_energy : Int32) (t_valuesPut : Int32) (s_ring : Nat → SV) (s_oldest : Int32) (s_count : Int32) (x_signs : Nat → Int32) (x_length : Int32) (x_position : Int32) (x_complete : Int32) (x_orders : Int32) (x_kinds : Nat → Int32) (x_numbers : Nat → Int32) (x_values : Nat → Int32)  {r : Int64} {r_t_ones : Nat → Int32} {r_t_twos : Nat → Int32} {r_t_settings : Nat → Int32} {r_t_tick : Int32} {r_t_energy : Int32} {r_t_valuesPut : Int32} (hf : fX4_digest n_ones n_twos n_settings n_tick n_energy n_valuesPut t_ones t_twos t_settings t_tick t_energy t_valuesPut s_count x_signs x_length = some (r, r_t_ones, r_t_twos, r_t_settings, r_t_tick, r_t_energy, r_t_valuesPut)) : MetML l yX4_digest cX4_digest 5 (some .long) 6 137 [.ref ob] (dC, dI) (tyS cyI cyC cyO) (wAll cyI cyC cyO ob n0 n1 n2 n3 t0 t1 t2 t3 s0 aR ro r1 r2 r3 x0 x1 x2 x3 x4 n_ones n_twos n_settings n_tick n_energy n_valuesPut t_ones t_twos t_settings t_tick t_energy t_valuesPut s_ring s_oldest s_count x_signs x_length x_position x_complete x_orders x_kinds x_numbers x_values) (wAll cyI cyC cyO ob n0 n1 n2 n3 t0 t1 t2 t3 s0 aR ro r1 r2 r3 x0 x1 x2 x3 x4 n_ones n_twos n_settings n_tick n_energy n_valuesPut r_t_ones r_t_twos r_t_settings r_t_tick r_t_energy r_t_valuesPut s_ring s_oldest s_count x_signs x_length x_position x_complete x_orders x_kinds x_numbers x_values) r := by
  refine metML_of (by decide) (Nat.le_of_ble_eq_true rfl) ?_
  intro p e s m below meth c ls hC hr hlk hP hK hD hl
  have hC : CallFix p m c cX4_digest 5 s [.ref ob].toArray wA RX4 := hC
  obtain ⟨hx, hb, hml, hown, hts⟩ := id hC
  have hS : va_S (k_A (wAll cyI cyC cyO ob n0 n1 n2 n3 t0 t1 t2 t3 s0 aR ro r1 r2 r3 x0 x1 x2 x3 x4 n_ones n_twos n_settings n_tick n_energy n_valuesPut t_ones t_twos t_settings t_tick t_energy t_valuesPut s_ring s_oldest s_count x_signs x_length x_position x_complete x_orders x_kinds x_numbers x_values)) s.heap s.heap [] := va_S.rf
  have hl : lv_has ls 5 [(0, .ref ob)] := hl
  have h := hf
  unfold fX4_digest at h
  obtain ⟨H, hH⟩ : ∃ H, H = s.heap := ⟨_, rfl⟩
  obtain ⟨locs, hlo⟩ : ∃ locs : List Loc, locs = [] := ⟨_, rfl⟩
  rw [← hH] at hP
  rw [← hlo] at hS
  have hS : va_S (k_A (wAll cyI cyC cyO ob n0 n1 n2 n3 t0 t1 t2 t3 s0 aR ro r1 r2 r3 x0 x1 x2 x3 x4 n_ones n_twos n_settings n_tick n_energy n_valuesPut t_ones t_twos t_settings t_tick t_energy t_valuesPut s_ring s_oldest s_count x_signs x_length x_position x_complete x_orders x_kinds x_numbers x_values)) s.heap H locs := by rw [hH]; exact hS
  show W p l e (k_rm 6 137) s m [.ref ob].toArray below meth c s.heap [] 0 0 _ _
  rw [← hlo, ← hH]
  refine lv_ldc2 hx hb hown (hts _ q302) dX4_digest_0 ?_
  refine lv_lstore_n (lv' := [(1, .long 2683), (0, .ref ob)]) hx hb dX4_digest_3 rfl hl (by decide) rfl (fun ls hl => ?_)
  refine lv_iconst (v := 0) hx hb dX4_digest_4 (by decide) ?_
  refine lv_istore_n (lv' := [(3, .int 0), (1, .long 2683), (0, .ref ob)]) hx hb dX4_digest_5 rfl hl (by decide) rfl (fun ls hl => ?_)
  obtain ⟨K31, hK31, h⟩ := k_j1_e h
  have J31 : ∀ (z1 : Int64) (H : Heap) (locs : List Loc) (ls : Array Slot), K31 z1 = some (r, r_t_ones, r_t_twos, r_t_settings, r_t_tick, r_t_energy, r_t_valuesPut) → va_P (dC, dI) vwCl (wAll cyI cyC cyO ob n0 n1 n2 n3 t0 t1 t2 t3 s0 aR ro r1 r2 r3 x0 x1 x2 x3 x4 n_ones n_twos n_settings n_tick n_energy n_valuesPut t_ones t_twos t_settings t_tick t_energy t_valuesPut s_ring s_oldest s_count x_signs x_length x_position x_complete x_orders x_kinds x_numbers x_values) H → va_S (k_A (wAll cyI cyC cyO ob n0 n1 n2 n3 t0 t1 t2 t3 s0 aR ro r1 r2 r3 x0 x1 x2 x3 x4 n_ones n_twos n_settings n_tick n_energy n_valuesPut t_ones t_twos t_settings t_tick t_energy t_valuesPut s_ring s_oldest s_count x_signs x_length x_position x_complete x_orders x_kinds x_numbers x_values)) s.heap H locs → lv_has ls 5 [(0, .ref ob), (1, .long z1)] → W p l e (k_rm 6 137) s m [.ref ob].toArray below meth c H locs 0 0 (MQ below (qML r (dC, dI) (wAll cyI cyC cyO ob n0 n1 n2 n3 t0 t1 t2 t3 s0 aR ro r1 r2 r3 x0 x1 x2 x3 x4 n_ones n_twos n_settings n_tick n_energy n_valuesPut t_ones t_twos t_settings t_tick t_energy t_valuesPut s_ring s_oldest s_count x_signs x_length x_position x_complete x_orders x_kinds x_numbers x_values) (wAll cyI cyC cyO ob n0 n1 n2 n3 t0 t1 t2 t3 s0 aR ro r1 r2 r3 x0 x1 x2 x3 x4 n_ones n_twos n_settings n_tick n_energy n_valuesPut r_t_ones r_t_twos r_t_settings r_t_tick r_t_energy r_t_valuesPut s_ring s_oldest s_count x_signs x_length x_position x_complete x_orders x_kinds x_numbers x_values)) [.ref ob].toArray s 0 0 (k_A (wAll cyI cyC cyO ob n0 n1 n2 n3 t0 t1 t2 t3 s0 aR ro r1 r2 r3 x0 x1 x2 x3 x4 n_ones n_twos n_settings n_tick n_energy n_valuesPut t_ones t_twos t_settings t_tick t_energy t_valuesPut s_ring s_oldest s_count x_signs x_length x_position x_complete x_orders x_kinds x_numbers x_values))) (F0 m 31 ls []) := by
    intro z1 H locs ls h hP hS hl
    have h := k_a1 hK31 h
    refine lv_iconst (v := 0) hx hb dX4_digest_31 (by decide) ?_
    refine lv_istore_n (lv' := [(3, .int 0), (0, .ref ob), (1, .long z1)]) hx hb dX4_digest_32 rfl hl (by decide) rfl (fun ls hl => ?_)
    obtain ⟨K61, hK61, h⟩ := k_j1_e h
    have J61 : ∀ (z2 : Int64) (H : Heap) (locs : List Loc) (ls : Array Slot), K61 z2 = some (r, r_t_ones, r_t_twos, r_t_settings, r_t_tick, r_t_energy, r_t_valuesPut) → va_P (dC, dI) vwCl (wAll cyI cyC cyO ob n0 n1 n2 n3 t0 t1 t2 t3 s0 aR ro r1 r2 r3 x0 x1 x2 x3 x4 n_ones n_twos n_settings n_tick n_energy n_valuesPut t_ones t_twos t_settings t_tick t_energy t_valuesPut s_ring s_oldest s_count x_signs x_length x_position x_complete x_orders x_kinds x_numbers x_values) H → va_S (k_A (wAll cyI cyC cyO ob n0 n1 n2 n3 t0 t1 t2 t3 s0 aR ro r1 r2 r3 x0 x1 x2 x3 x4 n_ones n_twos n_settings n_tick n_energy n_valuesPut t_ones t_twos t_settings t_tick t_energy t_valuesPut s_ring s_oldest s_count x_signs x_length x_position x_complete x_orders x_kinds x_numbers x_values)) s.heap H locs → lv_has ls 5 [(0, .ref ob), (1, .long z2)] → W p l e (k_rm 6 137) s m [.ref ob].toArray below meth c H locs 0 0 (MQ below (qML r (dC, dI) (wAll cyI cyC cyO ob n0 n1 n2 n3 t0 t1 t2 t3 s0 aR ro r1 r2 r3 x0 x1 x2 x3 x4 n_ones n_twos n_settings n_tick n_energy n_valuesPut t_ones t_twos t_settings t_tick t_energy t_valuesPut s_ring s_oldest s_count x_signs x_length x_position x_complete x_orders x_kinds x_numbers x_values) (wAll cyI cyC cyO ob n0 n1 n2 n3 t0 t1 t2 t3 s0 aR ro r1 r2 r3 x0 x1 x2 x3 x4 n_ones n_twos n_settings n_tick n_energy n_valuesPut r_t_ones r_t_twos r_t_settings r_t_tick r_t_energy r_t_valuesPut s_ring s_oldest s_count x_signs x_length x_position x_complete x_orders x_kinds x_numbers x_values)) [.ref ob].toArray s 0 0 (k_A (wAll cyI cyC cyO ob n0 n1 n2 n3 t0 t1 t2 t3 s0 aR ro r1 r2 r3 x0 x1 x2 x3 x4 n_ones n_twos n_settings n_tick n_energy n_valuesPut t_ones t_twos t_settings t_tick t_energy t_valuesPut s_ring s_oldest s_count x_signs x_length x_position x_complete x_orders x_kinds x_numbers x_values))) (F0 m 61 ls []) := by
      intro z2 H locs ls h hP hS hl
      have h := k_a1 hK61 h
      refine lv_iconst (v := 0) hx hb dX4_digest_61 (by decide) ?_
      refine lv_istore_n (lv' := [(3, .int 0), (0, .ref ob), (1, .long z2)]) hx hb dX4_digest_62 rfl hl (by decide) rfl (fun ls hl => ?_)
      obtain ⟨K140, hK140, h⟩ := k_j1_e h
      have J140 : ∀ (z3 : Int64) (H : Heap) (locs : List Loc) (ls : Array Slot), K140 z3 = some (r, r_t_ones, r_t_twos, r_t_settings, r_t_tick, r_t_energy, r_t_valuesPut) → va_P (dC, dI) vwCl (wAll cyI cyC cyO ob n0 n1 n2 n3 t0 t1 t2 t3 s0 aR ro r1 r2 r3 x0 x1 x2 x3 x4 n_ones n_twos n_settings n_tick n_energy n_valuesPut t_ones t_twos t_settings t_tick t_energy t_valuesPut s_ring s_oldest s_count x_signs x_length x_position x_complete x_orders x_kinds x_numbers x_values) H → va_S (k_A (wAll cyI cyC cyO ob n0 n1 n2 n3 t0 t1 t2 t3 s0 aR ro r1 r2 r3 x0 x1 x2 x3 x4 n_ones n_twos n_settings n_tick n_energy n_valuesPut t_ones t_twos t_settings t_tick t_energy t_valuesPut s_ring s_oldest s_count x_signs x_length x_position x_complete x_orders x_kinds x_numbers x_values)) s.heap H locs → lv_has ls 5 [(0, .ref ob), (1, .long z3)] → W p l e (k_rm 6 137) s m [.ref ob].toArray below meth c H locs 0 0 (MQ below (qML r (dC, dI) (wAll cyI cyC cyO ob n0 n1 n2 n3 t0 t1 t2 t3 s0 aR ro r1 r2 r3 x0 x1 x2 x3 x4 n_ones n_twos n_settings n_tick n_energy n_valuesPut t_ones t_twos t_settings t_tick t_energy t_valuesPut s_ring s_oldest s_count x_signs x_length x_position x_complete x_orders x_kinds x_numbers x_values) (wAll cyI cyC cyO ob n0 n1 n2 n3 t0 t1 t2 t3 s0 aR ro r1 r2 r3 x0 x1 x2 x3 x4 n_ones n_twos n_settings n_tick n_energy n_valuesPut r_t_ones r_t_twos r_t_settings r_t_tick r_t_energy r_t_valuesPut s_ring s_oldest s_count x_signs x_length x_position x_complete x_orders x_kinds x_numbers x_values)) [.ref ob].toArray s 0 0 (k_A (wAll cyI cyC cyO ob n0 n1 n2 n3 t0 t1 t2 t3 s0 aR ro r1 r2 r3 x0 x1 x2 x3 x4 n_ones n_twos n_settings n_tick n_energy n_valuesPut t_ones t_twos t_settings t_tick t_energy t_valuesPut s_ring s_oldest s_count x_signs x_length x_position x_complete x_orders x_kinds x_numbers x_values))) (F0 m 140 ls []) := by
        intro z3 H locs ls h hP hS hl
        have h := k_a1 hK140 h
        refine lv_iconst (v := 0) hx hb dX4_digest_140 (by decide) ?_
        refine lv_istore_n (lv' := [(3, .int 0), (0, .ref ob), (1, .long z3)]) hx hb dX4_digest_141 rfl hl (by decide) rfl (fun ls hl => ?_)
        obtain ⟨K219, hK219, h⟩ := k_j1_e h
        have J219 : ∀ (z4 : Int64) (H : Heap) (locs : List Loc) (ls : Array Slot), K219 z4 = some (r, r_t_ones, r_t_twos, r_t_settings, r_t_tick, r_t_energy, r_t_valuesPut) → va_P (dC, dI) vwCl (wAll cyI cyC cyO ob n0 n1 n2 n3 t0 t1 t2 t3 s0 aR ro r1 r2 r3 x0 x1 x2 x3 x4 n_ones n_twos n_settings n_tick n_energy n_valuesPut t_ones t_twos t_settings t_tick t_energy t_valuesPut s_ring s_oldest s_count x_signs x_length x_position x_complete x_orders x_kinds x_numbers x_values) H → va_S (k_A (wAll cyI cyC cyO ob n0 n1 n2 n3 t0 t1 t2 t3 s0 aR ro r1 r2 r3 x0 x1 x2 x3 x4 n_ones n_twos n_settings n_tick n_energy n_valuesPut t_ones t_twos t_settings t_tick t_energy t_valuesPut s_ring s_oldest s_count x_signs x_length x_position x_complete x_orders x_kinds x_numbers x_values)) s.heap H locs → lv_has ls 5 [(0, .ref ob), (1, .long z4)] → W p l e (k_rm 6 137) s m [.ref ob].toArray below meth c H locs 0 0 (MQ below (qML r (dC, dI) (wAll cyI cyC cyO ob n0 n1 n2 n3 t0 t1 t2 t3 s0 aR ro r1 r2 r3 x0 x1 x2 x3 x4 n_ones n_twos n_settings n_tick n_energy n_valuesPut t_ones t_twos t_settings t_tick t_energy t_valuesPut s_ring s_oldest s_count x_signs x_length x_position x_complete x_orders x_kinds x_numbers x_values) (wAll cyI cyC cyO ob n0 n1 n2 n3 t0 t1 t2 t3 s0 aR ro r1 r2 r3 x0 x1 x2 x3 x4 n_ones n_twos n_settings n_tick n_energy n_valuesPut r_t_ones r_t_twos r_t_settings r_t_tick r_t_energy r_t_valuesPut s_ring s_oldest s_count x_signs x_length x_position x_complete x_orders x_kinds x_numbers x_values)) [.ref ob].toArray s 0 0 (k_A (wAll cyI cyC cyO ob n0 n1 n2 n3 t0 t1 t2 t3 s0 aR ro r1 r2 r3 x0 x1 x2 x3 x4 n_ones n_twos n_settings n_tick n_energy n_valuesPut t_ones t_twos t_settings t_tick t_energy t_valuesPut s_ring s_oldest s_count x_signs x_length x_position x_complete x_orders x_kinds x_numbers x_values))) (F0 m 219 ls []) := by
          intro z4 H locs ls h hP hS hl
          have h := k_a1 hK219 h
          refine lv_iconst (v := 0) hx hb dX4_digest_219 (by decide) ?_
          refine lv_istore_n (lv' := [(3, .int 0), (0, .ref ob), (1, .long z4)]) hx hb dX4_digest_220 rfl hl (by decide) rfl (fun ls hl => ?_)
          obtain ⟨K247, hK247, h⟩ := k_j7_e h
          have J247 : ∀ (z5 : Int64) (c6 : Nat → Int32) (c7 : Nat → Int32) (c8 : Nat → Int32) (c9 : Int32) (c10 : Int32) (c11 : Int32) (H : Heap) (locs : List Loc) (ls : Array Slot), K247 z5 c6 c7 c8 c9 c10 c11 = some (r, r_t_ones, r_t_twos, r_t_settings, r_t_tick, r_t_energy, r_t_valuesPut) → va_P (dC, dI) vwCl (wAll cyI cyC cyO ob n0 n1 n2 n3 t0 t1 t2 t3 s0 aR ro r1 r2 r3 x0 x1 x2 x3 x4 n_ones n_twos n_settings n_tick n_energy n_valuesPut c6 c7 c8 c9 c10 c11 s_ring s_oldest s_count x_signs x_length x_position x_complete x_orders x_kinds x_numbers x_values) H → va_S (k_A (wAll cyI cyC cyO ob n0 n1 n2 n3 t0 t1 t2 t3 s0 aR ro r1 r2 r3 x0 x1 x2 x3 x4 n_ones n_twos n_settings n_tick n_energy n_valuesPut t_ones t_twos t_settings t_tick t_energy t_valuesPut s_ring s_oldest s_count x_signs x_length x_position x_complete x_orders x_kinds x_numbers x_values)) s.heap H locs → lv_has ls 5 [(0, .ref ob), (1, .long z5)] → W p l e (k_rm 6 137) s m [.ref ob].toArray below meth c H locs 0 0 (MQ below (qML r (dC, dI) (wAll cyI cyC cyO ob n0 n1 n2 n3 t0 t1 t2 t3 s0 aR ro r1 r2 r3 x0 x1 x2 x3 x4 n_ones n_twos n_settings n_tick n_energy n_valuesPut t_ones t_twos t_settings t_tick t_energy t_valuesPut s_ring s_oldest s_count x_signs x_length x_position x_complete x_orders x_kinds x_numbers x_values) (wAll cyI cyC cyO ob n0 n1 n2 n3 t0 t1 t2 t3 s0 aR ro r1 r2 r3 x0 x1 x2 x3 x4 n_ones n_twos n_settings n_tick n_energy n_valuesPut r_t_ones r_t_twos r_t_settings r_t_tick r_t_energy r_t_valuesPut s_ring s_oldest s_count x_signs x_length x_position x_complete x_orders x_kinds x_numbers x_values)) [.ref ob].toArray s 0 0 (k_A (wAll cyI cyC cyO ob n0 n1 n2 n3 t0 t1 t2 t3 s0 aR ro r1 r2 r3 x0 x1 x2 x3 x4 n_ones n_twos n_settings n_tick n_energy n_valuesPut t_ones t_twos t_settings t_tick t_energy t_valuesPut s_ring s_oldest s_count x_signs x_length x_position x_complete x_orders x_kinds x_numbers x_values))) (F0 m 247 ls []) := by
            intro z5 c6 c7 c8 c9 c10 c11 H locs ls h hP hS hl
            have hD : va_D (k_A (wAll cyI cyC cyO ob n0 n1 n2 n3 t0 t1 t2 t3 s0 aR ro r1 r2 r3 x0 x1 x2 x3 x4 n_ones n_twos n_settings n_tick n_energy n_valuesPut t_ones t_twos t_settings t_tick t_energy t_valuesPut s_ring s_oldest s_count x_signs x_length x_position x_complete x_orders x_kinds x_numbers x_values)) (wAll cyI cyC cyO ob n0 n1 n2 n3 t0 t1 t2 t3 s0 aR ro r1 r2 r3 x0 x1 x2 x3 x4 n_ones n_twos n_settings n_tick n_energy n_valuesPut c6 c7 c8 c9 c10 c11 s_ring s_oldest s_count x_signs x_length x_position x_complete x_orders x_kinds x_numbers x_values) := k_Dm hD rfl
            have h := k_a7 hK247 h
            refine lv_iconst (v := 0) hx hb dX4_digest_247 (by decide) ?_
            refine lv_istore_n (lv' := [(3, .int 0), (0, .ref ob), (1, .long z5)]) hx hb dX4_digest_248 rfl hl (by decide) rfl (fun ls hl => ?_)
            obtain ⟨K275, hK275, h⟩ := k_j7_e h
            have J275 : ∀ (z12 : Int64) (c13 : Nat → Int32) (c14 : Nat → Int32) (c15 : Nat → Int32) (c16 : Int32) (c17 : Int32) (c18 : Int32) (H : Heap) (locs : List Loc) (ls : Array Slot), K275 z12 c13 c14 c15 c16 c17 c18 = some (r, r_t_ones, r_t_twos, r_t_settings, r_t_tick, r_t_energy, r_t_valuesPut) → va_P (dC, dI) vwCl (wAll cyI cyC cyO ob n0 n1 n2 n3 t0 t1 t2 t3 s0 aR ro r1 r2 r3 x0 x1 x2 x3 x4 n_ones n_twos n_settings n_tick n_energy n_valuesPut c13 c14 c15 c16 c17 c18 s_ring s_oldest s_count x_signs x_length x_position x_complete x_orders x_kinds x_numbers x_values) H → va_S (k_A (wAll cyI cyC cyO ob n0 n1 n2 n3 t0 t1 t2 t3 s0 aR ro r1 r2 r3 x0 x1 x2 x3 x4 n_ones n_twos n_settings n_tick n_energy n_valuesPut t_ones t_twos t_settings t_tick t_energy t_valuesPut s_ring s_oldest s_count x_signs x_length x_position x_complete x_orders x_kinds x_numbers x_values)) s.heap H locs → lv_has ls 5 [(0, .ref ob), (1, .long z12)] → W p l e (k_rm 6 137) s m [.ref ob].toArray below meth c H locs 0 0 (MQ below (qML r (dC, dI) (wAll cyI cyC cyO ob n0 n1 n2 n3 t0 t1 t2 t3 s0 aR ro r1 r2 r3 x0 x1 x2 x3 x4 n_ones n_twos n_settings n_tick n_energy n_valuesPut t_ones t_twos t_settings t_tick t_energy t_valuesPut s_ring s_oldest s_count x_signs x_length x_position x_complete x_orders x_kinds x_numbers x_values) (wAll cyI cyC cyO ob n0 n1 n2 n3 t0 t1 t2 t3 s0 aR ro r1 r2 r3 x0 x1 x2 x3 x4 n_ones n_twos n_settings n_tick n_energy n_valuesPut r_t_ones r_t_twos r_t_settings r_t_tick r_t_energy r_t_valuesPut s_ring s_oldest s_count x_signs x_length x_position x_complete x_orders x_kinds x_numbers x_values)) [.ref ob].toArray s 0 0 (k_A (wAll cyI cyC cyO ob n0 n1 n2 n3 t0 t1 t2 t3 s0 aR ro r1 r2 r3 x0 x1 x2 x3 x4 n_ones n_twos n_settings n_tick n_energy n_valuesPut t_ones t_twos t_settings t_tick t_energy t_valuesPut s_ring s_oldest s_count x_signs x_length x_position x_complete x_orders x_kinds x_numbers x_values))) (F0 m 275 ls []) := by
              intro z12 c13 c14 c15 c16 c17 c18 H locs ls h hP hS hl
              have hD : va_D (k_A (wAll cyI cyC cyO ob n0 n1 n2 n3 t0 t1 t2 t3 s0 aR ro r1 r2 r3 x0 x1 x2 x3 x4 n_ones n_twos n_settings n_tick n_energy n_valuesPut t_ones t_twos t_settings t_tick t_energy t_valuesPut s_ring s_oldest s_count x_signs x_length x_position x_complete x_orders x_kinds x_numbers x_values)) (wAll cyI cyC cyO ob n0 n1 n2 n3 t0 t1 t2 t3 s0 aR ro r1 r2 r3 x0 x1 x2 x3 x4 n_ones n_twos n_settings n_tick n_energy n_valuesPut c13 c14 c15 c16 c17 c18 s_ring s_oldest s_count x_signs x_length x_position x_complete x_orders x_kinds x_numbers x_values) := k_Dm hD rfl
              have h := k_a7 hK275 h
              refine lv_ldc2 hx hb hown (hts _ q303) dX4_digest_275 ?_
              refine lv_lload_n hx hb dX4_digest_278 rfl (lv_at hl 1 rfl) ?_
              refine g_lmul hx hb dX4_digest_279 h (fun z19 h => ?_)
              refine lv_aload_n hx hb dX4_digest_280 rfl (lv_at hl 0 rfl) ?_
              refine lv_iconst (v := 1) hx hb dX4_digest_281 (by decide) ?_
              refine lv_iconst (v := 0) hx hb dX4_digest_282 (by decide) ?_
              obtain ⟨z20, hc283, h⟩ := k_b1_e h
              refine g_callRI_V (As := [.int 1, .int 0]) (rest := [.long z19]) hC (mX4_valuesReadOtherwise l dC dI cyI cyC cyO ob n0 n1 n2 n3 t0 t1 t2 t3 s0 aR ro r1 r2 r3 x0 x1 x2 x3 x4 n_ones n_twos n_settings n_tick n_energy n_valuesPut c13 c14 c15 c16 c17 c18 s_ring s_oldest s_count x_signs x_length x_position x_complete x_orders x_kinds x_numbers x_values 1 0 hc283) q447 q448 q10 q71 q449 2 hdX4_valuesReadOtherwise ⟨Nat.le_of_ble_eq_true rfl, Nat.le_of_ble_eq_true rfl⟩ ⟨Nat.le_of_ble_eq_true rfl, Nat.le_of_ble_eq_true rfl⟩ rfl rfl hl.1 (Nat.le_of_ble_eq_true rfl) hP hK (va_recv hK hP (ci := 3) (q0 := 0) rfl rfl) hS dX4_digest_283 (fun H locs hk hS => ?_)
              have hP := k_kept hP hk
              refine g_i2l hx hb dX4_digest_286 h (fun z21 h => ?_)
              refine g_ladd hx hb dX4_digest_287 h (fun z22 h => ?_)
              refine lv_lstore_n (lv' := [(1, .long z22), (0, .ref ob)]) hx hb dX4_digest_288 rfl hl (by decide) rfl (fun ls hl => ?_)
              refine lv_ldc2 hx hb hown (hts _ q303) dX4_digest_289 ?_
              refine lv_lload_n hx hb dX4_digest_292 rfl (lv_at hl 0 rfl) ?_
              refine g_lmul hx hb dX4_digest_293 h (fun z23 h => ?_)
              refine lv_aload_n hx hb dX4_digest_294 rfl (lv_at hl 1 rfl) ?_
              refine lv_iconst (v := 1) hx hb dX4_digest_295 (by decide) ?_
              refine lv_iconst (v := 1) hx hb dX4_digest_296 (by decide) ?_
              obtain ⟨z24, hc297, h⟩ := k_b1_e h
              refine g_callRI_V (As := [.int 1, .int 1]) (rest := [.long z23]) hC (mX4_valuesReadOtherwise l dC dI cyI cyC cyO ob n0 n1 n2 n3 t0 t1 t2 t3 s0 aR ro r1 r2 r3 x0 x1 x2 x3 x4 n_ones n_twos n_settings n_tick n_energy n_valuesPut c13 c14 c15 c16 c17 c18 s_ring s_oldest s_count x_signs x_length x_position x_complete x_orders x_kinds x_numbers x_values 1 1 hc297) q447 q448 q10 q71 q449 2 hdX4_valuesReadOtherwise ⟨Nat.le_of_ble_eq_true rfl, Nat.le_of_ble_eq_true rfl⟩ ⟨Nat.le_of_ble_eq_true rfl, Nat.le_of_ble_eq_true rfl⟩ rfl rfl hl.1 (Nat.le_of_ble_eq_true rfl) hP hK (va_recv hK hP (ci := 3) (q0 := 0) rfl rfl) hS dX4_digest_297 (fun H locs hk hS => ?_)
              have hP := k_kept hP hk
              refine g_i2l hx hb dX4_digest_300 h (fun z25 h => ?_)
              refine g_ladd hx hb dX4_digest_301 h (fun z26 h => ?_)
              refine lv_lstore_n (lv' := [(1, .long z26), (0, .ref ob)]) hx hb dX4_digest_302 rfl hl (by decide) rfl (fun ls hl => ?_)
              refine lv_ldc2 hx hb hown (hts _ q303) dX4_digest_303 ?_
              refine lv_lload_n hx hb dX4_digest_306 rfl (lv_at hl 0 rfl) ?_
              refine g_lmul hx hb dX4_digest_307 h (fun z27 h => ?_)
              refine lv_aload_n hx hb dX4_digest_308 rfl (lv_at hl 1 rfl) ?_
              obtain ⟨z28, hc309, h⟩ := k_b1_e h
              refine g_callRI_V (As := []) (rest := [.long z27]) hC (mX4_worst l dC dI cyI cyC cyO ob n0 n1 n2 n3 t0 t1 t2 t3 s0 aR ro r1 r2 r3 x0 x1 x2 x3 x4 n_ones n_twos n_settings n_tick n_energy n_valuesPut c13 c14 c15 c16 c17 c18 s_ring s_oldest s_count x_signs x_length x_position x_complete x_orders x_kinds x_numbers x_values hc309) q451 q250 q251 q71 q252 0 hdX4_worst ⟨Nat.le_of_ble_eq_true rfl, Nat.le_of_ble_eq_true rfl⟩ ⟨Nat.le_of_ble_eq_true rfl, Nat.le_of_ble_eq_true rfl⟩ rfl rfl hl.1 (Nat.le_of_ble_eq_true rfl) hP hK (va_recv hK hP (ci := 3) (q0 := 0) rfl rfl) hS dX4_digest_309 (fun H locs hk hS => ?_)
              have hP := k_kept hP hk
              refine g_i2l hx hb dX4_digest_312 h (fun z29 h => ?_)
              refine g_ladd hx hb dX4_digest_313 h (fun z30 h => ?_)
              refine lv_lstore_n (lv' := [(1, .long z30), (0, .ref ob)]) hx hb dX4_digest_314 rfl hl (by decide) rfl (fun ls hl => ?_)
              refine lv_ldc2 hx hb hown (hts _ q303) dX4_digest_315 ?_
              refine lv_lload_n hx hb dX4_digest_318 rfl (lv_at hl 0 rfl) ?_
              refine g_lmul hx hb dX4_digest_319 h (fun z31 h => ?_)
              refine lv_aload_n hx hb dX4_digest_320 rfl (lv_at hl 1 rfl) ?_
              obtain ⟨z32, hc321, h⟩ := k_b1_e h
              refine g_callRD_V (As := []) (rest := [.long z31]) hC (mX4_sureShare l dC dI cyI cyC cyO ob n0 n1 n2 n3 t0 t1 t2 t3 s0 aR ro r1 r2 r3 x0 x1 x2 x3 x4 n_ones n_twos n_settings n_tick n_energy n_valuesPut c13 c14 c15 c16 c17 c18 s_ring s_oldest s_count x_signs x_length x_position x_complete x_orders x_kinds x_numbers x_values hc321) q452 q294 q295 q71 q296 0 hdX4_sureShare ⟨Nat.le_of_ble_eq_true rfl, Nat.le_of_ble_eq_true rfl⟩ ⟨Nat.le_of_ble_eq_true rfl, Nat.le_of_ble_eq_true rfl⟩ rfl rfl hl.1 (Nat.le_of_ble_eq_true rfl) hP hK (va_recv hK hP (ci := 3) (q0 := 0) rfl rfl) hS dX4_digest_321 (fun H locs hk hS => ?_)
              have hP := k_kept hP hk
              obtain ⟨z33, hc324, h⟩ := k_b1_e h
              refine g_callRL_S (As := [.double z32]) (rest := [.long z31]) hC (mX4_bitsOfShare l dC dI cyI cyC cyO z32 hc324) q453 q454 q71 q455 1 hdX4_bitsOfShare ⟨Nat.le_of_ble_eq_true rfl, Nat.le_of_ble_eq_true rfl⟩ ⟨Nat.le_of_ble_eq_true rfl, Nat.le_of_ble_eq_true rfl⟩ rfl rfl hl.1 (Nat.le_of_ble_eq_true rfl) va_P_nil hK hS dX4_digest_324 (fun H locs hk hS => ?_)
              have hP := k_kept hP hk
              refine g_ladd hx hb dX4_digest_327 h (fun z34 h => ?_)
              refine lv_lstore_n (lv' := [(1, .long z34), (0, .ref ob)]) hx hb dX4_digest_328 rfl hl (by decide) rfl (fun ls hl => ?_)
              refine lv_ldc2 hx hb hown (hts _ q303) dX4_digest_329 ?_
              refine lv_lload_n hx hb dX4_digest_332 rfl (lv_at hl 0 rfl) ?_
              refine g_lmul hx hb dX4_digest_333 h (fun z35 h => ?_)
              refine lv_aload_n hx hb dX4_digest_334 rfl (lv_at hl 1 rfl) ?_
              refine va_get (D := (dC, dI)) (ci := 3) (v := .ref x0) (C := RX4) (T := TX4) (N := 4) hx hb hts iaX4 hown hK hP 0 rfl rfl 3 (by decide) (hts _ q155) (fun _ h9 => h9) rfl dX4_digest_335 ?_
              refine va_get (D := (dC, dI)) (ci := 0) (v := .int x_length) (C := RX1) (T := TX1) (N := 8) hx hb hts iaX1 hown hK hP 35 rfl rfl 1 (by decide) (hts _ q138) (fun _ h9 => h9) rfl dX4_digest_338 ?_
              refine g_i2l hx hb dX4_digest_341 h (fun z36 h => ?_)
              refine g_ladd hx hb dX4_digest_342 h (fun z37 h => ?_)
              refine lv_lstore_n (lv' := [(1, .long z37), (0, .ref ob)]) hx hb dX4_digest_343 rfl hl (by decide) rfl (fun ls hl => ?_)
              refine lv_iconst (v := 0) hx hb dX4_digest_344 (by decide) ?_
              refine lv_istore_n (lv' := [(3, .int 0), (1, .long z37), (0, .ref ob)]) hx hb dX4_digest_345 rfl hl (by decide) rfl (fun ls hl => ?_)
              obtain ⟨S346, hS346⟩ : ∃ z, z = (fX4_digest_s346 x_length c13 c14 c15 c16 c17 c18 x_signs) := ⟨_, rfl⟩
              rw [← hS346] at h
              have L346 : ∀ (n : Nat) (z38 : Int64) (z39 : Int32) (H : Heap) (locs : List Loc) (ls : Array Slot), k_l2 S346 n z38 z39 = some (r, r_t_ones, r_t_twos, r_t_settings, r_t_tick, r_t_energy, r_t_valuesPut) → va_P (dC, dI) vwCl (wAll cyI cyC cyO ob n0 n1 n2 n3 t0 t1 t2 t3 s0 aR ro r1 r2 r3 x0 x1 x2 x3 x4 n_ones n_twos n_settings n_tick n_energy n_valuesPut c13 c14 c15 c16 c17 c18 s_ring s_oldest s_count x_signs x_length x_position x_complete x_orders x_kinds x_numbers x_values) H → va_S (k_A (wAll cyI cyC cyO ob n0 n1 n2 n3 t0 t1 t2 t3 s0 aR ro r1 r2 r3 x0 x1 x2 x3 x4 n_ones n_twos n_settings n_tick n_energy n_valuesPut t_ones t_twos t_settings t_tick t_energy t_valuesPut s_ring s_oldest s_count x_signs x_length x_position x_complete x_orders x_kinds x_numbers x_values)) s.heap H locs → lv_has ls 5 [(0, .ref ob), (1, .long z38), (3, .int z39)] → W p l e (k_rm 6 137) s m [.ref ob].toArray below meth c H locs 0 0 (MQ below (qML r (dC, dI) (wAll cyI cyC cyO ob n0 n1 n2 n3 t0 t1 t2 t3 s0 aR ro r1 r2 r3 x0 x1 x2 x3 x4 n_ones n_twos n_settings n_tick n_energy n_valuesPut t_ones t_twos t_settings t_tick t_energy t_valuesPut s_ring s_oldest s_count x_signs x_length x_position x_complete x_orders x_kinds x_numbers x_values) (wAll cyI cyC cyO ob n0 n1 n2 n3 t0 t1 t2 t3 s0 aR ro r1 r2 r3 x0 x1 x2 x3 x4 n_ones n_twos n_settings n_tick n_energy n_valuesPut r_t_ones r_t_twos r_t_settings r_t_tick r_t_energy r_t_valuesPut s_ring s_oldest s_count x_signs x_length x_position x_complete x_orders x_kinds x_numbers x_values)) [.ref ob].toArray s 0 0 (k_A (wAll cyI cyC cyO ob n0 n1 n2 n3 t0 t1 t2 t3 s0 aR ro r1 r2 r3 x0 x1 x2 x3 x4 n_ones n_twos n_settings n_tick n_energy n_valuesPut t_ones t_twos t_settings t_tick t_energy t_valuesPut s_ring s_oldest s_count x_signs x_length x_position x_complete x_orders x_kinds x_numbers x_values))) (F0 m 346 ls []) := by
                intro n
                induction n with
                | zero =>
                  intro z38 z39 H locs ls h
                  exact (k_l2_0 h).elim
                | succ n ih346 =>
                  intro z38 z39 H locs ls h hP hS hl
                  have h := k_l2_s h
                  have h := k_a3 hS346 h
                  unfold fX4_digest_s346 at h
                  refine lv_iload_n hx hb dX4_digest_346 rfl (lv_at hl 2 rfl) ?_
                  refine lv_aload_n hx hb dX4_digest_347 rfl (lv_at hl 0 rfl) ?_
                  refine va_get (D := (dC, dI)) (ci := 3) (v := .ref x0) (C := RX4) (T := TX4) (N := 4) hx hb hts iaX4 hown hK hP 0 rfl rfl 3 (by decide) (hts _ q155) (fun _ h9 => h9) rfl dX4_digest_348 ?_
                  refine va_get (D := (dC, dI)) (ci := 0) (v := .int x_length) (C := RX1) (T := TX1) (N := 8) hx hb hts iaX1 hown hK hP 35 rfl rfl 1 (by decide) (hts _ q138) (fun _ h9 => h9) rfl dX4_digest_351 ?_
                  refine g_icmp_ge (tgt := 380) hx hb dX4_digest_354 (by decide) h (fun h => ?_) (fun h => ?_)
                  · refine lv_lload_n hx hb dX4_digest_380 rfl (lv_at hl 1 rfl) ?_
                    obtain ⟨e0, e1, e2, e3, e4, e5, e6⟩ := k_t7 h
                    exact g_retML hx hb hr hlk hS e0 (by rw [← e1, ← e2, ← e3, ← e4, ← e5, ← e6]; exact hP) dX4_digest_381
                  · refine lv_ldc2 hx hb hown (hts _ q303) dX4_digest_357 ?_
                    refine lv_lload_n hx hb dX4_digest_360 rfl (lv_at hl 1 rfl) ?_
                    refine g_lmul hx hb dX4_digest_361 h (fun z40 h => ?_)
                    refine lv_aload_n hx hb dX4_digest_362 rfl (lv_at hl 0 rfl) ?_
                    refine va_get (D := (dC, dI)) (ci := 3) (v := .ref x0) (C := RX4) (T := TX4) (N := 4) hx hb hts iaX4 hown hK hP 0 rfl rfl 3 (by decide) (hts _ q155) (fun _ h9 => h9) rfl dX4_digest_363 ?_
                    refine va_get (D := (dC, dI)) (ci := 0) (v := .ref x1) (C := RX1) (T := TX1) (N := 8) hx hb hts iaX1 hown hK hP 35 rfl rfl 0 (by decide) (hts _ q136) (fun _ h9 => h9) rfl dX4_digest_366 ?_
                    refine lv_iload_n hx hb dX4_digest_369 rfl (lv_at hl 2 rfl) ?_
                    refine g_cald hx hb hK hP 36 1 rfl rfl dX4_digest_370 h (fun z41 h => ?_)
                    refine g_i2l hx hb dX4_digest_371 h (fun z42 h => ?_)
                    refine g_ladd hx hb dX4_digest_372 h (fun z43 h => ?_)
                    refine lv_lstore_n (lv' := [(1, .long z43), (0, .ref ob), (3, .int z39)]) hx hb dX4_digest_373 rfl hl (by decide) rfl (fun ls hl => ?_)
                    refine g_iinc (dv := 1) hx hb dX4_digest_374 hl (j := 2) rfl (by decide) (by decide) h (fun z44 ls h hl => ?_)
                    have hl : lv_has ls 5 [(3, .int z44), (1, .long z43), (0, .ref ob)] := hl
                    refine lv_goto (tgt := 346) hx hb dX4_digest_377 (by decide) ?_
                    exact ih346 z43 z44 _ _ _ h hP hS (lv_sub hl [2, 1, 0] rfl)
              exact L346 5000 z37 0 _ _ _ h hP hS (lv_sub hl [2, 1, 0] rfl)
            obtain ⟨S249, hS249⟩ : ∃ z, z = (fX4_digest_s249 K275 n_ones n_twos n_settings n_tick n_energy n_valuesPut) := ⟨_, rfl⟩
            rw [← hS249] at h
            have L249 : ∀ (n : Nat) (z45 : Int64) (z46 : Int32) (c47 : Nat → Int32) (c48 : Nat → Int32) (c49 : Nat → Int32) (c50 : Int32) (c51 : Int32) (c52 : Int32) (H : Heap) (locs : List Loc) (ls : Array Slot), k_l8 S249 n z45 z46 c47 c48 c49 c50 c51 c52 = some (r, r_t_ones, r_t_twos, r_t_settings, r_t_tick, r_t_energy, r_t_valuesPut) → va_P (dC, dI) vwCl (wAll cyI cyC cyO ob n0 n1 n2 n3 t0 t1 t2 t3 s0 aR ro r1 r2 r3 x0 x1 x2 x3 x4 n_ones n_twos n_settings n_tick n_energy n_valuesPut c47 c48 c49 c50 c51 c52 s_ring s_oldest s_count x_signs x_length x_position x_complete x_orders x_kinds x_numbers x_values) H → va_S (k_A (wAll cyI cyC cyO ob n0 n1 n2 n3 t0 t1 t2 t3 s0 aR ro r1 r2 r3 x0 x1 x2 x3 x4 n_ones n_twos n_settings n_tick n_energy n_valuesPut t_ones t_twos t_settings t_tick t_energy t_valuesPut s_ring s_oldest s_count x_signs x_length x_position x_complete x_orders x_kinds x_numbers x_values)) s.heap H locs → lv_has ls 5 [(0, .ref ob), (1, .long z45), (3, .int z46)] → W p l e (k_rm 6 137) s m [.ref ob].toArray below meth c H locs 0 0 (MQ below (qML r (dC, dI) (wAll cyI cyC cyO ob n0 n1 n2 n3 t0 t1 t2 t3 s0 aR ro r1 r2 r3 x0 x1 x2 x3 x4 n_ones n_twos n_settings n_tick n_energy n_valuesPut t_ones t_twos t_settings t_tick t_energy t_valuesPut s_ring s_oldest s_count x_signs x_length x_position x_complete x_orders x_kinds x_numbers x_values) (wAll cyI cyC cyO ob n0 n1 n2 n3 t0 t1 t2 t3 s0 aR ro r1 r2 r3 x0 x1 x2 x3 x4 n_ones n_twos n_settings n_tick n_energy n_valuesPut r_t_ones r_t_twos r_t_settings r_t_tick r_t_energy r_t_valuesPut s_ring s_oldest s_count x_signs x_length x_position x_complete x_orders x_kinds x_numbers x_values)) [.ref ob].toArray s 0 0 (k_A (wAll cyI cyC cyO ob n0 n1 n2 n3 t0 t1 t2 t3 s0 aR ro r1 r2 r3 x0 x1 x2 x3 x4 n_ones n_twos n_settings n_tick n_energy n_valuesPut t_ones t_twos t_settings t_tick t_energy t_valuesPut s_ring s_oldest s_count x_signs x_length x_position x_complete x_orders x_kinds x_numbers x_values))) (F0 m 249 ls []) := by
              intro n
              induction n with
              | zero =>
                intro z45 z46 c47 c48 c49 c50 c51 c52 H locs ls h
                exact (k_l8_0 h).elim
              | succ n ih249 =>
                intro z45 z46 c47 c48 c49 c50 c51 c52 H locs ls h hP hS hl
                have hD : va_D (k_A (wAll cyI cyC cyO ob n0 n1 n2 n3 t0 t1 t2 t3 s0 aR ro r1 r2 r3 x0 x1 x2 x3 x4 n_ones n_twos n_settings n_tick n_energy n_valuesPut t_ones t_twos t_settings t_tick t_energy t_valuesPut s_ring s_oldest s_count x_signs x_length x_position x_complete x_orders x_kinds x_numbers x_values)) (wAll cyI cyC cyO ob n0 n1 n2 n3 t0 t1 t2 t3 s0 aR ro r1 r2 r3 x0 x1 x2 x3 x4 n_ones n_twos n_settings n_tick n_energy n_valuesPut c47 c48 c49 c50 c51 c52 s_ring s_oldest s_count x_signs x_length x_position x_complete x_orders x_kinds x_numbers x_values) := k_Dm hD rfl
                have h := k_l8_s h
                have h := k_a9 hS249 h
                unfold fX4_digest_s249 at h
                refine lv_iload_n hx hb dX4_digest_249 rfl (lv_at hl 2 rfl) ?_
                refine lv_iconst (v := 3) hx hb dX4_digest_250 (by decide) ?_
                refine g_icmp_ge (tgt := 275) hx hb dX4_digest_251 (by decide) h (fun h => ?_) (fun h => ?_)
                · exact J275 z45 c47 c48 c49 c50 c51 c52 _ _ _ h hP hS (lv_sub hl [0, 1] rfl)
                · refine lv_ldc2 hx hb hown (hts _ q303) dX4_digest_254 ?_
                  refine lv_lload_n hx hb dX4_digest_257 rfl (lv_at hl 1 rfl) ?_
                  refine g_lmul hx hb dX4_digest_258 h (fun z53 h => ?_)
                  refine lv_aload_n hx hb dX4_digest_259 rfl (lv_at hl 0 rfl) ?_
                  refine lv_bipush (v := 6) hx hb dX4_digest_260 (by decide) ?_
                  refine lv_iload_n hx hb dX4_digest_262 rfl (lv_at hl 2 rfl) ?_
                  obtain ⟨z54, c55, c56, c57, c58, c59, c60, hc263, h⟩ := k_b7_e h
                  refine g_callMI_V (As := [.int 6, .int z46]) (rest := [.long z53]) hC (mX4_heatOutcome l dC dI cyI cyC cyO ob n0 n1 n2 n3 t0 t1 t2 t3 s0 aR ro r1 r2 r3 x0 x1 x2 x3 x4 n_ones n_twos n_settings n_tick n_energy n_valuesPut c47 c48 c49 c50 c51 c52 s_ring s_oldest s_count x_signs x_length x_position x_complete x_orders x_kinds x_numbers x_values 6 z46 hc263) q440 q441 q9 q71 q442 2 hdX4_heatOutcome ⟨Nat.le_of_ble_eq_true rfl, Nat.le_of_ble_eq_true rfl⟩ ⟨Nat.le_of_ble_eq_true rfl, Nat.le_of_ble_eq_true rfl⟩ rfl rfl hl.1 (Nat.le_of_ble_eq_true rfl) hP hK hD (va_recv hK hP (ci := 3) (q0 := 0) rfl rfl) hS dX4_digest_263 (fun H locs hPn hk hS => ?_)
                  have hP : va_P (dC, dI) vwCl (wAll cyI cyC cyO ob n0 n1 n2 n3 t0 t1 t2 t3 s0 aR ro r1 r2 r3 x0 x1 x2 x3 x4 n_ones n_twos n_settings n_tick n_energy n_valuesPut c55 c56 c57 c58 c59 c60 s_ring s_oldest s_count x_signs x_length x_position x_complete x_orders x_kinds x_numbers x_values) H := hPn
                  have hD : va_D (k_A (wAll cyI cyC cyO ob n0 n1 n2 n3 t0 t1 t2 t3 s0 aR ro r1 r2 r3 x0 x1 x2 x3 x4 n_ones n_twos n_settings n_tick n_energy n_valuesPut t_ones t_twos t_settings t_tick t_energy t_valuesPut s_ring s_oldest s_count x_signs x_length x_position x_complete x_orders x_kinds x_numbers x_values)) (wAll cyI cyC cyO ob n0 n1 n2 n3 t0 t1 t2 t3 s0 aR ro r1 r2 r3 x0 x1 x2 x3 x4 n_ones n_twos n_settings n_tick n_energy n_valuesPut c55 c56 c57 c58 c59 c60 s_ring s_oldest s_count x_signs x_length x_position x_complete x_orders x_kinds x_numbers x_values) := k_Dm hD rfl
                  refine g_i2l hx hb dX4_digest_266 h (fun z61 h => ?_)
                  refine g_ladd hx hb dX4_digest_267 h (fun z62 h => ?_)
                  refine lv_lstore_n (lv' := [(1, .long z62), (0, .ref ob), (3, .int z46)]) hx hb dX4_digest_268 rfl hl (by decide) rfl (fun ls hl => ?_)
                  refine g_iinc (dv := 1) hx hb dX4_digest_269 hl (j := 2) rfl (by decide) (by decide) h (fun z63 ls h hl => ?_)
                  have hl : lv_has ls 5 [(3, .int z63), (1, .long z62), (0, .ref ob)] := hl
                  refine lv_goto (tgt := 249) hx hb dX4_digest_272 (by decide) ?_
                  exact ih249 z62 z63 c55 c56 c57 c58 c59 c60 _ _ _ h hP hS (lv_sub hl [2, 1, 0] rfl)
            exact L249 5000 z5 0 c6 c7 c8 c9 c10 c11 _ _ _ h hP hS (lv_sub hl [1, 2, 0] rfl)
          obtain ⟨S221, hS221⟩ : ∃ z, z = (fX4_digest_s221 K247 n_ones n_twos n_settings n_tick n_energy n_valuesPut) := ⟨_, rfl⟩
          rw [← hS221] at h
          have L221 : ∀ (n : Nat) (z64 : Int64) (z65 : Int32) (c66 : Nat → Int32) (c67 : Nat → Int32) (c68 : Nat → Int32) (c69 : Int32) (c70 : Int32) (c71 : Int32) (H : Heap) (locs : List Loc) (ls : Array Slot), k_l8 S221 n z64 z65 c66 c67 c68 c69 c70 c71 = some (r, r_t_ones, r_t_twos, r_t_settings, r_t_tick, r_t_energy, r_t_valuesPut) → va_P (dC, dI) vwCl (wAll cyI cyC cyO ob n0 n1 n2 n3 t0 t1 t2 t3 s0 aR ro r1 r2 r3 x0 x1 x2 x3 x4 n_ones n_twos n_settings n_tick n_energy n_valuesPut c66 c67 c68 c69 c70 c71 s_ring s_oldest s_count x_signs x_length x_position x_complete x_orders x_kinds x_numbers x_values) H → va_S (k_A (wAll cyI cyC cyO ob n0 n1 n2 n3 t0 t1 t2 t3 s0 aR ro r1 r2 r3 x0 x1 x2 x3 x4 n_ones n_twos n_settings n_tick n_energy n_valuesPut t_ones t_twos t_settings t_tick t_energy t_valuesPut s_ring s_oldest s_count x_signs x_length x_position x_complete x_orders x_kinds x_numbers x_values)) s.heap H locs → lv_has ls 5 [(0, .ref ob), (1, .long z64), (3, .int z65)] → W p l e (k_rm 6 137) s m [.ref ob].toArray below meth c H locs 0 0 (MQ below (qML r (dC, dI) (wAll cyI cyC cyO ob n0 n1 n2 n3 t0 t1 t2 t3 s0 aR ro r1 r2 r3 x0 x1 x2 x3 x4 n_ones n_twos n_settings n_tick n_energy n_valuesPut t_ones t_twos t_settings t_tick t_energy t_valuesPut s_ring s_oldest s_count x_signs x_length x_position x_complete x_orders x_kinds x_numbers x_values) (wAll cyI cyC cyO ob n0 n1 n2 n3 t0 t1 t2 t3 s0 aR ro r1 r2 r3 x0 x1 x2 x3 x4 n_ones n_twos n_settings n_tick n_energy n_valuesPut r_t_ones r_t_twos r_t_settings r_t_tick r_t_energy r_t_valuesPut s_ring s_oldest s_count x_signs x_length x_position x_complete x_orders x_kinds x_numbers x_values)) [.ref ob].toArray s 0 0 (k_A (wAll cyI cyC cyO ob n0 n1 n2 n3 t0 t1 t2 t3 s0 aR ro r1 r2 r3 x0 x1 x2 x3 x4 n_ones n_twos n_settings n_tick n_energy n_valuesPut t_ones t_twos t_settings t_tick t_energy t_valuesPut s_ring s_oldest s_count x_signs x_length x_position x_complete x_orders x_kinds x_numbers x_values))) (F0 m 221 ls []) := by
            intro n
            induction n with
            | zero =>
              intro z64 z65 c66 c67 c68 c69 c70 c71 H locs ls h
              exact (k_l8_0 h).elim
            | succ n ih221 =>
              intro z64 z65 c66 c67 c68 c69 c70 c71 H locs ls h hP hS hl
              have hD : va_D (k_A (wAll cyI cyC cyO ob n0 n1 n2 n3 t0 t1 t2 t3 s0 aR ro r1 r2 r3 x0 x1 x2 x3 x4 n_ones n_twos n_settings n_tick n_energy n_valuesPut t_ones t_twos t_settings t_tick t_energy t_valuesPut s_ring s_oldest s_count x_signs x_length x_position x_complete x_orders x_kinds x_numbers x_values)) (wAll cyI cyC cyO ob n0 n1 n2 n3 t0 t1 t2 t3 s0 aR ro r1 r2 r3 x0 x1 x2 x3 x4 n_ones n_twos n_settings n_tick n_energy n_valuesPut c66 c67 c68 c69 c70 c71 s_ring s_oldest s_count x_signs x_length x_position x_complete x_orders x_kinds x_numbers x_values) := k_Dm hD rfl
              have h := k_l8_s h
              have h := k_a9 hS221 h
              unfold fX4_digest_s221 at h
              refine lv_iload_n hx hb dX4_digest_221 rfl (lv_at hl 2 rfl) ?_
              refine lv_iconst (v := 5) hx hb dX4_digest_222 (by decide) ?_
              refine g_icmp_ge (tgt := 247) hx hb dX4_digest_223 (by decide) h (fun h => ?_) (fun h => ?_)
              · exact J247 z64 c66 c67 c68 c69 c70 c71 _ _ _ h hP hS (lv_sub hl [0, 1] rfl)
              · refine lv_ldc2 hx hb hown (hts _ q303) dX4_digest_226 ?_
                refine lv_lload_n hx hb dX4_digest_229 rfl (lv_at hl 1 rfl) ?_
                refine g_lmul hx hb dX4_digest_230 h (fun z72 h => ?_)
                refine lv_aload_n hx hb dX4_digest_231 rfl (lv_at hl 0 rfl) ?_
                refine lv_iconst (v := 3) hx hb dX4_digest_232 (by decide) ?_
                refine lv_iconst (v := 5) hx hb dX4_digest_233 (by decide) ?_
                refine lv_iload_n hx hb dX4_digest_234 rfl (lv_at hl 2 rfl) ?_
                obtain ⟨z73, c74, c75, c76, c77, c78, c79, hc235, h⟩ := k_b7_e h
                refine g_callMI_V (As := [.int 3, .int 5, .int z65]) (rest := [.long z72]) hC (mX4_putOutcome l dC dI cyI cyC cyO ob n0 n1 n2 n3 t0 t1 t2 t3 s0 aR ro r1 r2 r3 x0 x1 x2 x3 x4 n_ones n_twos n_settings n_tick n_energy n_valuesPut c66 c67 c68 c69 c70 c71 s_ring s_oldest s_count x_signs x_length x_position x_complete x_orders x_kinds x_numbers x_values 3 5 z65 hc235) q397 q398 q8 q71 q399 3 hdX4_putOutcome ⟨Nat.le_of_ble_eq_true rfl, Nat.le_of_ble_eq_true rfl⟩ ⟨Nat.le_of_ble_eq_true rfl, Nat.le_of_ble_eq_true rfl⟩ rfl rfl hl.1 (Nat.le_of_ble_eq_true rfl) hP hK hD (va_recv hK hP (ci := 3) (q0 := 0) rfl rfl) hS dX4_digest_235 (fun H locs hPn hk hS => ?_)
                have hP : va_P (dC, dI) vwCl (wAll cyI cyC cyO ob n0 n1 n2 n3 t0 t1 t2 t3 s0 aR ro r1 r2 r3 x0 x1 x2 x3 x4 n_ones n_twos n_settings n_tick n_energy n_valuesPut c74 c75 c76 c77 c78 c79 s_ring s_oldest s_count x_signs x_length x_position x_complete x_orders x_kinds x_numbers x_values) H := hPn
                have hD : va_D (k_A (wAll cyI cyC cyO ob n0 n1 n2 n3 t0 t1 t2 t3 s0 aR ro r1 r2 r3 x0 x1 x2 x3 x4 n_ones n_twos n_settings n_tick n_energy n_valuesPut t_ones t_twos t_settings t_tick t_energy t_valuesPut s_ring s_oldest s_count x_signs x_length x_position x_complete x_orders x_kinds x_numbers x_values)) (wAll cyI cyC cyO ob n0 n1 n2 n3 t0 t1 t2 t3 s0 aR ro r1 r2 r3 x0 x1 x2 x3 x4 n_ones n_twos n_settings n_tick n_energy n_valuesPut c74 c75 c76 c77 c78 c79 s_ring s_oldest s_count x_signs x_length x_position x_complete x_orders x_kinds x_numbers x_values) := k_Dm hD rfl
                refine g_i2l hx hb dX4_digest_238 h (fun z80 h => ?_)
                refine g_ladd hx hb dX4_digest_239 h (fun z81 h => ?_)
                refine lv_lstore_n (lv' := [(1, .long z81), (0, .ref ob), (3, .int z65)]) hx hb dX4_digest_240 rfl hl (by decide) rfl (fun ls hl => ?_)
                refine g_iinc (dv := 1) hx hb dX4_digest_241 hl (j := 2) rfl (by decide) (by decide) h (fun z82 ls h hl => ?_)
                have hl : lv_has ls 5 [(3, .int z82), (1, .long z81), (0, .ref ob)] := hl
                refine lv_goto (tgt := 221) hx hb dX4_digest_244 (by decide) ?_
                exact ih221 z81 z82 c74 c75 c76 c77 c78 c79 _ _ _ h hP hS (lv_sub hl [2, 1, 0] rfl)
          exact L221 5000 z4 0 t_ones t_twos t_settings t_tick t_energy t_valuesPut _ _ _ h hP hS (lv_sub hl [1, 2, 0] rfl)
        obtain ⟨S142, hS142⟩ : ∃ z, z = (fX4_digest_s142 K219 n_ones n_twos n_settings n_tick) := ⟨_, rfl⟩
        rw [← hS142] at h
        have L142 : ∀ (n : Nat) (z83 : Int64) (z84 : Int32) (H : Heap) (locs : List Loc) (ls : Array Slot), k_l2 S142 n z83 z84 = some (r, r_t_ones, r_t_twos, r_t_settings, r_t_tick, r_t_energy, r_t_valuesPut) → va_P (dC, dI) vwCl (wAll cyI cyC cyO ob n0 n1 n2 n3 t0 t1 t2 t3 s0 aR ro r1 r2 r3 x0 x1 x2 x3 x4 n_ones n_twos n_settings n_tick n_energy n_valuesPut t_ones t_twos t_settings t_tick t_energy t_valuesPut s_ring s_oldest s_count x_signs x_length x_position x_complete x_orders x_kinds x_numbers x_values) H → va_S (k_A (wAll cyI cyC cyO ob n0 n1 n2 n3 t0 t1 t2 t3 s0 aR ro r1 r2 r3 x0 x1 x2 x3 x4 n_ones n_twos n_settings n_tick n_energy n_valuesPut t_ones t_twos t_settings t_tick t_energy t_valuesPut s_ring s_oldest s_count x_signs x_length x_position x_complete x_orders x_kinds x_numbers x_values)) s.heap H locs → lv_has ls 5 [(0, .ref ob), (1, .long z83), (3, .int z84)] → W p l e (k_rm 6 137) s m [.ref ob].toArray below meth c H locs 0 0 (MQ below (qML r (dC, dI) (wAll cyI cyC cyO ob n0 n1 n2 n3 t0 t1 t2 t3 s0 aR ro r1 r2 r3 x0 x1 x2 x3 x4 n_ones n_twos n_settings n_tick n_energy n_valuesPut t_ones t_twos t_settings t_tick t_energy t_valuesPut s_ring s_oldest s_count x_signs x_length x_position x_complete x_orders x_kinds x_numbers x_values) (wAll cyI cyC cyO ob n0 n1 n2 n3 t0 t1 t2 t3 s0 aR ro r1 r2 r3 x0 x1 x2 x3 x4 n_ones n_twos n_settings n_tick n_energy n_valuesPut r_t_ones r_t_twos r_t_settings r_t_tick r_t_energy r_t_valuesPut s_ring s_oldest s_count x_signs x_length x_position x_complete x_orders x_kinds x_numbers x_values)) [.ref ob].toArray s 0 0 (k_A (wAll cyI cyC cyO ob n0 n1 n2 n3 t0 t1 t2 t3 s0 aR ro r1 r2 r3 x0 x1 x2 x3 x4 n_ones n_twos n_settings n_tick n_energy n_valuesPut t_ones t_twos t_settings t_tick t_energy t_valuesPut s_ring s_oldest s_count x_signs x_length x_position x_complete x_orders x_kinds x_numbers x_values))) (F0 m 142 ls []) := by
          intro n
          induction n with
          | zero =>
            intro z83 z84 H locs ls h
            exact (k_l2_0 h).elim
          | succ n ih142 =>
            intro z83 z84 H locs ls h hP hS hl
            have h := k_l2_s h
            have h := k_a3 hS142 h
            unfold fX4_digest_s142 at h
            refine lv_iload_n hx hb dX4_digest_142 rfl (lv_at hl 2 rfl) ?_
            refine lv_bipush (v := 16) hx hb dX4_digest_143 (by decide) ?_
            refine g_icmp_ge (tgt := 219) hx hb dX4_digest_145 (by decide) h (fun h => ?_) (fun h => ?_)
            · exact J219 z83 _ _ _ h hP hS (lv_sub hl [0, 1] rfl)
            · refine lv_iconst (v := 0) hx hb dX4_digest_148 (by decide) ?_
              refine lv_istore (lv' := [(4, .int 0), (0, .ref ob), (1, .long z83), (3, .int z84)]) hx hb dX4_digest_149 hl (by decide) rfl (fun ls hl => ?_)
              obtain ⟨K179, hK179, h⟩ := k_j1_e h
              have J179 : ∀ (z85 : Int64) (H : Heap) (locs : List Loc) (ls : Array Slot), K179 z85 = some (r, r_t_ones, r_t_twos, r_t_settings, r_t_tick, r_t_energy, r_t_valuesPut) → va_P (dC, dI) vwCl (wAll cyI cyC cyO ob n0 n1 n2 n3 t0 t1 t2 t3 s0 aR ro r1 r2 r3 x0 x1 x2 x3 x4 n_ones n_twos n_settings n_tick n_energy n_valuesPut t_ones t_twos t_settings t_tick t_energy t_valuesPut s_ring s_oldest s_count x_signs x_length x_position x_complete x_orders x_kinds x_numbers x_values) H → va_S (k_A (wAll cyI cyC cyO ob n0 n1 n2 n3 t0 t1 t2 t3 s0 aR ro r1 r2 r3 x0 x1 x2 x3 x4 n_ones n_twos n_settings n_tick n_energy n_valuesPut t_ones t_twos t_settings t_tick t_energy t_valuesPut s_ring s_oldest s_count x_signs x_length x_position x_complete x_orders x_kinds x_numbers x_values)) s.heap H locs → lv_has ls 5 [(0, .ref ob), (1, .long z85), (3, .int z84)] → W p l e (k_rm 6 137) s m [.ref ob].toArray below meth c H locs 0 0 (MQ below (qML r (dC, dI) (wAll cyI cyC cyO ob n0 n1 n2 n3 t0 t1 t2 t3 s0 aR ro r1 r2 r3 x0 x1 x2 x3 x4 n_ones n_twos n_settings n_tick n_energy n_valuesPut t_ones t_twos t_settings t_tick t_energy t_valuesPut s_ring s_oldest s_count x_signs x_length x_position x_complete x_orders x_kinds x_numbers x_values) (wAll cyI cyC cyO ob n0 n1 n2 n3 t0 t1 t2 t3 s0 aR ro r1 r2 r3 x0 x1 x2 x3 x4 n_ones n_twos n_settings n_tick n_energy n_valuesPut r_t_ones r_t_twos r_t_settings r_t_tick r_t_energy r_t_valuesPut s_ring s_oldest s_count x_signs x_length x_position x_complete x_orders x_kinds x_numbers x_values)) [.ref ob].toArray s 0 0 (k_A (wAll cyI cyC cyO ob n0 n1 n2 n3 t0 t1 t2 t3 s0 aR ro r1 r2 r3 x0 x1 x2 x3 x4 n_ones n_twos n_settings n_tick n_energy n_valuesPut t_ones t_twos t_settings t_tick t_energy t_valuesPut s_ring s_oldest s_count x_signs x_length x_position x_complete x_orders x_kinds x_numbers x_values))) (F0 m 179 ls []) := by
                intro z85 H locs ls h hP hS hl
                have h := k_a1 hK179 h
                refine lv_ldc2 hx hb hown (hts _ q303) dX4_digest_179 ?_
                refine lv_lload_n hx hb dX4_digest_182 rfl (lv_at hl 1 rfl) ?_
                refine g_lmul hx hb dX4_digest_183 h (fun z86 h => ?_)
                refine lv_aload_n hx hb dX4_digest_184 rfl (lv_at hl 0 rfl) ?_
                refine va_get (D := (dC, dI)) (ci := 3) (v := .ref n0) (C := RX4) (T := TX4) (N := 4) hx hb hts iaX4 hown hK hP 0 rfl rfl 0 (by decide) (hts _ q152) (fun _ h9 => h9) rfl dX4_digest_185 ?_
                refine lv_iload_n hx hb dX4_digest_188 rfl (lv_at hl 2 rfl) ?_
                refine lv_iconst (v := 0) hx hb dX4_digest_189 (by decide) ?_
                obtain ⟨z87, hc190, h⟩ := k_b1_e h
                refine g_callRI_V (As := [.int z84, .int 0]) (rest := [.long z86]) hC (mX3_earlierValue l dC dI cyI cyC cyO n0 n1 n2 n3 n_ones n_twos n_settings n_tick n_energy n_valuesPut z84 0 hc190) q393 q394 q395 q72 q396 2 hdX3_earlierValue ⟨Nat.le_of_ble_eq_true rfl, Nat.le_of_ble_eq_true rfl⟩ ⟨Nat.le_of_ble_eq_true rfl, Nat.le_of_ble_eq_true rfl⟩ rfl rfl hl.1 (Nat.le_of_ble_eq_true rfl) (hP.sub (ws' := (wX3 cyI cyC n0 n1 n2 n3 n_ones n_twos n_settings n_tick n_energy n_valuesPut)) [1, 2, 3, 4] rfl) hK (va_recv hK hP (ci := 2) (q0 := 1) rfl rfl) hS dX4_digest_190 (fun H locs hk hS => ?_)
                have hP := k_kept hP hk
                refine g_i2l hx hb dX4_digest_193 h (fun z88 h => ?_)
                refine g_ladd hx hb dX4_digest_194 h (fun z89 h => ?_)
                refine lv_lstore_n (lv' := [(1, .long z89), (0, .ref ob), (3, .int z84)]) hx hb dX4_digest_195 rfl hl (by decide) rfl (fun ls hl => ?_)
                refine lv_ldc2 hx hb hown (hts _ q303) dX4_digest_196 ?_
                refine lv_lload_n hx hb dX4_digest_199 rfl (lv_at hl 0 rfl) ?_
                refine g_lmul hx hb dX4_digest_200 h (fun z90 h => ?_)
                refine lv_aload_n hx hb dX4_digest_201 rfl (lv_at hl 1 rfl) ?_
                refine va_get (D := (dC, dI)) (ci := 3) (v := .ref n0) (C := RX4) (T := TX4) (N := 4) hx hb hts iaX4 hown hK hP 0 rfl rfl 0 (by decide) (hts _ q152) (fun _ h9 => h9) rfl dX4_digest_202 ?_
                refine lv_iload_n hx hb dX4_digest_205 rfl (lv_at hl 2 rfl) ?_
                refine lv_iconst (v := 1) hx hb dX4_digest_206 (by decide) ?_
                obtain ⟨z91, hc207, h⟩ := k_b1_e h
                refine g_callRI_V (As := [.int z84, .int 1]) (rest := [.long z90]) hC (mX3_earlierValue l dC dI cyI cyC cyO n0 n1 n2 n3 n_ones n_twos n_settings n_tick n_energy n_valuesPut z84 1 hc207) q393 q394 q395 q72 q396 2 hdX3_earlierValue ⟨Nat.le_of_ble_eq_true rfl, Nat.le_of_ble_eq_true rfl⟩ ⟨Nat.le_of_ble_eq_true rfl, Nat.le_of_ble_eq_true rfl⟩ rfl rfl hl.1 (Nat.le_of_ble_eq_true rfl) (hP.sub (ws' := (wX3 cyI cyC n0 n1 n2 n3 n_ones n_twos n_settings n_tick n_energy n_valuesPut)) [1, 2, 3, 4] rfl) hK (va_recv hK hP (ci := 2) (q0 := 1) rfl rfl) hS dX4_digest_207 (fun H locs hk hS => ?_)
                have hP := k_kept hP hk
                refine g_i2l hx hb dX4_digest_210 h (fun z92 h => ?_)
                refine g_ladd hx hb dX4_digest_211 h (fun z93 h => ?_)
                refine lv_lstore_n (lv' := [(1, .long z93), (0, .ref ob), (3, .int z84)]) hx hb dX4_digest_212 rfl hl (by decide) rfl (fun ls hl => ?_)
                refine g_iinc (dv := 1) hx hb dX4_digest_213 hl (j := 2) rfl (by decide) (by decide) h (fun z94 ls h hl => ?_)
                have hl : lv_has ls 5 [(3, .int z94), (1, .long z93), (0, .ref ob)] := hl
                refine lv_goto (tgt := 142) hx hb dX4_digest_216 (by decide) ?_
                exact ih142 z93 z94 _ _ _ h hP hS (lv_sub hl [2, 1, 0] rfl)
              obtain ⟨S151, hS151⟩ : ∃ z, z = (fX4_digest_s151 K179 n_ones n_twos n_settings n_tick z84) := ⟨_, rfl⟩
              rw [← hS151] at h
              have L151 : ∀ (n : Nat) (z95 : Int64) (z96 : Int32) (H : Heap) (locs : List Loc) (ls : Array Slot), k_l2 S151 n z95 z96 = some (r, r_t_ones, r_t_twos, r_t_settings, r_t_tick, r_t_energy, r_t_valuesPut) → va_P (dC, dI) vwCl (wAll cyI cyC cyO ob n0 n1 n2 n3 t0 t1 t2 t3 s0 aR ro r1 r2 r3 x0 x1 x2 x3 x4 n_ones n_twos n_settings n_tick n_energy n_valuesPut t_ones t_twos t_settings t_tick t_energy t_valuesPut s_ring s_oldest s_count x_signs x_length x_position x_complete x_orders x_kinds x_numbers x_values) H → va_S (k_A (wAll cyI cyC cyO ob n0 n1 n2 n3 t0 t1 t2 t3 s0 aR ro r1 r2 r3 x0 x1 x2 x3 x4 n_ones n_twos n_settings n_tick n_energy n_valuesPut t_ones t_twos t_settings t_tick t_energy t_valuesPut s_ring s_oldest s_count x_signs x_length x_position x_complete x_orders x_kinds x_numbers x_values)) s.heap H locs → lv_has ls 5 [(0, .ref ob), (1, .long z95), (3, .int z84), (4, .int z96)] → W p l e (k_rm 6 137) s m [.ref ob].toArray below meth c H locs 0 0 (MQ below (qML r (dC, dI) (wAll cyI cyC cyO ob n0 n1 n2 n3 t0 t1 t2 t3 s0 aR ro r1 r2 r3 x0 x1 x2 x3 x4 n_ones n_twos n_settings n_tick n_energy n_valuesPut t_ones t_twos t_settings t_tick t_energy t_valuesPut s_ring s_oldest s_count x_signs x_length x_position x_complete x_orders x_kinds x_numbers x_values) (wAll cyI cyC cyO ob n0 n1 n2 n3 t0 t1 t2 t3 s0 aR ro r1 r2 r3 x0 x1 x2 x3 x4 n_ones n_twos n_settings n_tick n_energy n_valuesPut r_t_ones r_t_twos r_t_settings r_t_tick r_t_energy r_t_valuesPut s_ring s_oldest s_count x_signs x_length x_position x_complete x_orders x_kinds x_numbers x_values)) [.ref ob].toArray s 0 0 (k_A (wAll cyI cyC cyO ob n0 n1 n2 n3 t0 t1 t2 t3 s0 aR ro r1 r2 r3 x0 x1 x2 x3 x4 n_ones n_twos n_settings n_tick n_energy n_valuesPut t_ones t_twos t_settings t_tick t_energy t_valuesPut s_ring s_oldest s_count x_signs x_length x_position x_complete x_orders x_kinds x_numbers x_values))) (F0 m 151 ls []) := by
                intro n
                induction n with
                | zero =>
                  intro z95 z96 H locs ls h
                  exact (k_l2_0 h).elim
                | succ n ih151 =>
                  intro z95 z96 H locs ls h hP hS hl
                  have h := k_l2_s h
                  have h := k_a3 hS151 h
                  unfold fX4_digest_s151 at h
                  refine lv_iload hx hb dX4_digest_151 (lv_at hl 3 rfl) ?_
                  refine lv_bipush (v := 6) hx hb dX4_digest_153 (by decide) ?_
                  refine g_icmp_ge (tgt := 179) hx hb dX4_digest_155 (by decide) h (fun h => ?_) (fun h => ?_)
                  · exact J179 z95 _ _ _ h hP hS (lv_sub hl [0, 1, 2] rfl)
                  · refine lv_ldc2 hx hb hown (hts _ q303) dX4_digest_158 ?_
                    refine lv_lload_n hx hb dX4_digest_161 rfl (lv_at hl 1 rfl) ?_
                    refine g_lmul hx hb dX4_digest_162 h (fun z97 h => ?_)
                    refine lv_aload_n hx hb dX4_digest_163 rfl (lv_at hl 0 rfl) ?_
                    refine lv_iload_n hx hb dX4_digest_164 rfl (lv_at hl 2 rfl) ?_
                    refine lv_iload hx hb dX4_digest_165 (lv_at hl 3 rfl) ?_
                    obtain ⟨z98, hc167, h⟩ := k_b1_e h
                    refine g_callRI_V (As := [.int z84, .int z96]) (rest := [.long z97]) hC (mX4_keyProperty l dC dI cyI cyC cyO ob n0 n1 n2 n3 t0 t1 t2 t3 s0 aR ro r1 r2 r3 x0 x1 x2 x3 x4 n_ones n_twos n_settings n_tick n_energy n_valuesPut t_ones t_twos t_settings t_tick t_energy t_valuesPut s_ring s_oldest s_count x_signs x_length x_position x_complete x_orders x_kinds x_numbers x_values z84 z96 hc167) q358 q359 q7 q71 q360 2 hdX4_keyProperty ⟨Nat.le_of_ble_eq_true rfl, Nat.le_of_ble_eq_true rfl⟩ ⟨Nat.le_of_ble_eq_true rfl, Nat.le_of_ble_eq_true rfl⟩ rfl rfl hl.1 (Nat.le_of_ble_eq_true rfl) hP hK (va_recv hK hP (ci := 3) (q0 := 0) rfl rfl) hS dX4_digest_167 (fun H locs hk hS => ?_)
                    have hP := k_kept hP hk
                    refine g_i2l hx hb dX4_digest_170 h (fun z99 h => ?_)
                    refine g_ladd hx hb dX4_digest_171 h (fun z100 h => ?_)
                    refine lv_lstore_n (lv' := [(1, .long z100), (0, .ref ob), (3, .int z84), (4, .int z96)]) hx hb dX4_digest_172 rfl hl (by decide) rfl (fun ls hl => ?_)
                    refine g_iinc (dv := 1) hx hb dX4_digest_173 hl (j := 3) rfl (by decide) (by decide) h (fun z101 ls h hl => ?_)
                    have hl : lv_has ls 5 [(4, .int z101), (1, .long z100), (0, .ref ob), (3, .int z84)] := hl
                    refine lv_goto (tgt := 151) hx hb dX4_digest_176 (by decide) ?_
                    exact ih151 z100 z101 _ _ _ h hP hS (lv_sub hl [2, 1, 3, 0] rfl)
              exact L151 5000 z83 0 _ _ _ h hP hS (lv_sub hl [1, 2, 3, 0] rfl)
        exact L142 5000 z3 0 _ _ _ h hP hS (lv_sub hl [1, 2, 0] rfl)
      obtain ⟨S63, hS63⟩ : ∃ z, z = (fX4_digest_s63 K140 n_ones n_twos n_settings n_tick) := ⟨_, rfl⟩
      rw [← hS63] at h
      have L63 : ∀ (n : Nat) (z102 : Int64) (z103 : Int32) (H : Heap) (locs : List Loc) (ls : Array Slot), k_l2 S63 n z102 z103 = some (r, r_t_ones, r_t_twos, r_t_settings, r_t_tick, r_t_energy, r_t_valuesPut) → va_P (dC, dI) vwCl (wAll cyI cyC cyO ob n0 n1 n2 n3 t0 t1 t2 t3 s0 aR ro r1 r2 r3 x0 x1 x2 x3 x4 n_ones n_twos n_settings n_tick n_energy n_valuesPut t_ones t_twos t_settings t_tick t_energy t_valuesPut s_ring s_oldest s_count x_signs x_length x_position x_complete x_orders x_kinds x_numbers x_values) H → va_S (k_A (wAll cyI cyC cyO ob n0 n1 n2 n3 t0 t1 t2 t3 s0 aR ro r1 r2 r3 x0 x1 x2 x3 x4 n_ones n_twos n_settings n_tick n_energy n_valuesPut t_ones t_twos t_settings t_tick t_energy t_valuesPut s_ring s_oldest s_count x_signs x_length x_position x_complete x_orders x_kinds x_numbers x_values)) s.heap H locs → lv_has ls 5 [(0, .ref ob), (1, .long z102), (3, .int z103)] → W p l e (k_rm 6 137) s m [.ref ob].toArray below meth c H locs 0 0 (MQ below (qML r (dC, dI) (wAll cyI cyC cyO ob n0 n1 n2 n3 t0 t1 t2 t3 s0 aR ro r1 r2 r3 x0 x1 x2 x3 x4 n_ones n_twos n_settings n_tick n_energy n_valuesPut t_ones t_twos t_settings t_tick t_energy t_valuesPut s_ring s_oldest s_count x_signs x_length x_position x_complete x_orders x_kinds x_numbers x_values) (wAll cyI cyC cyO ob n0 n1 n2 n3 t0 t1 t2 t3 s0 aR ro r1 r2 r3 x0 x1 x2 x3 x4 n_ones n_twos n_settings n_tick n_energy n_valuesPut r_t_ones r_t_twos r_t_settings r_t_tick r_t_energy r_t_valuesPut s_ring s_oldest s_count x_signs x_length x_position x_complete x_orders x_kinds x_numbers x_values)) [.ref ob].toArray s 0 0 (k_A (wAll cyI cyC cyO ob n0 n1 n2 n3 t0 t1 t2 t3 s0 aR ro r1 r2 r3 x0 x1 x2 x3 x4 n_ones n_twos n_settings n_tick n_energy n_valuesPut t_ones t_twos t_settings t_tick t_energy t_valuesPut s_ring s_oldest s_count x_signs x_length x_position x_complete x_orders x_kinds x_numbers x_values))) (F0 m 63 ls []) := by
        intro n
        induction n with
        | zero =>
          intro z102 z103 H locs ls h
          exact (k_l2_0 h).elim
        | succ n ih63 =>
          intro z102 z103 H locs ls h hP hS hl
          have h := k_l2_s h
          have h := k_a3 hS63 h
          unfold fX4_digest_s63 at h
          refine lv_iload_n hx hb dX4_digest_63 rfl (lv_at hl 2 rfl) ?_
          refine lv_bipush (v := 20) hx hb dX4_digest_64 (by decide) ?_
          refine g_icmp_ge (tgt := 140) hx hb dX4_digest_66 (by decide) h (fun h => ?_) (fun h => ?_)
          · exact J140 z102 _ _ _ h hP hS (lv_sub hl [0, 1] rfl)
          · refine lv_iconst (v := 0) hx hb dX4_digest_69 (by decide) ?_
            refine lv_istore (lv' := [(4, .int 0), (0, .ref ob), (1, .long z102), (3, .int z103)]) hx hb dX4_digest_70 hl (by decide) rfl (fun ls hl => ?_)
            obtain ⟨K100, hK100, h⟩ := k_j1_e h
            have J100 : ∀ (z104 : Int64) (H : Heap) (locs : List Loc) (ls : Array Slot), K100 z104 = some (r, r_t_ones, r_t_twos, r_t_settings, r_t_tick, r_t_energy, r_t_valuesPut) → va_P (dC, dI) vwCl (wAll cyI cyC cyO ob n0 n1 n2 n3 t0 t1 t2 t3 s0 aR ro r1 r2 r3 x0 x1 x2 x3 x4 n_ones n_twos n_settings n_tick n_energy n_valuesPut t_ones t_twos t_settings t_tick t_energy t_valuesPut s_ring s_oldest s_count x_signs x_length x_position x_complete x_orders x_kinds x_numbers x_values) H → va_S (k_A (wAll cyI cyC cyO ob n0 n1 n2 n3 t0 t1 t2 t3 s0 aR ro r1 r2 r3 x0 x1 x2 x3 x4 n_ones n_twos n_settings n_tick n_energy n_valuesPut t_ones t_twos t_settings t_tick t_energy t_valuesPut s_ring s_oldest s_count x_signs x_length x_position x_complete x_orders x_kinds x_numbers x_values)) s.heap H locs → lv_has ls 5 [(0, .ref ob), (1, .long z104), (3, .int z103)] → W p l e (k_rm 6 137) s m [.ref ob].toArray below meth c H locs 0 0 (MQ below (qML r (dC, dI) (wAll cyI cyC cyO ob n0 n1 n2 n3 t0 t1 t2 t3 s0 aR ro r1 r2 r3 x0 x1 x2 x3 x4 n_ones n_twos n_settings n_tick n_energy n_valuesPut t_ones t_twos t_settings t_tick t_energy t_valuesPut s_ring s_oldest s_count x_signs x_length x_position x_complete x_orders x_kinds x_numbers x_values) (wAll cyI cyC cyO ob n0 n1 n2 n3 t0 t1 t2 t3 s0 aR ro r1 r2 r3 x0 x1 x2 x3 x4 n_ones n_twos n_settings n_tick n_energy n_valuesPut r_t_ones r_t_twos r_t_settings r_t_tick r_t_energy r_t_valuesPut s_ring s_oldest s_count x_signs x_length x_position x_complete x_orders x_kinds x_numbers x_values)) [.ref ob].toArray s 0 0 (k_A (wAll cyI cyC cyO ob n0 n1 n2 n3 t0 t1 t2 t3 s0 aR ro r1 r2 r3 x0 x1 x2 x3 x4 n_ones n_twos n_settings n_tick n_energy n_valuesPut t_ones t_twos t_settings t_tick t_energy t_valuesPut s_ring s_oldest s_count x_signs x_length x_position x_complete x_orders x_kinds x_numbers x_values))) (F0 m 100 ls []) := by
              intro z104 H locs ls h hP hS hl
              have h := k_a1 hK100 h
              refine lv_iconst (v := 0) hx hb dX4_digest_100 (by decide) ?_
              refine lv_istore (lv' := [(4, .int 0), (0, .ref ob), (1, .long z104), (3, .int z103)]) hx hb dX4_digest_101 hl (by decide) rfl (fun ls hl => ?_)
              obtain ⟨K134, hK134, h⟩ := k_j1_e h
              have J134 : ∀ (z105 : Int64) (H : Heap) (locs : List Loc) (ls : Array Slot), K134 z105 = some (r, r_t_ones, r_t_twos, r_t_settings, r_t_tick, r_t_energy, r_t_valuesPut) → va_P (dC, dI) vwCl (wAll cyI cyC cyO ob n0 n1 n2 n3 t0 t1 t2 t3 s0 aR ro r1 r2 r3 x0 x1 x2 x3 x4 n_ones n_twos n_settings n_tick n_energy n_valuesPut t_ones t_twos t_settings t_tick t_energy t_valuesPut s_ring s_oldest s_count x_signs x_length x_position x_complete x_orders x_kinds x_numbers x_values) H → va_S (k_A (wAll cyI cyC cyO ob n0 n1 n2 n3 t0 t1 t2 t3 s0 aR ro r1 r2 r3 x0 x1 x2 x3 x4 n_ones n_twos n_settings n_tick n_energy n_valuesPut t_ones t_twos t_settings t_tick t_energy t_valuesPut s_ring s_oldest s_count x_signs x_length x_position x_complete x_orders x_kinds x_numbers x_values)) s.heap H locs → lv_has ls 5 [(0, .ref ob), (1, .long z105), (3, .int z103)] → W p l e (k_rm 6 137) s m [.ref ob].toArray below meth c H locs 0 0 (MQ below (qML r (dC, dI) (wAll cyI cyC cyO ob n0 n1 n2 n3 t0 t1 t2 t3 s0 aR ro r1 r2 r3 x0 x1 x2 x3 x4 n_ones n_twos n_settings n_tick n_energy n_valuesPut t_ones t_twos t_settings t_tick t_energy t_valuesPut s_ring s_oldest s_count x_signs x_length x_position x_complete x_orders x_kinds x_numbers x_values) (wAll cyI cyC cyO ob n0 n1 n2 n3 t0 t1 t2 t3 s0 aR ro r1 r2 r3 x0 x1 x2 x3 x4 n_ones n_twos n_settings n_tick n_energy n_valuesPut r_t_ones r_t_twos r_t_settings r_t_tick r_t_energy r_t_valuesPut s_ring s_oldest s_count x_signs x_length x_position x_complete x_orders x_kinds x_numbers x_values)) [.ref ob].toArray s 0 0 (k_A (wAll cyI cyC cyO ob n0 n1 n2 n3 t0 t1 t2 t3 s0 aR ro r1 r2 r3 x0 x1 x2 x3 x4 n_ones n_twos n_settings n_tick n_energy n_valuesPut t_ones t_twos t_settings t_tick t_energy t_valuesPut s_ring s_oldest s_count x_signs x_length x_position x_complete x_orders x_kinds x_numbers x_values))) (F0 m 134 ls []) := by
                intro z105 H locs ls h hP hS hl
                have h := k_a1 hK134 h
                refine g_iinc (dv := 1) hx hb dX4_digest_134 hl (j := 2) rfl (by decide) (by decide) h (fun z106 ls h hl => ?_)
                have hl : lv_has ls 5 [(3, .int z106), (0, .ref ob), (1, .long z105)] := hl
                refine lv_goto (tgt := 63) hx hb dX4_digest_137 (by decide) ?_
                exact ih63 z105 z106 _ _ _ h hP hS (lv_sub hl [1, 2, 0] rfl)
              obtain ⟨S103, hS103⟩ : ∃ z, z = (fX4_digest_s103 K134 n_ones n_twos z103) := ⟨_, rfl⟩
              rw [← hS103] at h
              have L103 : ∀ (n : Nat) (z107 : Int64) (z108 : Int32) (H : Heap) (locs : List Loc) (ls : Array Slot), k_l2 S103 n z107 z108 = some (r, r_t_ones, r_t_twos, r_t_settings, r_t_tick, r_t_energy, r_t_valuesPut) → va_P (dC, dI) vwCl (wAll cyI cyC cyO ob n0 n1 n2 n3 t0 t1 t2 t3 s0 aR ro r1 r2 r3 x0 x1 x2 x3 x4 n_ones n_twos n_settings n_tick n_energy n_valuesPut t_ones t_twos t_settings t_tick t_energy t_valuesPut s_ring s_oldest s_count x_signs x_length x_position x_complete x_orders x_kinds x_numbers x_values) H → va_S (k_A (wAll cyI cyC cyO ob n0 n1 n2 n3 t0 t1 t2 t3 s0 aR ro r1 r2 r3 x0 x1 x2 x3 x4 n_ones n_twos n_settings n_tick n_energy n_valuesPut t_ones t_twos t_settings t_tick t_energy t_valuesPut s_ring s_oldest s_count x_signs x_length x_position x_complete x_orders x_kinds x_numbers x_values)) s.heap H locs → lv_has ls 5 [(0, .ref ob), (1, .long z107), (3, .int z103), (4, .int z108)] → W p l e (k_rm 6 137) s m [.ref ob].toArray below meth c H locs 0 0 (MQ below (qML r (dC, dI) (wAll cyI cyC cyO ob n0 n1 n2 n3 t0 t1 t2 t3 s0 aR ro r1 r2 r3 x0 x1 x2 x3 x4 n_ones n_twos n_settings n_tick n_energy n_valuesPut t_ones t_twos t_settings t_tick t_energy t_valuesPut s_ring s_oldest s_count x_signs x_length x_position x_complete x_orders x_kinds x_numbers x_values) (wAll cyI cyC cyO ob n0 n1 n2 n3 t0 t1 t2 t3 s0 aR ro r1 r2 r3 x0 x1 x2 x3 x4 n_ones n_twos n_settings n_tick n_energy n_valuesPut r_t_ones r_t_twos r_t_settings r_t_tick r_t_energy r_t_valuesPut s_ring s_oldest s_count x_signs x_length x_position x_complete x_orders x_kinds x_numbers x_values)) [.ref ob].toArray s 0 0 (k_A (wAll cyI cyC cyO ob n0 n1 n2 n3 t0 t1 t2 t3 s0 aR ro r1 r2 r3 x0 x1 x2 x3 x4 n_ones n_twos n_settings n_tick n_energy n_valuesPut t_ones t_twos t_settings t_tick t_energy t_valuesPut s_ring s_oldest s_count x_signs x_length x_position x_complete x_orders x_kinds x_numbers x_values))) (F0 m 103 ls []) := by
                intro n
                induction n with
                | zero =>
                  intro z107 z108 H locs ls h
                  exact (k_l2_0 h).elim
                | succ n ih103 =>
                  intro z107 z108 H locs ls h hP hS hl
                  have h := k_l2_s h
                  have h := k_a3 hS103 h
                  unfold fX4_digest_s103 at h
                  refine lv_iload hx hb dX4_digest_103 (lv_at hl 3 rfl) ?_
                  refine lv_bipush (v := 16) hx hb dX4_digest_105 (by decide) ?_
                  refine g_icmp_ge (tgt := 134) hx hb dX4_digest_107 (by decide) h (fun h => ?_) (fun h => ?_)
                  · exact J134 z107 _ _ _ h hP hS (lv_sub hl [0, 1, 2] rfl)
                  · refine lv_ldc2 hx hb hown (hts _ q303) dX4_digest_110 ?_
                    refine lv_lload_n hx hb dX4_digest_113 rfl (lv_at hl 1 rfl) ?_
                    refine g_lmul hx hb dX4_digest_114 h (fun z109 h => ?_)
                    refine lv_aload_n hx hb dX4_digest_115 rfl (lv_at hl 0 rfl) ?_
                    refine va_get (D := (dC, dI)) (ci := 3) (v := .ref n0) (C := RX4) (T := TX4) (N := 4) hx hb hts iaX4 hown hK hP 0 rfl rfl 0 (by decide) (hts _ q152) (fun _ h9 => h9) rfl dX4_digest_116 ?_
                    refine lv_iload_n hx hb dX4_digest_119 rfl (lv_at hl 2 rfl) ?_
                    refine lv_iload hx hb dX4_digest_120 (lv_at hl 3 rfl) ?_
                    obtain ⟨z110, hc122, h⟩ := k_b1_e h
                    refine g_callRI_V (As := [.int z103, .int z108]) (rest := [.long z109]) hC (mX3_strength l dC dI cyI cyC cyO n0 n1 n2 n3 n_ones n_twos n_settings n_tick n_energy n_valuesPut z103 z108 hc122) q354 q355 q356 q72 q357 2 hdX3_strength ⟨Nat.le_of_ble_eq_true rfl, Nat.le_of_ble_eq_true rfl⟩ ⟨Nat.le_of_ble_eq_true rfl, Nat.le_of_ble_eq_true rfl⟩ rfl rfl hl.1 (Nat.le_of_ble_eq_true rfl) (hP.sub (ws' := (wX3 cyI cyC n0 n1 n2 n3 n_ones n_twos n_settings n_tick n_energy n_valuesPut)) [1, 2, 3, 4] rfl) hK (va_recv hK hP (ci := 2) (q0 := 1) rfl rfl) hS dX4_digest_122 (fun H locs hk hS => ?_)
                    have hP := k_kept hP hk
                    refine g_i2l hx hb dX4_digest_125 h (fun z111 h => ?_)
                    refine g_ladd hx hb dX4_digest_126 h (fun z112 h => ?_)
                    refine lv_lstore_n (lv' := [(1, .long z112), (0, .ref ob), (3, .int z103), (4, .int z108)]) hx hb dX4_digest_127 rfl hl (by decide) rfl (fun ls hl => ?_)
                    refine g_iinc (dv := 1) hx hb dX4_digest_128 hl (j := 3) rfl (by decide) (by decide) h (fun z113 ls h hl => ?_)
                    have hl : lv_has ls 5 [(4, .int z113), (1, .long z112), (0, .ref ob), (3, .int z103)] := hl
                    refine lv_goto (tgt := 103) hx hb dX4_digest_131 (by decide) ?_
                    exact ih103 z112 z113 _ _ _ h hP hS (lv_sub hl [2, 1, 3, 0] rfl)
              exact L103 5000 z104 0 _ _ _ h hP hS (lv_sub hl [1, 2, 3, 0] rfl)
            obtain ⟨S72, hS72⟩ : ∃ z, z = (fX4_digest_s72 K100 n_ones n_twos n_settings n_tick z103) := ⟨_, rfl⟩
            rw [← hS72] at h
            have L72 : ∀ (n : Nat) (z114 : Int64) (z115 : Int32) (H : Heap) (locs : List Loc) (ls : Array Slot), k_l2 S72 n z114 z115 = some (r, r_t_ones, r_t_twos, r_t_settings, r_t_tick, r_t_energy, r_t_valuesPut) → va_P (dC, dI) vwCl (wAll cyI cyC cyO ob n0 n1 n2 n3 t0 t1 t2 t3 s0 aR ro r1 r2 r3 x0 x1 x2 x3 x4 n_ones n_twos n_settings n_tick n_energy n_valuesPut t_ones t_twos t_settings t_tick t_energy t_valuesPut s_ring s_oldest s_count x_signs x_length x_position x_complete x_orders x_kinds x_numbers x_values) H → va_S (k_A (wAll cyI cyC cyO ob n0 n1 n2 n3 t0 t1 t2 t3 s0 aR ro r1 r2 r3 x0 x1 x2 x3 x4 n_ones n_twos n_settings n_tick n_energy n_valuesPut t_ones t_twos t_settings t_tick t_energy t_valuesPut s_ring s_oldest s_count x_signs x_length x_position x_complete x_orders x_kinds x_numbers x_values)) s.heap H locs → lv_has ls 5 [(0, .ref ob), (1, .long z114), (3, .int z103), (4, .int z115)] → W p l e (k_rm 6 137) s m [.ref ob].toArray below meth c H locs 0 0 (MQ below (qML r (dC, dI) (wAll cyI cyC cyO ob n0 n1 n2 n3 t0 t1 t2 t3 s0 aR ro r1 r2 r3 x0 x1 x2 x3 x4 n_ones n_twos n_settings n_tick n_energy n_valuesPut t_ones t_twos t_settings t_tick t_energy t_valuesPut s_ring s_oldest s_count x_signs x_length x_position x_complete x_orders x_kinds x_numbers x_values) (wAll cyI cyC cyO ob n0 n1 n2 n3 t0 t1 t2 t3 s0 aR ro r1 r2 r3 x0 x1 x2 x3 x4 n_ones n_twos n_settings n_tick n_energy n_valuesPut r_t_ones r_t_twos r_t_settings r_t_tick r_t_energy r_t_valuesPut s_ring s_oldest s_count x_signs x_length x_position x_complete x_orders x_kinds x_numbers x_values)) [.ref ob].toArray s 0 0 (k_A (wAll cyI cyC cyO ob n0 n1 n2 n3 t0 t1 t2 t3 s0 aR ro r1 r2 r3 x0 x1 x2 x3 x4 n_ones n_twos n_settings n_tick n_energy n_valuesPut t_ones t_twos t_settings t_tick t_energy t_valuesPut s_ring s_oldest s_count x_signs x_length x_position x_complete x_orders x_kinds x_numbers x_values))) (F0 m 72 ls []) := by
              intro n
              induction n with
              | zero =>
                intro z114 z115 H locs ls h
                exact (k_l2_0 h).elim
              | succ n ih72 =>
                intro z114 z115 H locs ls h hP hS hl
                have h := k_l2_s h
                have h := k_a3 hS72 h
                unfold fX4_digest_s72 at h
                refine lv_iload hx hb dX4_digest_72 (lv_at hl 3 rfl) ?_
                refine lv_bipush (v := 9) hx hb dX4_digest_74 (by decide) ?_
                refine g_icmp_ge (tgt := 100) hx hb dX4_digest_76 (by decide) h (fun h => ?_) (fun h => ?_)
                · exact J100 z114 _ _ _ h hP hS (lv_sub hl [0, 1, 2] rfl)
                · refine lv_ldc2 hx hb hown (hts _ q303) dX4_digest_79 ?_
                  refine lv_lload_n hx hb dX4_digest_82 rfl (lv_at hl 1 rfl) ?_
                  refine g_lmul hx hb dX4_digest_83 h (fun z116 h => ?_)
                  refine lv_aload_n hx hb dX4_digest_84 rfl (lv_at hl 0 rfl) ?_
                  refine lv_iload_n hx hb dX4_digest_85 rfl (lv_at hl 2 rfl) ?_
                  refine lv_iload hx hb dX4_digest_86 (lv_at hl 3 rfl) ?_
                  obtain ⟨z117, hc88, h⟩ := k_b1_e h
                  refine g_callRI_V (As := [.int z103, .int z115]) (rest := [.long z116]) hC (mX4_rowProperty l dC dI cyI cyC cyO ob n0 n1 n2 n3 t0 t1 t2 t3 s0 aR ro r1 r2 r3 x0 x1 x2 x3 x4 n_ones n_twos n_settings n_tick n_energy n_valuesPut t_ones t_twos t_settings t_tick t_energy t_valuesPut s_ring s_oldest s_count x_signs x_length x_position x_complete x_orders x_kinds x_numbers x_values z103 z115 hc88) q337 q338 q6 q71 q339 2 hdX4_rowProperty ⟨Nat.le_of_ble_eq_true rfl, Nat.le_of_ble_eq_true rfl⟩ ⟨Nat.le_of_ble_eq_true rfl, Nat.le_of_ble_eq_true rfl⟩ rfl rfl hl.1 (Nat.le_of_ble_eq_true rfl) hP hK (va_recv hK hP (ci := 3) (q0 := 0) rfl rfl) hS dX4_digest_88 (fun H locs hk hS => ?_)
                  have hP := k_kept hP hk
                  refine g_i2l hx hb dX4_digest_91 h (fun z118 h => ?_)
                  refine g_ladd hx hb dX4_digest_92 h (fun z119 h => ?_)
                  refine lv_lstore_n (lv' := [(1, .long z119), (0, .ref ob), (3, .int z103), (4, .int z115)]) hx hb dX4_digest_93 rfl hl (by decide) rfl (fun ls hl => ?_)
                  refine g_iinc (dv := 1) hx hb dX4_digest_94 hl (j := 3) rfl (by decide) (by decide) h (fun z120 ls h hl => ?_)
                  have hl : lv_has ls 5 [(4, .int z120), (1, .long z119), (0, .ref ob), (3, .int z103)] := hl
                  refine lv_goto (tgt := 72) hx hb dX4_digest_97 (by decide) ?_
                  exact ih72 z119 z120 _ _ _ h hP hS (lv_sub hl [2, 1, 3, 0] rfl)
            exact L72 5000 z102 0 _ _ _ h hP hS (lv_sub hl [1, 2, 3, 0] rfl)
      exact L63 5000 z2 0 _ _ _ h hP hS (lv_sub hl [1, 2, 0] rfl)
    obtain ⟨S33, hS33⟩ : ∃ z, z = (fX4_digest_s33 K61 n_settings) := ⟨_, rfl⟩
    rw [← hS33] at h
    have L33 : ∀ (n : Nat) (z121 : Int64) (z122 : Int32) (H : Heap) (locs : List Loc) (ls : Array Slot), k_l2 S33 n z121 z122 = some (r, r_t_ones, r_t_twos, r_t_settings, r_t_tick, r_t_energy, r_t_valuesPut) → va_P (dC, dI) vwCl (wAll cyI cyC cyO ob n0 n1 n2 n3 t0 t1 t2 t3 s0 aR ro r1 r2 r3 x0 x1 x2 x3 x4 n_ones n_twos n_settings n_tick n_energy n_valuesPut t_ones t_twos t_settings t_tick t_energy t_valuesPut s_ring s_oldest s_count x_signs x_length x_position x_complete x_orders x_kinds x_numbers x_values) H → va_S (k_A (wAll cyI cyC cyO ob n0 n1 n2 n3 t0 t1 t2 t3 s0 aR ro r1 r2 r3 x0 x1 x2 x3 x4 n_ones n_twos n_settings n_tick n_energy n_valuesPut t_ones t_twos t_settings t_tick t_energy t_valuesPut s_ring s_oldest s_count x_signs x_length x_position x_complete x_orders x_kinds x_numbers x_values)) s.heap H locs → lv_has ls 5 [(0, .ref ob), (1, .long z121), (3, .int z122)] → W p l e (k_rm 6 137) s m [.ref ob].toArray below meth c H locs 0 0 (MQ below (qML r (dC, dI) (wAll cyI cyC cyO ob n0 n1 n2 n3 t0 t1 t2 t3 s0 aR ro r1 r2 r3 x0 x1 x2 x3 x4 n_ones n_twos n_settings n_tick n_energy n_valuesPut t_ones t_twos t_settings t_tick t_energy t_valuesPut s_ring s_oldest s_count x_signs x_length x_position x_complete x_orders x_kinds x_numbers x_values) (wAll cyI cyC cyO ob n0 n1 n2 n3 t0 t1 t2 t3 s0 aR ro r1 r2 r3 x0 x1 x2 x3 x4 n_ones n_twos n_settings n_tick n_energy n_valuesPut r_t_ones r_t_twos r_t_settings r_t_tick r_t_energy r_t_valuesPut s_ring s_oldest s_count x_signs x_length x_position x_complete x_orders x_kinds x_numbers x_values)) [.ref ob].toArray s 0 0 (k_A (wAll cyI cyC cyO ob n0 n1 n2 n3 t0 t1 t2 t3 s0 aR ro r1 r2 r3 x0 x1 x2 x3 x4 n_ones n_twos n_settings n_tick n_energy n_valuesPut t_ones t_twos t_settings t_tick t_energy t_valuesPut s_ring s_oldest s_count x_signs x_length x_position x_complete x_orders x_kinds x_numbers x_values))) (F0 m 33 ls []) := by
      intro n
      induction n with
      | zero =>
        intro z121 z122 H locs ls h
        exact (k_l2_0 h).elim
      | succ n ih33 =>
        intro z121 z122 H locs ls h hP hS hl
        have h := k_l2_s h
        have h := k_a3 hS33 h
        unfold fX4_digest_s33 at h
        refine lv_iload_n hx hb dX4_digest_33 rfl (lv_at hl 2 rfl) ?_
        refine lv_iconst (v := 4) hx hb dX4_digest_34 (by decide) ?_
        refine g_icmp_ge (tgt := 61) hx hb dX4_digest_35 (by decide) h (fun h => ?_) (fun h => ?_)
        · exact J61 z121 _ _ _ h hP hS (lv_sub hl [0, 1] rfl)
        · refine lv_ldc2 hx hb hown (hts _ q303) dX4_digest_38 ?_
          refine lv_lload_n hx hb dX4_digest_41 rfl (lv_at hl 1 rfl) ?_
          refine g_lmul hx hb dX4_digest_42 h (fun z123 h => ?_)
          refine lv_aload_n hx hb dX4_digest_43 rfl (lv_at hl 0 rfl) ?_
          refine va_get (D := (dC, dI)) (ci := 3) (v := .ref n0) (C := RX4) (T := TX4) (N := 4) hx hb hts iaX4 hown hK hP 0 rfl rfl 0 (by decide) (hts _ q152) (fun _ h9 => h9) rfl dX4_digest_44 ?_
          refine va_get (D := (dC, dI)) (ci := 2) (v := .ref n3) (C := RX3) (T := TX3) (N := 6) hx hb hts iaX3 hown hK hP 1 rfl rfl 2 (by decide) (hts _ q109) (fun _ h9 => h9) rfl dX4_digest_47 ?_
          refine lv_iload_n hx hb dX4_digest_50 rfl (lv_at hl 2 rfl) ?_
          refine g_iald hx hb hK hP 4 0 rfl rfl dX4_digest_51 h (fun z124 h => ?_)
          refine g_i2l hx hb dX4_digest_52 h (fun z125 h => ?_)
          refine g_ladd hx hb dX4_digest_53 h (fun z126 h => ?_)
          refine lv_lstore_n (lv' := [(1, .long z126), (0, .ref ob), (3, .int z122)]) hx hb dX4_digest_54 rfl hl (by decide) rfl (fun ls hl => ?_)
          refine g_iinc (dv := 1) hx hb dX4_digest_55 hl (j := 2) rfl (by decide) (by decide) h (fun z127 ls h hl => ?_)
          have hl : lv_has ls 5 [(3, .int z127), (1, .long z126), (0, .ref ob)] := hl
          refine lv_goto (tgt := 33) hx hb dX4_digest_58 (by decide) ?_
          exact ih33 z126 z127 _ _ _ h hP hS (lv_sub hl [2, 1, 0] rfl)
    exact L33 5000 z1 0 _ _ _ h hP hS (lv_sub hl [1, 2, 0] rfl)
  obtain ⟨S6, hS6⟩ : ∃ z, z = (fX4_digest_s6 K31 n_ones n_twos n_settings n_tick n_energy n_valuesPut s_count) := ⟨_, rfl⟩
  rw [← hS6] at h
  have L6 : ∀ (n : Nat) (z128 : Int64) (z129 : Int32) (H : Heap) (locs : List Loc) (ls : Array Slot), k_l2 S6 n z128 z129 = some (r, r_t_ones, r_t_twos, r_t_settings, r_t_tick, r_t_energy, r_t_valuesPut) → va_P (dC, dI) vwCl (wAll cyI cyC cyO ob n0 n1 n2 n3 t0 t1 t2 t3 s0 aR ro r1 r2 r3 x0 x1 x2 x3 x4 n_ones n_twos n_settings n_tick n_energy n_valuesPut t_ones t_twos t_settings t_tick t_energy t_valuesPut s_ring s_oldest s_count x_signs x_length x_position x_complete x_orders x_kinds x_numbers x_values) H → va_S (k_A (wAll cyI cyC cyO ob n0 n1 n2 n3 t0 t1 t2 t3 s0 aR ro r1 r2 r3 x0 x1 x2 x3 x4 n_ones n_twos n_settings n_tick n_energy n_valuesPut t_ones t_twos t_settings t_tick t_energy t_valuesPut s_ring s_oldest s_count x_signs x_length x_position x_complete x_orders x_kinds x_numbers x_values)) s.heap H locs → lv_has ls 5 [(0, .ref ob), (1, .long z128), (3, .int z129)] → W p l e (k_rm 6 137) s m [.ref ob].toArray below meth c H locs 0 0 (MQ below (qML r (dC, dI) (wAll cyI cyC cyO ob n0 n1 n2 n3 t0 t1 t2 t3 s0 aR ro r1 r2 r3 x0 x1 x2 x3 x4 n_ones n_twos n_settings n_tick n_energy n_valuesPut t_ones t_twos t_settings t_tick t_energy t_valuesPut s_ring s_oldest s_count x_signs x_length x_position x_complete x_orders x_kinds x_numbers x_values) (wAll cyI cyC cyO ob n0 n1 n2 n3 t0 t1 t2 t3 s0 aR ro r1 r2 r3 x0 x1 x2 x3 x4 n_ones n_twos n_settings n_tick n_energy n_valuesPut r_t_ones r_t_twos r_t_settings r_t_tick r_t_energy r_t_valuesPut s_ring s_oldest s_count x_signs x_length x_position x_complete x_orders x_kinds x_numbers x_values)) [.ref ob].toArray s 0 0 (k_A (wAll cyI cyC cyO ob n0 n1 n2 n3 t0 t1 t2 t3 s0 aR ro r1 r2 r3 x0 x1 x2 x3 x4 n_ones n_twos n_settings n_tick n_energy n_valuesPut t_ones t_twos t_settings t_tick t_energy t_valuesPut s_ring s_oldest s_count x_signs x_length x_position x_complete x_orders x_kinds x_numbers x_values))) (F0 m 6 ls []) := by
    intro n
    induction n with
    | zero =>
      intro z128 z129 H locs ls h
      exact (k_l2_0 h).elim
    | succ n ih6 =>
      intro z128 z129 H locs ls h hP hS hl
      have h := k_l2_s h
      have h := k_a3 hS6 h
      unfold fX4_digest_s6 at h
      refine lv_iload_n hx hb dX4_digest_6 rfl (lv_at hl 2 rfl) ?_
      refine lv_bipush (v := 13) hx hb dX4_digest_7 (by decide) ?_
      refine g_icmp_ge (tgt := 31) hx hb dX4_digest_9 (by decide) h (fun h => ?_) (fun h => ?_)
      · exact J31 z128 _ _ _ h hP hS (lv_sub hl [0, 1] rfl)
      · refine lv_ldc2 hx hb hown (hts _ q303) dX4_digest_12 ?_
        refine lv_lload_n hx hb dX4_digest_15 rfl (lv_at hl 1 rfl) ?_
        refine g_lmul hx hb dX4_digest_16 h (fun z130 h => ?_)
        refine lv_aload_n hx hb dX4_digest_17 rfl (lv_at hl 0 rfl) ?_
        refine lv_iload_n hx hb dX4_digest_18 rfl (lv_at hl 2 rfl) ?_
        obtain ⟨z131, hc19, h⟩ := k_b1_e h
        refine g_callRI_V (As := [.int z129]) (rest := [.long z130]) hC (mX4_countOf l dC dI cyI cyC cyO ob n0 n1 n2 n3 t0 t1 t2 t3 s0 aR ro r1 r2 r3 x0 x1 x2 x3 x4 n_ones n_twos n_settings n_tick n_energy n_valuesPut t_ones t_twos t_settings t_tick t_energy t_valuesPut s_ring s_oldest s_count x_signs x_length x_position x_complete x_orders x_kinds x_numbers x_values z129 hc19) q304 q305 q5 q71 q306 1 hdX4_countOf ⟨Nat.le_of_ble_eq_true rfl, Nat.le_of_ble_eq_true rfl⟩ ⟨Nat.le_of_ble_eq_true rfl, Nat.le_of_ble_eq_true rfl⟩ rfl rfl hl.1 (Nat.le_of_ble_eq_true rfl) hP hK (va_recv hK hP (ci := 3) (q0 := 0) rfl rfl) hS dX4_digest_19 (fun H locs hk hS => ?_)
        have hP := k_kept hP hk
        refine g_i2l hx hb dX4_digest_22 h (fun z132 h => ?_)
        refine g_ladd hx hb dX4_digest_23 h (fun z133 h => ?_)
        refine lv_lstore_n (lv' := [(1, .long z133), (0, .ref ob), (3, .int z129)]) hx hb dX4_digest_24 rfl hl (by decide) rfl (fun ls hl => ?_)
        refine g_iinc (dv := 1) hx hb dX4_digest_25 hl (j := 2) rfl (by decide) (by decide) h (fun z134 ls h hl => ?_)
        have hl : lv_has ls 5 [(3, .int z134), (1, .long z133), (0, .ref ob)] := hl
        refine lv_goto (tgt := 6) hx hb dX4_digest_28 (by decide) ?_
        exact ih6 z133 z134 _ _ _ h hP hS (lv_sub hl [2, 1, 0] rfl)
  exact L6 5000 2683 0 _ _ _ h hP hS (lv_sub hl [2, 1, 0] rfl)
