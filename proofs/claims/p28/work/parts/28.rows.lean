def fX4_sureShare_s6 (K68 : Int32 → Int32 → Option (UInt64)) (n_ones : Nat → Int32) (n_twos : Nat → Int32) (rec6 : Int32 → Int32 → Int32 → Option (UInt64)) (z6 : Int32) (z7 : Int32) (z8 : Int32) : Option (UInt64) :=
  k_if (20 ≤ z8)
  (
    K68 z6 z7)
  (
    k_ck z8 20 <| k_let (n_ones z8.toNatClampNeg) fun (z9 : Int32) =>
    k_ck z8 20 <| k_let (n_twos z8.toNatClampNeg) fun (z10 : Int32) =>
    k_let (z9 &&& z10) fun (z11 : Int32) =>
    k_b1 (fJ6_bitCount_0f7a4 z11) fun (z12 : Int32) =>
    k_let (z6 + z12) fun (z13 : Int32) =>
    k_ck z8 20 <| k_let (n_ones z8.toNatClampNeg) fun (z14 : Int32) =>
    k_ck z8 20 <| k_let (n_twos z8.toNatClampNeg) fun (z15 : Int32) =>
    k_let (z14 ||| z15) fun (z16 : Int32) =>
    k_b1 (fJ6_bitCount_0f7a4 z16) fun (z17 : Int32) =>
    k_let (z7 + z17) fun (z18 : Int32) =>
    k_let (z8 + 1) fun (z19 : Int32) =>
    rec6 z13 z18 z19)
def fX4_sureShare (n_ones : Nat → Int32) (n_twos : Nat → Int32) : Option (UInt64) :=
  k_j2
  (fun (z1 : Int32) (z2 : Int32) =>
    k_if (z2 = 0)
    (
      some FP.dconst1)
    (
      k_let (FP.i2d z1) fun (z3 : UInt64) =>
      k_let (FP.i2d z2) fun (z4 : UInt64) =>
      k_nn (FP.ddiv z3 z4) <| k_let (FP.ddiv z3 z4) fun (z5 : UInt64) =>
      some z5))
  (fun K68 =>
  k_l3 (fX4_sureShare_s6 K68 n_ones n_twos) 5000 0 0 0)
theorem hdX4_sureShare : yX4_sureShare.cls = RX4 ∧ yX4_sureShare.cls ≠ "java/lang/invoke/MethodHandle" ∧ yX4_sureShare.cls ≠ "java/lang/invoke/VarHandle" ∧ (parseMethodDescriptor yX4_sureShare.desc).map (fun d => d.parameters.length) = some 0 := by decide +kernel
set_option maxRecDepth 100000 in
set_option maxHeartbeats 4000000 in
theorem mX4_sureShare (l : Launch) (dC : Nat → ClassId) (dI : Nat → Nat → Nat) (cyI cyC cyO : ClassId) (ob : Nat) (n0 : Nat) (n1 : Nat) (n2 : Nat) (n3 : Nat) (t0 : Nat) (t1 : Nat) (t2 : Nat) (t3 : Nat) (s0 : Nat) (aR : Nat) (ro : Nat → Nat) (r1 : Nat → Nat) (r2 : Nat → Nat) (r3 : Nat → Nat) (x0 : Nat) (x1 : Nat) (x2 : Nat) (x3 : Nat) (x4 : Nat) (n_ones : Nat → Int32) (n_twos : Nat → Int32) (n_settings : Nat → Int32) (n_tick : Int32) (n_energy : Int32) (n_valuesPut : Int32) (t_ones : Nat → Int32) (t_twos : Nat → Int32) (t_settings : Nat → Int32) (t_tick : Int32) (t_energy : Int32) (t_valuesPut : Int32) (s_ring : Nat → SV) (s_oldest : Int32) (s_count : Int32) (x_signs : Nat → Int32) (x_length : Int32) (x_position : Int32) (x_complete : Int32) (x_orders : Int32) (x_kinds : Nat → Int32) (x_numbers : Nat → Int32) (x_values : Nat → Int32)  {r : UInt64} (hf : fX4_sureShare n_ones n_twos = some r) : MetRD l yX4_sureShare cX4_sureShare 4 (some .double) 1 20 [.ref ob] (dC, dI) (tyS cyI cyC cyO) (wAll cyI cyC cyO ob n0 n1 n2 n3 t0 t1 t2 t3 s0 aR ro r1 r2 r3 x0 x1 x2 x3 x4 n_ones n_twos n_settings n_tick n_energy n_valuesPut t_ones t_twos t_settings t_tick t_energy t_valuesPut s_ring s_oldest s_count x_signs x_length x_position x_complete x_orders x_kinds x_numbers x_values) r := by
  refine metRD_of (by decide) (Nat.le_of_ble_eq_true rfl) ?_
  intro p e s m below meth c ls hC hr hlk hP hK hl
  have hC : CallFix p m c cX4_sureShare 4 s [.ref ob].toArray wA RX4 := hC
  obtain ⟨hx, hb, hml, hown, hts⟩ := id hC
  have hS : va_S kF s.heap s.heap [] := va_S.rf
  have hl : lv_has ls 4 [(0, .ref ob)] := hl
  have h := hf
  unfold fX4_sureShare at h
  obtain ⟨H, hH⟩ : ∃ H, H = s.heap := ⟨_, rfl⟩
  obtain ⟨locs, hlo⟩ : ∃ locs : List Loc, locs = [] := ⟨_, rfl⟩
  rw [← hH] at hP
  rw [← hlo] at hS
  have hS : va_S kF s.heap H locs := by rw [hH]; exact hS
  show W p l e (k_rm 1 20) s m [.ref ob].toArray below meth c s.heap [] 0 0 _ _
  rw [← hlo, ← hH]
  refine lv_iconst (v := 0) hx hb dX4_sureShare_0 (by decide) ?_
  refine lv_istore_n (lv' := [(1, .int 0), (0, .ref ob)]) hx hb dX4_sureShare_1 rfl hl (by decide) rfl (fun ls hl => ?_)
  refine lv_iconst (v := 0) hx hb dX4_sureShare_2 (by decide) ?_
  refine lv_istore_n (lv' := [(2, .int 0), (1, .int 0), (0, .ref ob)]) hx hb dX4_sureShare_3 rfl hl (by decide) rfl (fun ls hl => ?_)
  refine lv_iconst (v := 0) hx hb dX4_sureShare_4 (by decide) ?_
  refine lv_istore_n (lv' := [(3, .int 0), (2, .int 0), (1, .int 0), (0, .ref ob)]) hx hb dX4_sureShare_5 rfl hl (by decide) rfl (fun ls hl => ?_)
  obtain ⟨K68, hK68, h⟩ := k_j2_e h
  have J68 : ∀ (z1 : Int32) (z2 : Int32) (H : Heap) (locs : List Loc) (ls : Array Slot), K68 z1 z2 = some r → va_P (dC, dI) vwCl (wAll cyI cyC cyO ob n0 n1 n2 n3 t0 t1 t2 t3 s0 aR ro r1 r2 r3 x0 x1 x2 x3 x4 n_ones n_twos n_settings n_tick n_energy n_valuesPut t_ones t_twos t_settings t_tick t_energy t_valuesPut s_ring s_oldest s_count x_signs x_length x_position x_complete x_orders x_kinds x_numbers x_values) H → va_S kF s.heap H locs → lv_has ls 4 [(1, .int z1), (2, .int z2)] → W p l e (k_rm 1 20) s m [.ref ob].toArray below meth c H locs 0 0 (MQ below (qRD r) [.ref ob].toArray s 0 0 kF) (F0 m 68 ls []) := by
    intro z1 z2 H locs ls h hP hS hl
    have h := k_a2 hK68 h
    refine lv_iload_n hx hb dX4_sureShare_68 rfl (lv_at hl 1 rfl) ?_
    refine g_if_ne (tgt := 74) hx hb dX4_sureShare_69 (by decide) h (fun h => ?_) (fun h => ?_)
    · refine lv_iload_n hx hb dX4_sureShare_74 rfl (lv_at hl 0 rfl) ?_
      refine g_i2d hx hb dX4_sureShare_75 h (fun z3 h => ?_)
      refine lv_iload_n hx hb dX4_sureShare_76 rfl (lv_at hl 1 rfl) ?_
      refine g_i2d hx hb dX4_sureShare_77 h (fun z4 h => ?_)
      refine g_ddiv hx hb dX4_sureShare_78 h (fun z5 h => ?_)
      exact g_retRD hx hb hr hlk hS h dX4_sureShare_79
    · refine lv_dconst1 hx hb dX4_sureShare_72 ?_
      exact g_retRD hx hb hr hlk hS h dX4_sureShare_73
  obtain ⟨S6, hS6⟩ : ∃ z, z = (fX4_sureShare_s6 K68 n_ones n_twos) := ⟨_, rfl⟩
  rw [← hS6] at h
  have L6 : ∀ (n : Nat) (z6 : Int32) (z7 : Int32) (z8 : Int32) (H : Heap) (locs : List Loc) (ls : Array Slot), k_l3 S6 n z6 z7 z8 = some r → va_P (dC, dI) vwCl (wAll cyI cyC cyO ob n0 n1 n2 n3 t0 t1 t2 t3 s0 aR ro r1 r2 r3 x0 x1 x2 x3 x4 n_ones n_twos n_settings n_tick n_energy n_valuesPut t_ones t_twos t_settings t_tick t_energy t_valuesPut s_ring s_oldest s_count x_signs x_length x_position x_complete x_orders x_kinds x_numbers x_values) H → va_S kF s.heap H locs → lv_has ls 4 [(0, .ref ob), (1, .int z6), (2, .int z7), (3, .int z8)] → W p l e (k_rm 1 20) s m [.ref ob].toArray below meth c H locs 0 0 (MQ below (qRD r) [.ref ob].toArray s 0 0 kF) (F0 m 6 ls []) := by
    intro n
    induction n with
    | zero =>
      intro z6 z7 z8 H locs ls h
      exact (k_l3_0 h).elim
    | succ n ih6 =>
      intro z6 z7 z8 H locs ls h hP hS hl
      have h := k_l3_s h
      have h := k_a4 hS6 h
      unfold fX4_sureShare_s6 at h
      refine lv_iload_n hx hb dX4_sureShare_6 rfl (lv_at hl 3 rfl) ?_
      refine lv_bipush (v := 20) hx hb dX4_sureShare_7 (by decide) ?_
      refine g_icmp_ge (tgt := 68) hx hb dX4_sureShare_9 (by decide) h (fun h => ?_) (fun h => ?_)
      · exact J68 z6 z7 _ _ _ h hP hS (lv_sub hl [1, 2] rfl)
      · refine lv_iload_n hx hb dX4_sureShare_12 rfl (lv_at hl 1 rfl) ?_
        refine lv_aload_n hx hb dX4_sureShare_13 rfl (lv_at hl 0 rfl) ?_
        refine va_get (D := (dC, dI)) (ci := 3) (v := .ref n0) (C := RX4) (T := TX4) (N := 4) hx hb hts iaX4 hown hK hP 0 rfl rfl 0 (by decide) (hts _ q72) (fun _ h9 => h9) rfl dX4_sureShare_14 ?_
        refine va_get (D := (dC, dI)) (ci := 2) (v := .ref n1) (C := RX3) (T := TX3) (N := 6) hx hb hts iaX3 hown hK hP 1 rfl rfl 0 (by decide) (hts _ q37) (fun _ h9 => h9) rfl dX4_sureShare_17 ?_
        refine lv_iload_n hx hb dX4_sureShare_20 rfl (lv_at hl 3 rfl) ?_
        refine g_iald hx hb hK hP 2 0 rfl rfl dX4_sureShare_21 h (fun z9 h => ?_)
        refine lv_aload_n hx hb dX4_sureShare_22 rfl (lv_at hl 0 rfl) ?_
        refine va_get (D := (dC, dI)) (ci := 3) (v := .ref n0) (C := RX4) (T := TX4) (N := 4) hx hb hts iaX4 hown hK hP 0 rfl rfl 0 (by decide) (hts _ q72) (fun _ h9 => h9) rfl dX4_sureShare_23 ?_
        refine va_get (D := (dC, dI)) (ci := 2) (v := .ref n2) (C := RX3) (T := TX3) (N := 6) hx hb hts iaX3 hown hK hP 1 rfl rfl 1 (by decide) (hts _ q39) (fun _ h9 => h9) rfl dX4_sureShare_26 ?_
        refine lv_iload_n hx hb dX4_sureShare_29 rfl (lv_at hl 3 rfl) ?_
        refine g_iald hx hb hK hP 3 0 rfl rfl dX4_sureShare_30 h (fun z10 h => ?_)
        refine g_iand hx hb dX4_sureShare_31 h (fun z11 h => ?_)
        obtain ⟨z12, hc32, h⟩ := k_b1_e h
        refine g_callRI_S (As := [.int z11]) (rest := [.int z6]) hC (mJ6_bitCount_0f7a4 l dC dI cyI cyC cyO z11 hc32) q381 q165 q12 q166 1 hdJ6_bitCount_0f7a4 ⟨Nat.le_of_ble_eq_true rfl, Nat.le_of_ble_eq_true rfl⟩ ⟨Nat.le_of_ble_eq_true rfl, Nat.le_of_ble_eq_true rfl⟩ rfl rfl hl.1 (Nat.le_of_ble_eq_true rfl) va_P_nil hK hS dX4_sureShare_32 (fun H locs hk hS => ?_)
        have hP := k_kept hP hk
        refine g_iadd hx hb dX4_sureShare_35 h (fun z13 h => ?_)
        refine lv_istore_n (lv' := [(1, .int z13), (0, .ref ob), (2, .int z7), (3, .int z8)]) hx hb dX4_sureShare_36 rfl hl (by decide) rfl (fun ls hl => ?_)
        refine lv_iload_n hx hb dX4_sureShare_37 rfl (lv_at hl 2 rfl) ?_
        refine lv_aload_n hx hb dX4_sureShare_38 rfl (lv_at hl 1 rfl) ?_
        refine va_get (D := (dC, dI)) (ci := 3) (v := .ref n0) (C := RX4) (T := TX4) (N := 4) hx hb hts iaX4 hown hK hP 0 rfl rfl 0 (by decide) (hts _ q72) (fun _ h9 => h9) rfl dX4_sureShare_39 ?_
        refine va_get (D := (dC, dI)) (ci := 2) (v := .ref n1) (C := RX3) (T := TX3) (N := 6) hx hb hts iaX3 hown hK hP 1 rfl rfl 0 (by decide) (hts _ q37) (fun _ h9 => h9) rfl dX4_sureShare_42 ?_
        refine lv_iload_n hx hb dX4_sureShare_45 rfl (lv_at hl 3 rfl) ?_
        refine g_iald hx hb hK hP 2 0 rfl rfl dX4_sureShare_46 h (fun z14 h => ?_)
        refine lv_aload_n hx hb dX4_sureShare_47 rfl (lv_at hl 1 rfl) ?_
        refine va_get (D := (dC, dI)) (ci := 3) (v := .ref n0) (C := RX4) (T := TX4) (N := 4) hx hb hts iaX4 hown hK hP 0 rfl rfl 0 (by decide) (hts _ q72) (fun _ h9 => h9) rfl dX4_sureShare_48 ?_
        refine va_get (D := (dC, dI)) (ci := 2) (v := .ref n2) (C := RX3) (T := TX3) (N := 6) hx hb hts iaX3 hown hK hP 1 rfl rfl 1 (by decide) (hts _ q39) (fun _ h9 => h9) rfl dX4_sureShare_51 ?_
        refine lv_iload_n hx hb dX4_sureShare_54 rfl (lv_at hl 3 rfl) ?_
        refine g_iald hx hb hK hP 3 0 rfl rfl dX4_sureShare_55 h (fun z15 h => ?_)
        refine g_ior hx hb dX4_sureShare_56 h (fun z16 h => ?_)
        obtain ⟨z17, hc57, h⟩ := k_b1_e h
        refine g_callRI_S (As := [.int z16]) (rest := [.int z7]) hC (mJ6_bitCount_0f7a4 l dC dI cyI cyC cyO z16 hc57) q381 q165 q12 q166 1 hdJ6_bitCount_0f7a4 ⟨Nat.le_of_ble_eq_true rfl, Nat.le_of_ble_eq_true rfl⟩ ⟨Nat.le_of_ble_eq_true rfl, Nat.le_of_ble_eq_true rfl⟩ rfl rfl hl.1 (Nat.le_of_ble_eq_true rfl) va_P_nil hK hS dX4_sureShare_57 (fun H locs hk hS => ?_)
        have hP := k_kept hP hk
        refine g_iadd hx hb dX4_sureShare_60 h (fun z18 h => ?_)
        refine lv_istore_n (lv' := [(2, .int z18), (1, .int z13), (0, .ref ob), (3, .int z8)]) hx hb dX4_sureShare_61 rfl hl (by decide) rfl (fun ls hl => ?_)
        refine g_iinc (dv := 1) hx hb dX4_sureShare_62 hl (j := 3) rfl (by decide) (by decide) h (fun z19 ls h hl => ?_)
        have hl : lv_has ls 4 [(3, .int z19), (2, .int z18), (1, .int z13), (0, .ref ob)] := hl
        refine lv_goto (tgt := 6) hx hb dX4_sureShare_65 (by decide) ?_
        exact ih6 z13 z18 z19 _ _ _ h hP hS (lv_sub hl [3, 2, 1, 0] rfl)
  exact L6 5000 0 0 0 _ _ _ h hP hS (lv_sub hl [3, 2, 1, 0] rfl)
