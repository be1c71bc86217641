def fX4_row (n_ones : Nat → Int32) (n_twos : Nat → Int32) (n_settings : Nat → Int32) (n_tick : Int32) (p1 : Int32) (p2 : Int32) : Option (Nat × Int32) :=
  k_b1 (fX4_isIndex p1 20) fun (z1 : Int32) =>
  k_if (z1 = 0) (some (1, 0)) <|
  k_b1 (fX4_isIndex p2 9) fun (z2 : Int32) =>
  k_if (z2 = 0) (some (2, 0)) <|
  k_b1 (fX4_rowProperty n_ones n_twos n_settings n_tick p1 p2) fun (z3 : Int32) =>
  some (0, z3)
theorem hdX4_row : yX4_row.cls = RX4 ∧ yX4_row.cls ≠ "java/lang/invoke/MethodHandle" ∧ yX4_row.cls ≠ "java/lang/invoke/VarHandle" ∧ (parseMethodDescriptor yX4_row.desc).map (fun d => d.parameters.length) = some 2 := by decide +kernel
set_option maxRecDepth 100000 in
set_option maxHeartbeats 4000000 in
theorem mX4_row (l : Launch) (dC : Nat → ClassId) (dI : Nat → Nat → Nat) (cyI cyC cyO : ClassId) (hl9 : l.stackTraces = false) (ad : Nat → Nat) (ob : Nat) (n0 : Nat) (n1 : Nat) (n2 : Nat) (n3 : Nat) (t0 : Nat) (t1 : Nat) (t2 : Nat) (t3 : Nat) (s0 : Nat) (aR : Nat) (ro : Nat → Nat) (r1 : Nat → Nat) (r2 : Nat → Nat) (r3 : Nat → Nat) (x0 : Nat) (x1 : Nat) (x2 : Nat) (x3 : Nat) (x4 : Nat) (n_ones : Nat → Int32) (n_twos : Nat → Int32) (n_settings : Nat → Int32) (n_tick : Int32) (n_energy : Int32) (n_valuesPut : Int32) (t_ones : Nat → Int32) (t_twos : Nat → Int32) (t_settings : Nat → Int32) (t_tick : Int32) (t_energy : Int32) (t_valuesPut : Int32) (s_ring : Nat → SV) (s_oldest : Int32) (s_count : Int32) (x_signs : Nat → Int32) (x_length : Int32) (x_position : Int32) (x_complete : Int32) (x_orders : Int32) (x_kinds : Nat → Int32) (x_numbers : Nat → Int32) (x_values : Nat → Int32) (p1 : Int32) (p2 : Int32) {k : Nat} {r : Int32} (hf : fX4_row n_ones n_twos n_settings n_tick p1 p2 = some (k, r)) : MetT l yX4_row cX4_row 3 (some .int) 7 102 2 12 [.ref ob, .int p1, .int p2] (dC, dI) (tyS cyI cyC cyO) (wAll cyI cyC cyO ob n0 n1 n2 n3 t0 t1 t2 t3 s0 aR ro r1 r2 r3 x0 x1 x2 x3 x4 n_ones n_twos n_settings n_tick n_energy n_valuesPut t_ones t_twos t_settings t_tick t_energy t_valuesPut s_ring s_oldest s_count x_signs x_length x_position x_complete x_orders x_kinds x_numbers x_values) (wAll cyI cyC cyO ob n0 n1 n2 n3 t0 t1 t2 t3 s0 aR ro r1 r2 r3 x0 x1 x2 x3 x4 n_ones n_twos n_settings n_tick n_energy n_valuesPut t_ones t_twos t_settings t_tick t_energy t_valuesPut s_ring s_oldest s_count x_signs x_length x_position x_complete x_orders x_kinds x_numbers x_values) ad k r := by
  refine metT_of (by decide) (Nat.le_of_ble_eq_true rfl) ?_
  intro p e s m below meth c ls hC hr hlk hex hP hK hD hE hl
  have hC : CallFix p m c cX4_row 3 s [.ref ob, .int p1, .int p2].toArray wA RX4 := hC
  obtain ⟨hx, hb, hml, hown, hts⟩ := id hC
  have hS : va_S (k_A (wAll cyI cyC cyO ob n0 n1 n2 n3 t0 t1 t2 t3 s0 aR ro r1 r2 r3 x0 x1 x2 x3 x4 n_ones n_twos n_settings n_tick n_energy n_valuesPut t_ones t_twos t_settings t_tick t_energy t_valuesPut s_ring s_oldest s_count x_signs x_length x_position x_complete x_orders x_kinds x_numbers x_values)) s.heap s.heap [] := va_S.rf
  have hl : lv_has ls 3 [(0, .ref ob), (1, .int p1), (2, .int p2)] := hl
  have h := hf
  unfold fX4_row at h
  obtain ⟨H, hH⟩ : ∃ H, H = s.heap := ⟨_, rfl⟩
  obtain ⟨locs, hlo⟩ : ∃ locs : List Loc, locs = [] := ⟨_, rfl⟩
  rw [← hH] at hP
  rw [← hlo] at hS
  have hS : va_S (k_A (wAll cyI cyC cyO ob n0 n1 n2 n3 t0 t1 t2 t3 s0 aR ro r1 r2 r3 x0 x1 x2 x3 x4 n_ones n_twos n_settings n_tick n_energy n_valuesPut t_ones t_twos t_settings t_tick t_energy t_valuesPut s_ring s_oldest s_count x_signs x_length x_position x_complete x_orders x_kinds x_numbers x_values)) s.heap H locs := by rw [hH]; exact hS
  show W p l e (k_rmx 7 102 2 12) s m [.ref ob, .int p1, .int p2].toArray below meth c s.heap [] 0 0 _ _
  rw [← hlo, ← hH]
  refine lv_iload_n hx hb dX4_row_0 rfl (lv_at hl 1 rfl) ?_
  refine lv_bipush (v := 20) hx hb dX4_row_1 (by decide) ?_
  obtain ⟨z1, hc3, h⟩ := k_b1_e h
  refine g_callRI_S (As := [.int p1, .int 20]) (rest := []) hC (mX4_isIndex l dC dI cyI cyC cyO p1 20 hc3) q469 q470 q71 q471 2 hdX4_isIndex ⟨Nat.le_of_ble_eq_true rfl, Nat.le_of_ble_eq_true rfl⟩ ⟨Nat.le_of_ble_eq_true rfl, Nat.le_of_ble_eq_true rfl⟩ rfl rfl hl.1 (Nat.le_of_ble_eq_true rfl) va_P_nil hK hS dX4_row_3 (fun H locs hk hS => ?_)
  have hP := k_kept hP hk
  refine g_req hC hlk hex (mX4_requireIndex l hl9 ad z1) q472 q473 q71 q474 hdX4_requireIndex ⟨Nat.le_of_ble_eq_true rfl, Nat.le_of_ble_eq_true rfl⟩ ⟨Nat.le_of_ble_eq_true rfl, Nat.le_of_ble_eq_true rfl⟩ ⟨Nat.le_of_ble_eq_true rfl, Nat.le_of_ble_eq_true rfl⟩ hl.1 (Nat.le_of_ble_eq_true rfl) hS hE hP dX4_row_6 h (fun h => (k_t2 h).1) (fun H locs h hk hS => ?_) (fun _ => hP)
  have hP := k_kept hP hk
  refine lv_iload_n hx hb dX4_row_9 rfl (lv_at hl 2 rfl) ?_
  refine lv_bipush (v := 9) hx hb dX4_row_10 (by decide) ?_
  obtain ⟨z2, hc12, h⟩ := k_b1_e h
  refine g_callRI_S (As := [.int p2, .int 9]) (rest := []) hC (mX4_isIndex l dC dI cyI cyC cyO p2 9 hc12) q469 q470 q71 q471 2 hdX4_isIndex ⟨Nat.le_of_ble_eq_true rfl, Nat.le_of_ble_eq_true rfl⟩ ⟨Nat.le_of_ble_eq_true rfl, Nat.le_of_ble_eq_true rfl⟩ rfl rfl hl.1 (Nat.le_of_ble_eq_true rfl) va_P_nil hK hS dX4_row_12 (fun H locs hk hS => ?_)
  have hP := k_kept hP hk
  refine g_req hC hlk hex (mX4_requireArgument l hl9 ad z2) q513 q514 q71 q515 hdX4_requireArgument ⟨Nat.le_of_ble_eq_true rfl, Nat.le_of_ble_eq_true rfl⟩ ⟨Nat.le_of_ble_eq_true rfl, Nat.le_of_ble_eq_true rfl⟩ ⟨Nat.le_of_ble_eq_true rfl, Nat.le_of_ble_eq_true rfl⟩ hl.1 (Nat.le_of_ble_eq_true rfl) hS hE hP dX4_row_15 h (fun h => (k_t2 h).1) (fun H locs h hk hS => ?_) (fun _ => hP)
  have hP := k_kept hP hk
  refine lv_aload_n hx hb dX4_row_18 rfl (lv_at hl 0 rfl) ?_
  refine lv_iload_n hx hb dX4_row_19 rfl (lv_at hl 1 rfl) ?_
  refine lv_iload_n hx hb dX4_row_20 rfl (lv_at hl 2 rfl) ?_
  obtain ⟨z3, hc21, h⟩ := k_b1_e h
  refine g_callRI_V (As := [.int p1, .int p2]) (rest := []) hC (mX4_rowProperty l dC dI cyI cyC cyO ob n0 n1 n2 n3 t0 t1 t2 t3 s0 aR ro r1 r2 r3 x0 x1 x2 x3 x4 n_ones n_twos n_settings n_tick n_energy n_valuesPut t_ones t_twos t_settings t_tick t_energy t_valuesPut s_ring s_oldest s_count x_signs x_length x_position x_complete x_orders x_kinds x_numbers x_values p1 p2 hc21) q337 q338 q6 q71 q339 2 hdX4_rowProperty ⟨Nat.le_of_ble_eq_true rfl, Nat.le_of_ble_eq_true rfl⟩ ⟨Nat.le_of_ble_eq_true rfl, Nat.le_of_ble_eq_true rfl⟩ rfl rfl hl.1 (Nat.le_of_ble_eq_true rfl) hP hK (va_recv hK hP (ci := 3) (q0 := 0) rfl rfl) hS dX4_row_21 (fun H locs hk hS => ?_)
  have hP := k_kept hP hk
  obtain ⟨e0, e1⟩ := k_t2 h
  exact g_retT hx hb hr hlk (Nat.le_of_ble_eq_true rfl) (Nat.le_of_ble_eq_true rfl) hS e0 e1 hP dX4_row_24
def fX4_keyProperty (n_ones : Nat → Int32) (n_twos : Nat → Int32) (n_settings : Nat → Int32) (n_tick : Int32) (p1 : Int32) (p2 : Int32) : Option (Int32) :=
  k_if (p2 = 0)
  (
    k_b1 (fX3_valueOfKey n_ones n_twos n_settings n_tick p1) fun (z1 : Int32) =>
    some z1)
  (
    k_if (p2 = 1)
    (
      k_b1 (fX3_readsThrice n_settings) fun (z2 : Int32) =>
      k_b1 (fX3_entryRow n_ones n_twos p1 n_tick z2) fun (z3 : Int32) =>
      some z3)
    (
      k_if (p2 = 2)
      (
        k_b1 (fX3_entriesOf n_ones n_twos n_settings n_tick p1) fun (z4 : Int32) =>
        some z4)
      (
        k_if (p2 = 3)
        (
          k_b1 (fX3_rowsOf n_ones n_twos n_settings n_tick p1) fun (z5 : Int32) =>
          some z5)
        (
          k_if (p2 = 4)
          (
            k_b1 (fX3_greatestValue n_ones n_twos n_settings n_tick p1) fun (z6 : Int32) =>
            some z6)
          (
            k_b1 (fX3_steadyReadings n_ones n_twos n_tick p1) fun (z7 : Int32) =>
            some z7)))))
theorem hdX4_keyProperty : yX4_keyProperty.cls = RX4 ∧ yX4_keyProperty.cls ≠ "java/lang/invoke/MethodHandle" ∧ yX4_keyProperty.cls ≠ "java/lang/invoke/VarHandle" ∧ (parseMethodDescriptor yX4_keyProperty.desc).map (fun d => d.parameters.length) = some 2 := by decide +kernel
set_option maxRecDepth 100000 in
set_option maxHeartbeats 4000000 in
theorem mX4_keyProperty (l : Launch) (dC : Nat → ClassId) (dI : Nat → Nat → Nat) (cyI cyC cyO : ClassId) (ob : Nat) (n0 : Nat) (n1 : Nat) (n2 : Nat) (n3 : Nat) (t0 : Nat) (t1 : Nat) (t2 : Nat) (t3 : Nat) (s0 : Nat) (aR : Nat) (ro : Nat → Nat) (r1 : Nat → Nat) (r2 : Nat → Nat) (r3 : Nat → Nat) (x0 : Nat) (x1 : Nat) (x2 : Nat) (x3 : Nat) (x4 : Nat) (n_ones : Nat → Int32) (n_twos : Nat → Int32) (n_settings : Nat → Int32) (n_tick : Int32) (n_energy : Int32) (n_valuesPut : Int32) (t_ones : Nat → Int32) (t_twos : Nat → Int32) (t_settings : Nat → Int32) (t_tick : Int32) (t_energy : Int32) (t_valuesPut : Int32) (s_ring : Nat → SV) (s_oldest : Int32) (s_count : Int32) (x_signs : Nat → Int32) (x_length : Int32) (x_position : Int32) (x_complete : Int32) (x_orders : Int32) (x_kinds : Nat → Int32) (x_numbers : Nat → Int32) (x_values : Nat → Int32) (p1 : Int32) (p2 : Int32) {r : Int32} (hf : fX4_keyProperty n_ones n_twos n_settings n_tick p1 p2 = some r) : MetRI l yX4_keyProperty cX4_keyProperty 3 (some .int) 5 114 [.ref ob, .int p1, .int p2] (dC, dI) (tyS cyI cyC cyO) (wAll cyI cyC cyO ob n0 n1 n2 n3 t0 t1 t2 t3 s0 aR ro r1 r2 r3 x0 x1 x2 x3 x4 n_ones n_twos n_settings n_tick n_energy n_valuesPut t_ones t_twos t_settings t_tick t_energy t_valuesPut s_ring s_oldest s_count x_signs x_length x_position x_complete x_orders x_kinds x_numbers x_values) r := by
  refine metRI_of (by decide) (Nat.le_of_ble_eq_true rfl) ?_
  intro p e s m below meth c ls hC hr hlk hP hK hl
  have hC : CallFix p m c cX4_keyProperty 3 s [.ref ob, .int p1, .int p2].toArray wA RX4 := hC
  obtain ⟨hx, hb, hml, hown, hts⟩ := id hC
  have hS : va_S kF s.heap s.heap [] := va_S.rf
  have hl : lv_has ls 3 [(0, .ref ob), (1, .int p1), (2, .int p2)] := hl
  have h := hf
  unfold fX4_keyProperty at h
  obtain ⟨H, hH⟩ : ∃ H, H = s.heap := ⟨_, rfl⟩
  obtain ⟨locs, hlo⟩ : ∃ locs : List Loc, locs = [] := ⟨_, rfl⟩
  rw [← hH] at hP
  rw [← hlo] at hS
  have hS : va_S kF s.heap H locs := by rw [hH]; exact hS
  show W p l e (k_rm 5 114) s m [.ref ob, .int p1, .int p2].toArray below meth c s.heap [] 0 0 _ _
  rw [← hlo, ← hH]
  refine lv_iload_n hx hb dX4_keyProperty_0 rfl (lv_at hl 2 rfl) ?_
  refine g_arm (v := 0) (off := 35) (tgt := 36) hx hb dX4_keyProperty_1 (by decide) (by decide) (by decide +kernel) (by decide) h (fun _ h => ?_) (fun nq0 h => ?_)
  · refine lv_aload_n hx hb dX4_keyProperty_36 rfl (lv_at hl 0 rfl) ?_
    refine va_get (D := (dC, dI)) (ci := 3) (v := .ref n0) (C := RX4) (T := TX4) (N := 4) hx hb hts iaX4 hown hK hP 0 rfl rfl 0 (by decide) (hts _ q152) (fun _ h9 => h9) rfl dX4_keyProperty_37 ?_
    refine lv_iload_n hx hb dX4_keyProperty_40 rfl (lv_at hl 1 rfl) ?_
    obtain ⟨z1, hc41, h⟩ := k_b1_e h
    refine g_callRI_V (As := [.int p1]) (rest := []) hC (mX3_valueOfKey l dC dI cyI cyC cyO n0 n1 n2 n3 n_ones n_twos n_settings n_tick n_energy n_valuesPut p1 hc41) q361 q362 q363 q72 q364 1 hdX3_valueOfKey ⟨Nat.le_of_ble_eq_true rfl, Nat.le_of_ble_eq_true rfl⟩ ⟨Nat.le_of_ble_eq_true rfl, Nat.le_of_ble_eq_true rfl⟩ rfl rfl hl.1 (Nat.le_of_ble_eq_true rfl) (hP.sub (ws' := (wX3 cyI cyC n0 n1 n2 n3 n_ones n_twos n_settings n_tick n_energy n_valuesPut)) [1, 2, 3, 4] rfl) hK (va_recv hK hP (ci := 2) (q0 := 1) rfl rfl) hS dX4_keyProperty_41 (fun H locs hk hS => ?_)
    have hP := k_kept hP hk
    exact g_retRI hx hb hr hlk hS h dX4_keyProperty_44
  · skip
    refine g_arm (v := 1) (off := 44) (tgt := 45) hx hb dX4_keyProperty_1 (by decide) (by decide) (by decide +kernel) (by decide) h (fun _ h => ?_) (fun nq1 h => ?_)
    · refine lv_aload_n hx hb dX4_keyProperty_45 rfl (lv_at hl 0 rfl) ?_
      refine va_get (D := (dC, dI)) (ci := 3) (v := .ref n0) (C := RX4) (T := TX4) (N := 4) hx hb hts iaX4 hown hK hP 0 rfl rfl 0 (by decide) (hts _ q152) (fun _ h9 => h9) rfl dX4_keyProperty_46 ?_
      refine lv_iload_n hx hb dX4_keyProperty_49 rfl (lv_at hl 1 rfl) ?_
      refine lv_aload_n hx hb dX4_keyProperty_50 rfl (lv_at hl 0 rfl) ?_
      refine va_get (D := (dC, dI)) (ci := 3) (v := .ref n0) (C := RX4) (T := TX4) (N := 4) hx hb hts iaX4 hown hK hP 0 rfl rfl 0 (by decide) (hts _ q152) (fun _ h9 => h9) rfl dX4_keyProperty_51 ?_
      refine va_get (D := (dC, dI)) (ci := 2) (v := .int n_tick) (C := RX3) (T := TX3) (N := 6) hx hb hts iaX3 hown hK hP 1 rfl rfl 3 (by decide) (hts _ q111) (fun _ h9 => h9) rfl dX4_keyProperty_54 ?_
      refine lv_aload_n hx hb dX4_keyProperty_57 rfl (lv_at hl 0 rfl) ?_
      refine va_get (D := (dC, dI)) (ci := 3) (v := .ref n0) (C := RX4) (T := TX4) (N := 4) hx hb hts iaX4 hown hK hP 0 rfl rfl 0 (by decide) (hts _ q152) (fun _ h9 => h9) rfl dX4_keyProperty_58 ?_
      obtain ⟨z2, hc61, h⟩ := k_b1_e h
      refine g_callRI_V (As := []) (rest := [.int n_tick, .int p1, .ref n0]) hC (mX3_readsThrice l dC dI cyI cyC cyO n0 n1 n2 n3 n_ones n_twos n_settings n_tick n_energy n_valuesPut hc61) q370 q283 q284 q72 q285 0 hdX3_readsThrice ⟨Nat.le_of_ble_eq_true rfl, Nat.le_of_ble_eq_true rfl⟩ ⟨Nat.le_of_ble_eq_true rfl, Nat.le_of_ble_eq_true rfl⟩ rfl rfl hl.1 (Nat.le_of_ble_eq_true rfl) (hP.sub (ws' := (wX3 cyI cyC n0 n1 n2 n3 n_ones n_twos n_settings n_tick n_energy n_valuesPut)) [1, 2, 3, 4] rfl) hK (va_recv hK hP (ci := 2) (q0 := 1) rfl rfl) hS dX4_keyProperty_61 (fun H locs hk hS => ?_)
      have hP := k_kept hP hk
      obtain ⟨z3, hc64, h⟩ := k_b1_e h
      refine g_callRI_V (As := [.int p1, .int n_tick, .int z2]) (rest := []) hC (mX3_entryRow l dC dI cyI cyC cyO n0 n1 n2 n3 n_ones n_twos n_settings n_tick n_energy n_valuesPut p1 n_tick z2 hc64) q371 q322 q323 q72 q324 3 hdX3_entryRow ⟨Nat.le_of_ble_eq_true rfl, Nat.le_of_ble_eq_true rfl⟩ ⟨Nat.le_of_ble_eq_true rfl, Nat.le_of_ble_eq_true rfl⟩ rfl rfl hl.1 (Nat.le_of_ble_eq_true rfl) (hP.sub (ws' := (wX3 cyI cyC n0 n1 n2 n3 n_ones n_twos n_settings n_tick n_energy n_valuesPut)) [1, 2, 3, 4] rfl) hK (va_recv hK hP (ci := 2) (q0 := 1) rfl rfl) hS dX4_keyProperty_64 (fun H locs hk hS => ?_)
      have hP := k_kept hP hk
      exact g_retRI hx hb hr hlk hS h dX4_keyProperty_67
    · skip
      refine g_arm (v := 2) (off := 67) (tgt := 68) hx hb dX4_keyProperty_1 (by decide) (by decide) (by decide +kernel) (by decide) h (fun _ h => ?_) (fun nq2 h => ?_)
      · refine lv_aload_n hx hb dX4_keyProperty_68 rfl (lv_at hl 0 rfl) ?_
        refine va_get (D := (dC, dI)) (ci := 3) (v := .ref n0) (C := RX4) (T := TX4) (N := 4) hx hb hts iaX4 hown hK hP 0 rfl rfl 0 (by decide) (hts _ q152) (fun _ h9 => h9) rfl dX4_keyProperty_69 ?_
        refine lv_iload_n hx hb dX4_keyProperty_72 rfl (lv_at hl 1 rfl) ?_
        obtain ⟨z4, hc73, h⟩ := k_b1_e h
        refine g_callRI_V (As := [.int p1]) (rest := []) hC (mX3_entriesOf l dC dI cyI cyC cyO n0 n1 n2 n3 n_ones n_twos n_settings n_tick n_energy n_valuesPut p1 hc73) q372 q373 q374 q72 q375 1 hdX3_entriesOf ⟨Nat.le_of_ble_eq_true rfl, Nat.le_of_ble_eq_true rfl⟩ ⟨Nat.le_of_ble_eq_true rfl, Nat.le_of_ble_eq_true rfl⟩ rfl rfl hl.1 (Nat.le_of_ble_eq_true rfl) (hP.sub (ws' := (wX3 cyI cyC n0 n1 n2 n3 n_ones n_twos n_settings n_tick n_energy n_valuesPut)) [1, 2, 3, 4] rfl) hK (va_recv hK hP (ci := 2) (q0 := 1) rfl rfl) hS dX4_keyProperty_73 (fun H locs hk hS => ?_)
        have hP := k_kept hP hk
        exact g_retRI hx hb hr hlk hS h dX4_keyProperty_76
      · skip
        refine g_arm (v := 3) (off := 76) (tgt := 77) hx hb dX4_keyProperty_1 (by decide) (by decide) (by decide +kernel) (by decide) h (fun _ h => ?_) (fun nq3 h => ?_)
        · refine lv_aload_n hx hb dX4_keyProperty_77 rfl (lv_at hl 0 rfl) ?_
          refine va_get (D := (dC, dI)) (ci := 3) (v := .ref n0) (C := RX4) (T := TX4) (N := 4) hx hb hts iaX4 hown hK hP 0 rfl rfl 0 (by decide) (hts _ q152) (fun _ h9 => h9) rfl dX4_keyProperty_78 ?_
          refine lv_iload_n hx hb dX4_keyProperty_81 rfl (lv_at hl 1 rfl) ?_
          obtain ⟨z5, hc82, h⟩ := k_b1_e h
          refine g_callRI_V (As := [.int p1]) (rest := []) hC (mX3_rowsOf l dC dI cyI cyC cyO n0 n1 n2 n3 n_ones n_twos n_settings n_tick n_energy n_valuesPut p1 hc82) q376 q377 q378 q72 q379 1 hdX3_rowsOf ⟨Nat.le_of_ble_eq_true rfl, Nat.le_of_ble_eq_true rfl⟩ ⟨Nat.le_of_ble_eq_true rfl, Nat.le_of_ble_eq_true rfl⟩ rfl rfl hl.1 (Nat.le_of_ble_eq_true rfl) (hP.sub (ws' := (wX3 cyI cyC n0 n1 n2 n3 n_ones n_twos n_settings n_tick n_energy n_valuesPut)) [1, 2, 3, 4] rfl) hK (va_recv hK hP (ci := 2) (q0 := 1) rfl rfl) hS dX4_keyProperty_82 (fun H locs hk hS => ?_)
          have hP := k_kept hP hk
          exact g_retRI hx hb hr hlk hS h dX4_keyProperty_85
        · skip
          refine g_arm (v := 4) (off := 85) (tgt := 86) hx hb dX4_keyProperty_1 (by decide) (by decide) (by decide +kernel) (by decide) h (fun _ h => ?_) (fun nq4 h => ?_)
          · refine lv_aload_n hx hb dX4_keyProperty_86 rfl (lv_at hl 0 rfl) ?_
            refine va_get (D := (dC, dI)) (ci := 3) (v := .ref n0) (C := RX4) (T := TX4) (N := 4) hx hb hts iaX4 hown hK hP 0 rfl rfl 0 (by decide) (hts _ q152) (fun _ h9 => h9) rfl dX4_keyProperty_87 ?_
            refine lv_iload_n hx hb dX4_keyProperty_90 rfl (lv_at hl 1 rfl) ?_
            obtain ⟨z6, hc91, h⟩ := k_b1_e h
            refine g_callRI_V (As := [.int p1]) (rest := []) hC (mX3_greatestValue l dC dI cyI cyC cyO n0 n1 n2 n3 n_ones n_twos n_settings n_tick n_energy n_valuesPut p1 hc91) q384 q385 q386 q72 q387 1 hdX3_greatestValue ⟨Nat.le_of_ble_eq_true rfl, Nat.le_of_ble_eq_true rfl⟩ ⟨Nat.le_of_ble_eq_true rfl, Nat.le_of_ble_eq_true rfl⟩ rfl rfl hl.1 (Nat.le_of_ble_eq_true rfl) (hP.sub (ws' := (wX3 cyI cyC n0 n1 n2 n3 n_ones n_twos n_settings n_tick n_energy n_valuesPut)) [1, 2, 3, 4] rfl) hK (va_recv hK hP (ci := 2) (q0 := 1) rfl rfl) hS dX4_keyProperty_91 (fun H locs hk hS => ?_)
            have hP := k_kept hP hk
            exact g_retRI hx hb hr hlk hS h dX4_keyProperty_94
          · skip
            refine lv_tableOut (tgt := 95) hx hb dX4_keyProperty_1 (by have zq0 := g_ne (z := 0) (by decide) nq0; have zq1 := g_ne (z := 1) (by decide) nq1; have zq2 := g_ne (z := 2) (by decide) nq2; have zq3 := g_ne (z := 3) (by decide) nq3; have zq4 := g_ne (z := 4) (by decide) nq4; omega) (by decide) ?_
            refine lv_aload_n hx hb dX4_keyProperty_95 rfl (lv_at hl 0 rfl) ?_
            refine va_get (D := (dC, dI)) (ci := 3) (v := .ref n0) (C := RX4) (T := TX4) (N := 4) hx hb hts iaX4 hown hK hP 0 rfl rfl 0 (by decide) (hts _ q152) (fun _ h9 => h9) rfl dX4_keyProperty_96 ?_
            refine lv_iload_n hx hb dX4_keyProperty_99 rfl (lv_at hl 1 rfl) ?_
            obtain ⟨z7, hc100, h⟩ := k_b1_e h
            refine g_callRI_V (As := [.int p1]) (rest := []) hC (mX3_steadyReadings l dC dI cyI cyC cyO n0 n1 n2 n3 n_ones n_twos n_settings n_tick n_energy n_valuesPut p1 hc100) q389 q390 q391 q72 q392 1 hdX3_steadyReadings ⟨Nat.le_of_ble_eq_true rfl, Nat.le_of_ble_eq_true rfl⟩ ⟨Nat.le_of_ble_eq_true rfl, Nat.le_of_ble_eq_true rfl⟩ rfl rfl hl.1 (Nat.le_of_ble_eq_true rfl) (hP.sub (ws' := (wX3 cyI cyC n0 n1 n2 n3 n_ones n_twos n_settings n_tick n_energy n_valuesPut)) [1, 2, 3, 4] rfl) hK (va_recv hK hP (ci := 2) (q0 := 1) rfl rfl) hS dX4_keyProperty_100 (fun H locs hk hS => ?_)
            have hP := k_kept hP hk
            exact g_retRI hx hb hr hlk hS h dX4_keyProperty_103
def fX4_key (n_ones : Nat → Int32) (n_twos : Nat → Int32) (n_settings : Nat → Int32) (n_tick : Int32) (p1 : Int32) (p2 : Int32) : Option (Nat × Int32) :=
  k_b1 (fX4_isIndex p1 16) fun (z1 : Int32) =>
  k_j1
  (fun (z2 : Int32) =>
    k_if (z2 = 0) (some (2, 0)) <|
    k_b1 (fX4_keyProperty n_ones n_twos n_settings n_tick p1 p2) fun (z3 : Int32) =>
    some (0, z3))
  (fun K23 =>
  k_if (z1 = 0)
  (
    K23 0)
  (
    k_b1 (fX4_isIndex p2 6) fun (z4 : Int32) =>
    k_if (z4 = 0)
    (
      K23 0)
    (
      K23 1)))
theorem hdX4_key : yX4_key.cls = RX4 ∧ yX4_key.cls ≠ "java/lang/invoke/MethodHandle" ∧ yX4_key.cls ≠ "java/lang/invoke/VarHandle" ∧ (parseMethodDescriptor yX4_key.desc).map (fun d => d.parameters.length) = some 2 := by decide +kernel
set_option maxRecDepth 100000 in
set_option maxHeartbeats 4000000 in
theorem mX4_key (l : Launch) (dC : Nat → ClassId) (dI : Nat → Nat → Nat) (cyI cyC cyO : ClassId) (hl9 : l.stackTraces = false) (ad : Nat → Nat) (ob : Nat) (n0 : Nat) (n1 : Nat) (n2 : Nat) (n3 : Nat) (t0 : Nat) (t1 : Nat) (t2 : Nat) (t3 : Nat) (s0 : Nat) (aR : Nat) (ro : Nat → Nat) (r1 : Nat → Nat) (r2 : Nat → Nat) (r3 : Nat → Nat) (x0 : Nat) (x1 : Nat) (x2 : Nat) (x3 : Nat) (x4 : Nat) (n_ones : Nat → Int32) (n_twos : Nat → Int32) (n_settings : Nat → Int32) (n_tick : Int32) (n_energy : Int32) (n_valuesPut : Int32) (t_ones : Nat → Int32) (t_twos : Nat → Int32) (t_settings : Nat → Int32) (t_tick : Int32) (t_energy : Int32) (t_valuesPut : Int32) (s_ring : Nat → SV) (s_oldest : Int32) (s_count : Int32) (x_signs : Nat → Int32) (x_length : Int32) (x_position : Int32) (x_complete : Int32) (x_orders : Int32) (x_kinds : Nat → Int32) (x_numbers : Nat → Int32) (x_values : Nat → Int32) (p1 : Int32) (p2 : Int32) {k : Nat} {r : Int32} (hf : fX4_key n_ones n_twos n_settings n_tick p1 p2 = some (k, r)) : MetT l yX4_key cX4_key 3 (some .int) 7 136 1 6 [.ref ob, .int p1, .int p2] (dC, dI) (tyS cyI cyC cyO) (wAll cyI cyC cyO ob n0 n1 n2 n3 t0 t1 t2 t3 s0 aR ro r1 r2 r3 x0 x1 x2 x3 x4 n_ones n_twos n_settings n_tick n_energy n_valuesPut t_ones t_twos t_settings t_tick t_energy t_valuesPut s_ring s_oldest s_count x_signs x_length x_position x_complete x_orders x_kinds x_numbers x_values) (wAll cyI cyC cyO ob n0 n1 n2 n3 t0 t1 t2 t3 s0 aR ro r1 r2 r3 x0 x1 x2 x3 x4 n_ones n_twos n_settings n_tick n_energy n_valuesPut t_ones t_twos t_settings t_tick t_energy t_valuesPut s_ring s_oldest s_count x_signs x_length x_position x_complete x_orders x_kinds x_numbers x_values) ad k r := by
  refine metT_of (by decide) (Nat.le_of_ble_eq_true rfl) ?_
  intro p e s m below meth c ls hC hr hlk hex hP hK hD hE hl
  have hC : CallFix p m c cX4_key 3 s [.ref ob, .int p1, .int p2].toArray wA RX4 := hC
  obtain ⟨hx, hb, hml, hown, hts⟩ := id hC
  have hS : va_S (k_A (wAll cyI cyC cyO ob n0 n1 n2 n3 t0 t1 t2 t3 s0 aR ro r1 r2 r3 x0 x1 x2 x3 x4 n_ones n_twos n_settings n_tick n_energy n_valuesPut t_ones t_twos t_settings t_tick t_energy t_valuesPut s_ring s_oldest s_count x_signs x_length x_position x_complete x_orders x_kinds x_numbers x_values)) s.heap s.heap [] := va_S.rf
  have hl : lv_has ls 3 [(0, .ref ob), (1, .int p1), (2, .int p2)] := hl
  have h := hf
  unfold fX4_key at h
  obtain ⟨H, hH⟩ : ∃ H, H = s.heap := ⟨_, rfl⟩
  obtain ⟨locs, hlo⟩ : ∃ locs : List Loc, locs = [] := ⟨_, rfl⟩
  rw [← hH] at hP
  rw [← hlo] at hS
  have hS : va_S (k_A (wAll cyI cyC cyO ob n0 n1 n2 n3 t0 t1 t2 t3 s0 aR ro r1 r2 r3 x0 x1 x2 x3 x4 n_ones n_twos n_settings n_tick n_energy n_valuesPut t_ones t_twos t_settings t_tick t_energy t_valuesPut s_ring s_oldest s_count x_signs x_length x_position x_complete x_orders x_kinds x_numbers x_values)) s.heap H locs := by rw [hH]; exact hS
  show W p l e (k_rmx 7 136 1 6) s m [.ref ob, .int p1, .int p2].toArray below meth c s.heap [] 0 0 _ _
  rw [← hlo, ← hH]
  refine lv_iload_n hx hb dX4_key_0 rfl (lv_at hl 1 rfl) ?_
  refine lv_bipush (v := 16) hx hb dX4_key_1 (by decide) ?_
  obtain ⟨z1, hc3, h⟩ := k_b1_e h
  refine g_callRI_S (As := [.int p1, .int 16]) (rest := []) hC (mX4_isIndex l dC dI cyI cyC cyO p1 16 hc3) q469 q470 q71 q471 2 hdX4_isIndex ⟨Nat.le_of_ble_eq_true rfl, Nat.le_of_ble_eq_true rfl⟩ ⟨Nat.le_of_ble_eq_true rfl, Nat.le_of_ble_eq_true rfl⟩ rfl rfl hl.1 (Nat.le_of_ble_eq_true rfl) va_P_nil hK hS dX4_key_3 (fun H locs hk hS => ?_)
  have hP := k_kept hP hk
  obtain ⟨K23, hK23, h⟩ := k_j1_e h
  have J23 : ∀ (z2 : Int32) (H : Heap) (locs : List Loc) (ls : Array Slot), K23 z2 = some (k, r) → va_P (dC, dI) vwCl (wAll cyI cyC cyO ob n0 n1 n2 n3 t0 t1 t2 t3 s0 aR ro r1 r2 r3 x0 x1 x2 x3 x4 n_ones n_twos n_settings n_tick n_energy n_valuesPut t_ones t_twos t_settings t_tick t_energy t_valuesPut s_ring s_oldest s_count x_signs x_length x_position x_complete x_orders x_kinds x_numbers x_values) H → va_S (k_A (wAll cyI cyC cyO ob n0 n1 n2 n3 t0 t1 t2 t3 s0 aR ro r1 r2 r3 x0 x1 x2 x3 x4 n_ones n_twos n_settings n_tick n_energy n_valuesPut t_ones t_twos t_settings t_tick t_energy t_valuesPut s_ring s_oldest s_count x_signs x_length x_position x_complete x_orders x_kinds x_numbers x_values)) s.heap H locs → lv_has ls 3 [(0, .ref ob), (1, .int p1), (2, .int p2)] → W p l e (k_rmx 7 136 1 6) s m [.ref ob, .int p1, .int p2].toArray below meth c H locs 0 0 (vx_MQ below (qTI k r (dC, dI) (wAll cyI cyC cyO ob n0 n1 n2 n3 t0 t1 t2 t3 s0 aR ro r1 r2 r3 x0 x1 x2 x3 x4 n_ones n_twos n_settings n_tick n_energy n_valuesPut t_ones t_twos t_settings t_tick t_energy t_valuesPut s_ring s_oldest s_count x_signs x_length x_position x_complete x_orders x_kinds x_numbers x_values) (wAll cyI cyC cyO ob n0 n1 n2 n3 t0 t1 t2 t3 s0 aR ro r1 r2 r3 x0 x1 x2 x3 x4 n_ones n_twos n_settings n_tick n_energy n_valuesPut t_ones t_twos t_settings t_tick t_energy t_valuesPut s_ring s_oldest s_count x_signs x_length x_position x_complete x_orders x_kinds x_numbers x_values)) (qTX k (dC, dI) (wAll cyI cyC cyO ob n0 n1 n2 n3 t0 t1 t2 t3 s0 aR ro r1 r2 r3 x0 x1 x2 x3 x4 n_ones n_twos n_settings n_tick n_energy n_valuesPut t_ones t_twos t_settings t_tick t_energy t_valuesPut s_ring s_oldest s_count x_signs x_length x_position x_complete x_orders x_kinds x_numbers x_values) (wAll cyI cyC cyO ob n0 n1 n2 n3 t0 t1 t2 t3 s0 aR ro r1 r2 r3 x0 x1 x2 x3 x4 n_ones n_twos n_settings n_tick n_energy n_valuesPut t_ones t_twos t_settings t_tick t_energy t_valuesPut s_ring s_oldest s_count x_signs x_length x_position x_complete x_orders x_kinds x_numbers x_values)) [.ref ob, .int p1, .int p2].toArray s 1 6 (k_A (wAll cyI cyC cyO ob n0 n1 n2 n3 t0 t1 t2 t3 s0 aR ro r1 r2 r3 x0 x1 x2 x3 x4 n_ones n_twos n_settings n_tick n_energy n_valuesPut t_ones t_twos t_settings t_tick t_energy t_valuesPut s_ring s_oldest s_count x_signs x_length x_position x_complete x_orders x_kinds x_numbers x_values))) (F0 m 23 ls [.int z2]) := by
    intro z2 H locs ls h hP hS hl
    have h := k_a1 hK23 h
    refine g_req hC hlk hex (mX4_requireArgument l hl9 ad z2) q513 q514 q71 q515 hdX4_requireArgument ⟨Nat.le_of_ble_eq_true rfl, Nat.le_of_ble_eq_true rfl⟩ ⟨Nat.le_of_ble_eq_true rfl, Nat.le_of_ble_eq_true rfl⟩ ⟨Nat.le_of_ble_eq_true rfl, Nat.le_of_ble_eq_true rfl⟩ hl.1 (Nat.le_of_ble_eq_true rfl) hS hE hP dX4_key_23 h (fun h => (k_t2 h).1) (fun H locs h hk hS => ?_) (fun _ => hP)
    have hP := k_kept hP hk
    refine lv_aload_n hx hb dX4_key_26 rfl (lv_at hl 0 rfl) ?_
    refine lv_iload_n hx hb dX4_key_27 rfl (lv_at hl 1 rfl) ?_
    refine lv_iload_n hx hb dX4_key_28 rfl (lv_at hl 2 rfl) ?_
    obtain ⟨z3, hc29, h⟩ := k_b1_e h
    refine g_callRI_V (As := [.int p1, .int p2]) (rest := []) hC (mX4_keyProperty l dC dI cyI cyC cyO ob n0 n1 n2 n3 t0 t1 t2 t3 s0 aR ro r1 r2 r3 x0 x1 x2 x3 x4 n_ones n_twos n_settings n_tick n_energy n_valuesPut t_ones t_twos t_settings t_tick t_energy t_valuesPut s_ring s_oldest s_count x_signs x_length x_position x_complete x_orders x_kinds x_numbers x_values p1 p2 hc29) q358 q359 q7 q71 q360 2 hdX4_keyProperty ⟨Nat.le_of_ble_eq_true rfl, Nat.le_of_ble_eq_true rfl⟩ ⟨Nat.le_of_ble_eq_true rfl, Nat.le_of_ble_eq_true rfl⟩ rfl rfl hl.1 (Nat.le_of_ble_eq_true rfl) hP hK (va_recv hK hP (ci := 3) (q0 := 0) rfl rfl) hS dX4_key_29 (fun H locs hk hS => ?_)
    have hP := k_kept hP hk
    obtain ⟨e0, e1⟩ := k_t2 h
    exact g_retT hx hb hr hlk (Nat.le_of_ble_eq_true rfl) (Nat.le_of_ble_eq_true rfl) hS e0 e1 hP dX4_key_32
  refine g_if_eq (tgt := 22) hx hb dX4_key_6 (by decide) h (fun h => ?_) (fun h => ?_)
  · refine lv_iconst (v := 0) hx hb dX4_key_22 (by decide) ?_
    exact J23 0 _ _ _ h hP hS (lv_sub hl [0, 1, 2] rfl)
  · refine lv_iload_n hx hb dX4_key_9 rfl (lv_at hl 2 rfl) ?_
    refine lv_bipush (v := 6) hx hb dX4_key_10 (by decide) ?_
    obtain ⟨z4, hc12, h⟩ := k_b1_e h
    refine g_callRI_S (As := [.int p2, .int 6]) (rest := []) hC (mX4_isIndex l dC dI cyI cyC cyO p2 6 hc12) q469 q470 q71 q471 2 hdX4_isIndex ⟨Nat.le_of_ble_eq_true rfl, Nat.le_of_ble_eq_true rfl⟩ ⟨Nat.le_of_ble_eq_true rfl, Nat.le_of_ble_eq_true rfl⟩ rfl rfl hl.1 (Nat.le_of_ble_eq_true rfl) va_P_nil hK hS dX4_key_12 (fun H locs hk hS => ?_)
    have hP := k_kept hP hk
    refine g_if_eq (tgt := 22) hx hb dX4_key_15 (by decide) h (fun h => ?_) (fun h => ?_)
    · refine lv_iconst (v := 0) hx hb dX4_key_22 (by decide) ?_
      exact J23 0 _ _ _ h hP hS (lv_sub hl [0, 1, 2] rfl)
    · refine lv_iconst (v := 1) hx hb dX4_key_18 (by decide) ?_
      refine lv_goto (tgt := 23) hx hb dX4_key_19 (by decide) ?_
      exact J23 1 _ _ _ h hP hS (lv_sub hl [0, 1, 2] rfl)
def fX4_history (n_ones : Nat → Int32) (n_twos : Nat → Int32) (n_settings : Nat → Int32) (n_tick : Int32) (p1 : Int32) (p2 : Int32) : Option (Nat × Int32) :=
  k_b1 (fX4_isIndex p1 16) fun (z1 : Int32) =>
  k_j1
  (fun (z2 : Int32) =>
    k_if (z2 = 0) (some (2, 0)) <|
    k_b1 (fX3_earlierValue n_ones n_twos n_settings n_tick p1 p2) fun (z3 : Int32) =>
    some (0, z3))
  (fun K18 =>
  k_if (z1 = 0)
  (
    K18 0)
  (
    k_if (p2 < 0)
    (
      K18 0)
    (
      K18 1)))
theorem hdX4_history : yX4_history.cls = RX4 ∧ yX4_history.cls ≠ "java/lang/invoke/MethodHandle" ∧ yX4_history.cls ≠ "java/lang/invoke/VarHandle" ∧ (parseMethodDescriptor yX4_history.desc).map (fun d => d.parameters.length) = some 2 := by decide +kernel
set_option maxRecDepth 100000 in
set_option maxHeartbeats 4000000 in
theorem mX4_history (l : Launch) (dC : Nat → ClassId) (dI : Nat → Nat → Nat) (cyI cyC cyO : ClassId) (hl9 : l.stackTraces = false) (ad : Nat → Nat) (ob : Nat) (n0 : Nat) (n1 : Nat) (n2 : Nat) (n3 : Nat) (t0 : Nat) (t1 : Nat) (t2 : Nat) (t3 : Nat) (s0 : Nat) (aR : Nat) (ro : Nat → Nat) (r1 : Nat → Nat) (r2 : Nat → Nat) (r3 : Nat → Nat) (x0 : Nat) (x1 : Nat) (x2 : Nat) (x3 : Nat) (x4 : Nat) (n_ones : Nat → Int32) (n_twos : Nat → Int32) (n_settings : Nat → Int32) (n_tick : Int32) (n_energy : Int32) (n_valuesPut : Int32) (t_ones : Nat → Int32) (t_twos : Nat → Int32) (t_settings : Nat → Int32) (t_tick : Int32) (t_energy : Int32) (t_valuesPut : Int32) (s_ring : Nat → SV) (s_oldest : Int32) (s_count : Int32) (x_signs : Nat → Int32) (x_length : Int32) (x_position : Int32) (x_complete : Int32) (x_orders : Int32) (x_kinds : Nat → Int32) (x_numbers : Nat → Int32) (x_values : Nat → Int32) (p1 : Int32) (p2 : Int32) {k : Nat} {r : Int32} (hf : fX4_history n_ones n_twos n_settings n_tick p1 p2 = some (k, r)) : MetT l yX4_history cX4_history 3 (some .int) 7 102 1 6 [.ref ob, .int p1, .int p2] (dC, dI) (tyS cyI cyC cyO) (wAll cyI cyC cyO ob n0 n1 n2 n3 t0 t1 t2 t3 s0 aR ro r1 r2 r3 x0 x1 x2 x3 x4 n_ones n_twos n_settings n_tick n_energy n_valuesPut t_ones t_twos t_settings t_tick t_energy t_valuesPut s_ring s_oldest s_count x_signs x_length x_position x_complete x_orders x_kinds x_numbers x_values) (wAll cyI cyC cyO ob n0 n1 n2 n3 t0 t1 t2 t3 s0 aR ro r1 r2 r3 x0 x1 x2 x3 x4 n_ones n_twos n_settings n_tick n_energy n_valuesPut t_ones t_twos t_settings t_tick t_energy t_valuesPut s_ring s_oldest s_count x_signs x_length x_position x_complete x_orders x_kinds x_numbers x_values) ad k r := by
  refine metT_of (by decide) (Nat.le_of_ble_eq_true rfl) ?_
  intro p e s m below meth c ls hC hr hlk hex hP hK hD hE hl
  have hC : CallFix p m c cX4_history 3 s [.ref ob, .int p1, .int p2].toArray wA RX4 := hC
  obtain ⟨hx, hb, hml, hown, hts⟩ := id hC
  have hS : va_S (k_A (wAll cyI cyC cyO ob n0 n1 n2 n3 t0 t1 t2 t3 s0 aR ro r1 r2 r3 x0 x1 x2 x3 x4 n_ones n_twos n_settings n_tick n_energy n_valuesPut t_ones t_twos t_settings t_tick t_energy t_valuesPut s_ring s_oldest s_count x_signs x_length x_position x_complete x_orders x_kinds x_numbers x_values)) s.heap s.heap [] := va_S.rf
  have hl : lv_has ls 3 [(0, .ref ob), (1, .int p1), (2, .int p2)] := hl
  have h := hf
  unfold fX4_history at h
  obtain ⟨H, hH⟩ : ∃ H, H = s.heap := ⟨_, rfl⟩
  obtain ⟨locs, hlo⟩ : ∃ locs : List Loc, locs = [] := ⟨_, rfl⟩
  rw [← hH] at hP
  rw [← hlo] at hS
  have hS : va_S (k_A (wAll cyI cyC cyO ob n0 n1 n2 n3 t0 t1 t2 t3 s0 aR ro r1 r2 r3 x0 x1 x2 x3 x4 n_ones n_twos n_settings n_tick n_energy n_valuesPut t_ones t_twos t_settings t_tick t_energy t_valuesPut s_ring s_oldest s_count x_signs x_length x_position x_complete x_orders x_kinds x_numbers x_values)) s.heap H locs := by rw [hH]; exact hS
  show W p l e (k_rmx 7 102 1 6) s m [.ref ob, .int p1, .int p2].toArray below meth c s.heap [] 0 0 _ _
  rw [← hlo, ← hH]
  refine lv_iload_n hx hb dX4_history_0 rfl (lv_at hl 1 rfl) ?_
  refine lv_bipush (v := 16) hx hb dX4_history_1 (by decide) ?_
  obtain ⟨z1, hc3, h⟩ := k_b1_e h
  refine g_callRI_S (As := [.int p1, .int 16]) (rest := []) hC (mX4_isIndex l dC dI cyI cyC cyO p1 16 hc3) q469 q470 q71 q471 2 hdX4_isIndex ⟨Nat.le_of_ble_eq_true rfl, Nat.le_of_ble_eq_true rfl⟩ ⟨Nat.le_of_ble_eq_true rfl, Nat.le_of_ble_eq_true rfl⟩ rfl rfl hl.1 (Nat.le_of_ble_eq_true rfl) va_P_nil hK hS dX4_history_3 (fun H locs hk hS => ?_)
  have hP := k_kept hP hk
  obtain ⟨K18, hK18, h⟩ := k_j1_e h
  have J18 : ∀ (z2 : Int32) (H : Heap) (locs : List Loc) (ls : Array Slot), K18 z2 = some (k, r) → va_P (dC, dI) vwCl (wAll cyI cyC cyO ob n0 n1 n2 n3 t0 t1 t2 t3 s0 aR ro r1 r2 r3 x0 x1 x2 x3 x4 n_ones n_twos n_settings n_tick n_energy n_valuesPut t_ones t_twos t_settings t_tick t_energy t_valuesPut s_ring s_oldest s_count x_signs x_length x_position x_complete x_orders x_kinds x_numbers x_values) H → va_S (k_A (wAll cyI cyC cyO ob n0 n1 n2 n3 t0 t1 t2 t3 s0 aR ro r1 r2 r3 x0 x1 x2 x3 x4 n_ones n_twos n_settings n_tick n_energy n_valuesPut t_ones t_twos t_settings t_tick t_energy t_valuesPut s_ring s_oldest s_count x_signs x_length x_position x_complete x_orders x_kinds x_numbers x_values)) s.heap H locs → lv_has ls 3 [(0, .ref ob), (1, .int p1), (2, .int p2)] → W p l e (k_rmx 7 102 1 6) s m [.ref ob, .int p1, .int p2].toArray below meth c H locs 0 0 (vx_MQ below (qTI k r (dC, dI) (wAll cyI cyC cyO ob n0 n1 n2 n3 t0 t1 t2 t3 s0 aR ro r1 r2 r3 x0 x1 x2 x3 x4 n_ones n_twos n_settings n_tick n_energy n_valuesPut t_ones t_twos t_settings t_tick t_energy t_valuesPut s_ring s_oldest s_count x_signs x_length x_position x_complete x_orders x_kinds x_numbers x_values) (wAll cyI cyC cyO ob n0 n1 n2 n3 t0 t1 t2 t3 s0 aR ro r1 r2 r3 x0 x1 x2 x3 x4 n_ones n_twos n_settings n_tick n_energy n_valuesPut t_ones t_twos t_settings t_tick t_energy t_valuesPut s_ring s_oldest s_count x_signs x_length x_position x_complete x_orders x_kinds x_numbers x_values)) (qTX k (dC, dI) (wAll cyI cyC cyO ob n0 n1 n2 n3 t0 t1 t2 t3 s0 aR ro r1 r2 r3 x0 x1 x2 x3 x4 n_ones n_twos n_settings n_tick n_energy n_valuesPut t_ones t_twos t_settings t_tick t_energy t_valuesPut s_ring s_oldest s_count x_signs x_length x_position x_complete x_orders x_kinds x_numbers x_values) (wAll cyI cyC cyO ob n0 n1 n2 n3 t0 t1 t2 t3 s0 aR ro r1 r2 r3 x0 x1 x2 x3 x4 n_ones n_twos n_settings n_tick n_energy n_valuesPut t_ones t_twos t_settings t_tick t_energy t_valuesPut s_ring s_oldest s_count x_signs x_length x_position x_complete x_orders x_kinds x_numbers x_values)) [.ref ob, .int p1, .int p2].toArray s 1 6 (k_A (wAll cyI cyC cyO ob n0 n1 n2 n3 t0 t1 t2 t3 s0 aR ro r1 r2 r3 x0 x1 x2 x3 x4 n_ones n_twos n_settings n_tick n_energy n_valuesPut t_ones t_twos t_settings t_tick t_energy t_valuesPut s_ring s_oldest s_count x_signs x_length x_position x_complete x_orders x_kinds x_numbers x_values))) (F0 m 18 ls [.int z2]) := by
    intro z2 H locs ls h hP hS hl
    have h := k_a1 hK18 h
    refine g_req hC hlk hex (mX4_requireArgument l hl9 ad z2) q513 q514 q71 q515 hdX4_requireArgument ⟨Nat.le_of_ble_eq_true rfl, Nat.le_of_ble_eq_true rfl⟩ ⟨Nat.le_of_ble_eq_true rfl, Nat.le_of_ble_eq_true rfl⟩ ⟨Nat.le_of_ble_eq_true rfl, Nat.le_of_ble_eq_true rfl⟩ hl.1 (Nat.le_of_ble_eq_true rfl) hS hE hP dX4_history_18 h (fun h => (k_t2 h).1) (fun H locs h hk hS => ?_) (fun _ => hP)
    have hP := k_kept hP hk
    refine lv_aload_n hx hb dX4_history_21 rfl (lv_at hl 0 rfl) ?_
    refine va_get (D := (dC, dI)) (ci := 3) (v := .ref n0) (C := RX4) (T := TX4) (N := 4) hx hb hts iaX4 hown hK hP 0 rfl rfl 0 (by decide) (hts _ q152) (fun _ h9 => h9) rfl dX4_history_22 ?_
    refine lv_iload_n hx hb dX4_history_25 rfl (lv_at hl 1 rfl) ?_
    refine lv_iload_n hx hb dX4_history_26 rfl (lv_at hl 2 rfl) ?_
    obtain ⟨z3, hc27, h⟩ := k_b1_e h
    refine g_callRI_V (As := [.int p1, .int p2]) (rest := []) hC (mX3_earlierValue l dC dI cyI cyC cyO n0 n1 n2 n3 n_ones n_twos n_settings n_tick n_energy n_valuesPut p1 p2 hc27) q393 q394 q395 q72 q396 2 hdX3_earlierValue ⟨Nat.le_of_ble_eq_true rfl, Nat.le_of_ble_eq_true rfl⟩ ⟨Nat.le_of_ble_eq_true rfl, Nat.le_of_ble_eq_true rfl⟩ rfl rfl hl.1 (Nat.le_of_ble_eq_true rfl) (hP.sub (ws' := (wX3 cyI cyC n0 n1 n2 n3 n_ones n_twos n_settings n_tick n_energy n_valuesPut)) [1, 2, 3, 4] rfl) hK (va_recv hK hP (ci := 2) (q0 := 1) rfl rfl) hS dX4_history_27 (fun H locs hk hS => ?_)
    have hP := k_kept hP hk
    obtain ⟨e0, e1⟩ := k_t2 h
    exact g_retT hx hb hr hlk (Nat.le_of_ble_eq_true rfl) (Nat.le_of_ble_eq_true rfl) hS e0 e1 hP dX4_history_30
  refine g_if_eq (tgt := 17) hx hb dX4_history_6 (by decide) h (fun h => ?_) (fun h => ?_)
  · refine lv_iconst (v := 0) hx hb dX4_history_17 (by decide) ?_
    exact J18 0 _ _ _ h hP hS (lv_sub hl [0, 1, 2] rfl)
  · refine lv_iload_n hx hb dX4_history_9 rfl (lv_at hl 2 rfl) ?_
    refine g_if_lt (tgt := 17) hx hb dX4_history_10 (by decide) h (fun h => ?_) (fun h => ?_)
    · refine lv_iconst (v := 0) hx hb dX4_history_17 (by decide) ?_
      exact J18 0 _ _ _ h hP hS (lv_sub hl [0, 1, 2] rfl)
    · refine lv_iconst (v := 1) hx hb dX4_history_13 (by decide) ?_
      refine lv_goto (tgt := 18) hx hb dX4_history_14 (by decide) ?_
      exact J18 1 _ _ _ h hP hS (lv_sub hl [0, 1, 2] rfl)
def fX4_countOf (n_ones : Nat → Int32) (n_twos : Nat → Int32) (n_settings : Nat → Int32) (n_tick : Int32) (n_energy : Int32) (n_valuesPut : Int32) (s_count : Int32) (p1 : Int32) : Option (Int32) :=
  k_if (p1 = 0)
  (
    some n_tick)
  (
    k_if (p1 = 1)
    (
      k_let (p1 - 1) fun (z1 : Int32) =>
      k_b1 (fX3_rowsOfKind n_ones n_twos n_settings n_tick z1) fun (z2 : Int32) =>
      some z2)
    (
      k_if (p1 = 2)
      (
        k_let (p1 - 1) fun (z3 : Int32) =>
        k_b1 (fX3_rowsOfKind n_ones n_twos n_settings n_tick z3) fun (z4 : Int32) =>
        some z4)
      (
        k_if (p1 = 3)
        (
          k_let (p1 - 1) fun (z5 : Int32) =>
          k_b1 (fX3_rowsOfKind n_ones n_twos n_settings n_tick z5) fun (z6 : Int32) =>
          some z6)
        (
          k_if (p1 = 4)
          (
            k_let (p1 - 1) fun (z7 : Int32) =>
            k_b1 (fX3_rowsOfKind n_ones n_twos n_settings n_tick z7) fun (z8 : Int32) =>
            some z8)
          (
            k_if (p1 = 5)
            (
              k_let (p1 - 1) fun (z9 : Int32) =>
              k_b1 (fX3_rowsOfKind n_ones n_twos n_settings n_tick z9) fun (z10 : Int32) =>
              some z10)
            (
              k_if (p1 = 6)
              (
                k_b1 (fX3_lockedRows n_ones n_twos n_tick) fun (z11 : Int32) =>
                some z11)
              (
                k_if (p1 = 7)
                (
                  k_b1 (fX3_allDoubtfulFuses n_ones n_twos) fun (z12 : Int32) =>
                  some z12)
                (
                  k_if (p1 = 8)
                  (
                    some n_energy)
                  (
                    k_if (p1 = 9)
                    (
                      k_b1 (fX3_keysWithValue n_ones n_twos n_settings n_tick) fun (z13 : Int32) =>
                      some z13)
                    (
                      k_if (p1 = 10)
                      (
                        k_b1 (fX3_nextRow n_ones n_twos n_settings n_tick) fun (z14 : Int32) =>
                        some z14)
                      (
                        k_if (p1 = 11)
                        (
                          some n_valuesPut)
                        (
                          k_if (p1 = 12)
                          (
                            some s_count)
                          (
                            k_let (p1 - 1) fun (z15 : Int32) =>
                            k_b1 (fX3_rowsOfKind n_ones n_twos n_settings n_tick z15) fun (z16 : Int32) =>
                            some z16)))))))))))))
theorem hdX4_countOf : yX4_countOf.cls = RX4 ∧ yX4_countOf.cls ≠ "java/lang/invoke/MethodHandle" ∧ yX4_countOf.cls ≠ "java/lang/invoke/VarHandle" ∧ (parseMethodDescriptor yX4_countOf.desc).map (fun d => d.parameters.length) = some 1 := by decide +kernel
set_option maxRecDepth 100000 in
set_option maxHeartbeats 4000000 in
theorem mX4_countOf (l : Launch) (dC : Nat → ClassId) (dI : Nat → Nat → Nat) (cyI cyC cyO : ClassId) (ob : Nat) (n0 : Nat) (n1 : Nat) (n2 : Nat) (n3 : Nat) (t0 : Nat) (t1 : Nat) (t2 : Nat) (t3 : Nat) (s0 : Nat) (aR : Nat) (ro : Nat → Nat) (r1 : Nat → Nat) (r2 : Nat → Nat) (r3 : Nat → Nat) (x0 : Nat) (x1 : Nat) (x2 : Nat) (x3 : Nat) (x4 : Nat) (n_ones : Nat → Int32) (n_twos : Nat → Int32) (n_settings : Nat → Int32) (n_tick : Int32) (n_energy : Int32) (n_valuesPut : Int32) (t_ones : Nat → Int32) (t_twos : Nat → Int32) (t_settings : Nat → Int32) (t_tick : Int32) (t_energy : Int32) (t_valuesPut : Int32) (s_ring : Nat → SV) (s_oldest : Int32) (s_count : Int32) (x_signs : Nat → Int32) (x_length : Int32) (x_position : Int32) (x_complete : Int32) (x_orders : Int32) (x_kinds : Nat → Int32) (x_numbers : Nat → Int32) (x_values : Nat → Int32) (p1 : Int32) {r : Int32} (hf : fX4_countOf n_ones n_twos n_settings n_tick n_energy n_valuesPut s_count p1 = some r) : MetRI l yX4_countOf cX4_countOf 2 (some .int) 4 92 [.ref ob, .int p1] (dC, dI) (tyS cyI cyC cyO) (wAll cyI cyC cyO ob n0 n1 n2 n3 t0 t1 t2 t3 s0 aR ro r1 r2 r3 x0 x1 x2 x3 x4 n_ones n_twos n_settings n_tick n_energy n_valuesPut t_ones t_twos t_settings t_tick t_energy t_valuesPut s_ring s_oldest s_count x_signs x_length x_position x_complete x_orders x_kinds x_numbers x_values) r := by
  refine metRI_of (by decide) (Nat.le_of_ble_eq_true rfl) ?_
  intro p e s m below meth c ls hC hr hlk hP hK hl
  have hC : CallFix p m c cX4_countOf 2 s [.ref ob, .int p1].toArray wA RX4 := hC
  obtain ⟨hx, hb, hml, hown, hts⟩ := id hC
  have hS : va_S kF s.heap s.heap [] := va_S.rf
  have hl : lv_has ls 2 [(0, .ref ob), (1, .int p1)] := hl
  have h := hf
  unfold fX4_countOf at h
  obtain ⟨H, hH⟩ : ∃ H, H = s.heap := ⟨_, rfl⟩
  obtain ⟨locs, hlo⟩ : ∃ locs : List Loc, locs = [] := ⟨_, rfl⟩
  rw [← hH] at hP
  rw [← hlo] at hS
  have hS : va_S kF s.heap H locs := by rw [hH]; exact hS
  show W p l e (k_rm 4 92) s m [.ref ob, .int p1].toArray below meth c s.heap [] 0 0 _ _
  rw [← hlo, ← hH]
  refine lv_iload_n hx hb dX4_countOf_0 rfl (lv_at hl 1 rfl) ?_
  refine g_arm (v := 0) (off := 67) (tgt := 68) hx hb dX4_countOf_1 (by decide) (by decide) (by decide +kernel) (by decide) h (fun _ h => ?_) (fun nq0 h => ?_)
  · refine lv_aload_n hx hb dX4_countOf_68 rfl (lv_at hl 0 rfl) ?_
    refine va_get (D := (dC, dI)) (ci := 3) (v := .ref n0) (C := RX4) (T := TX4) (N := 4) hx hb hts iaX4 hown hK hP 0 rfl rfl 0 (by decide) (hts _ q152) (fun _ h9 => h9) rfl dX4_countOf_69 ?_
    refine va_get (D := (dC, dI)) (ci := 2) (v := .int n_tick) (C := RX3) (T := TX3) (N := 6) hx hb hts iaX3 hown hK hP 1 rfl rfl 3 (by decide) (hts _ q111) (fun _ h9 => h9) rfl dX4_countOf_72 ?_
    exact g_retRI hx hb hr hlk hS h dX4_countOf_75
  · skip
    refine g_arm (v := 1) (off := 131) (tgt := 132) hx hb dX4_countOf_1 (by decide) (by decide) (by decide +kernel) (by decide) h (fun _ h => ?_) (fun nq1 h => ?_)
    · refine lv_aload_n hx hb dX4_countOf_132 rfl (lv_at hl 0 rfl) ?_
      refine va_get (D := (dC, dI)) (ci := 3) (v := .ref n0) (C := RX4) (T := TX4) (N := 4) hx hb hts iaX4 hown hK hP 0 rfl rfl 0 (by decide) (hts _ q152) (fun _ h9 => h9) rfl dX4_countOf_133 ?_
      refine lv_iload_n hx hb dX4_countOf_136 rfl (lv_at hl 1 rfl) ?_
      refine lv_iconst (v := 1) hx hb dX4_countOf_137 (by decide) ?_
      refine g_isub hx hb dX4_countOf_138 h (fun z1 h => ?_)
      obtain ⟨z2, hc139, h⟩ := k_b1_e h
      refine g_callRI_V (As := [.int z1]) (rest := []) hC (mX3_rowsOfKind l dC dI cyI cyC cyO n0 n1 n2 n3 n_ones n_twos n_settings n_tick n_energy n_valuesPut z1 hc139) q333 q334 q335 q72 q336 1 hdX3_rowsOfKind ⟨Nat.le_of_ble_eq_true rfl, Nat.le_of_ble_eq_true rfl⟩ ⟨Nat.le_of_ble_eq_true rfl, Nat.le_of_ble_eq_true rfl⟩ rfl rfl hl.1 (Nat.le_of_ble_eq_true rfl) (hP.sub (ws' := (wX3 cyI cyC n0 n1 n2 n3 n_ones n_twos n_settings n_tick n_energy n_valuesPut)) [1, 2, 3, 4] rfl) hK (va_recv hK hP (ci := 2) (q0 := 1) rfl rfl) hS dX4_countOf_139 (fun H locs hk hS => ?_)
      have hP := k_kept hP hk
      exact g_retRI hx hb hr hlk hS h dX4_countOf_142
    · skip
      refine g_arm (v := 2) (off := 131) (tgt := 132) hx hb dX4_countOf_1 (by decide) (by decide) (by decide +kernel) (by decide) h (fun _ h => ?_) (fun nq2 h => ?_)
      · refine lv_aload_n hx hb dX4_countOf_132 rfl (lv_at hl 0 rfl) ?_
        refine va_get (D := (dC, dI)) (ci := 3) (v := .ref n0) (C := RX4) (T := TX4) (N := 4) hx hb hts iaX4 hown hK hP 0 rfl rfl 0 (by decide) (hts _ q152) (fun _ h9 => h9) rfl dX4_countOf_133 ?_
        refine lv_iload_n hx hb dX4_countOf_136 rfl (lv_at hl 1 rfl) ?_
        refine lv_iconst (v := 1) hx hb dX4_countOf_137 (by decide) ?_
        refine g_isub hx hb dX4_countOf_138 h (fun z3 h => ?_)
        obtain ⟨z4, hc139, h⟩ := k_b1_e h
        refine g_callRI_V (As := [.int z3]) (rest := []) hC (mX3_rowsOfKind l dC dI cyI cyC cyO n0 n1 n2 n3 n_ones n_twos n_settings n_tick n_energy n_valuesPut z3 hc139) q333 q334 q335 q72 q336 1 hdX3_rowsOfKind ⟨Nat.le_of_ble_eq_true rfl, Nat.le_of_ble_eq_true rfl⟩ ⟨Nat.le_of_ble_eq_true rfl, Nat.le_of_ble_eq_true rfl⟩ rfl rfl hl.1 (Nat.le_of_ble_eq_true rfl) (hP.sub (ws' := (wX3 cyI cyC n0 n1 n2 n3 n_ones n_twos n_settings n_tick n_energy n_valuesPut)) [1, 2, 3, 4] rfl) hK (va_recv hK hP (ci := 2) (q0 := 1) rfl rfl) hS dX4_countOf_139 (fun H locs hk hS => ?_)
        have hP := k_kept hP hk
        exact g_retRI hx hb hr hlk hS h dX4_countOf_142
      · skip
        refine g_arm (v := 3) (off := 131) (tgt := 132) hx hb dX4_countOf_1 (by decide) (by decide) (by decide +kernel) (by decide) h (fun _ h => ?_) (fun nq3 h => ?_)
        · refine lv_aload_n hx hb dX4_countOf_132 rfl (lv_at hl 0 rfl) ?_
          refine va_get (D := (dC, dI)) (ci := 3) (v := .ref n0) (C := RX4) (T := TX4) (N := 4) hx hb hts iaX4 hown hK hP 0 rfl rfl 0 (by decide) (hts _ q152) (fun _ h9 => h9) rfl dX4_countOf_133 ?_
          refine lv_iload_n hx hb dX4_countOf_136 rfl (lv_at hl 1 rfl) ?_
          refine lv_iconst (v := 1) hx hb dX4_countOf_137 (by decide) ?_
          refine g_isub hx hb dX4_countOf_138 h (fun z5 h => ?_)
          obtain ⟨z6, hc139, h⟩ := k_b1_e h
          refine g_callRI_V (As := [.int z5]) (rest := []) hC (mX3_rowsOfKind l dC dI cyI cyC cyO n0 n1 n2 n3 n_ones n_twos n_settings n_tick n_energy n_valuesPut z5 hc139) q333 q334 q335 q72 q336 1 hdX3_rowsOfKind ⟨Nat.le_of_ble_eq_true rfl, Nat.le_of_ble_eq_true rfl⟩ ⟨Nat.le_of_ble_eq_true rfl, Nat.le_of_ble_eq_true rfl⟩ rfl rfl hl.1 (Nat.le_of_ble_eq_true rfl) (hP.sub (ws' := (wX3 cyI cyC n0 n1 n2 n3 n_ones n_twos n_settings n_tick n_energy n_valuesPut)) [1, 2, 3, 4] rfl) hK (va_recv hK hP (ci := 2) (q0 := 1) rfl rfl) hS dX4_countOf_139 (fun H locs hk hS => ?_)
          have hP := k_kept hP hk
          exact g_retRI hx hb hr hlk hS h dX4_countOf_142
        · skip
          refine g_arm (v := 4) (off := 131) (tgt := 132) hx hb dX4_countOf_1 (by decide) (by decide) (by decide +kernel) (by decide) h (fun _ h => ?_) (fun nq4 h => ?_)
          · refine lv_aload_n hx hb dX4_countOf_132 rfl (lv_at hl 0 rfl) ?_
            refine va_get (D := (dC, dI)) (ci := 3) (v := .ref n0) (C := RX4) (T := TX4) (N := 4) hx hb hts iaX4 hown hK hP 0 rfl rfl 0 (by decide) (hts _ q152) (fun _ h9 => h9) rfl dX4_countOf_133 ?_
            refine lv_iload_n hx hb dX4_countOf_136 rfl (lv_at hl 1 rfl) ?_
            refine lv_iconst (v := 1) hx hb dX4_countOf_137 (by decide) ?_
            refine g_isub hx hb dX4_countOf_138 h (fun z7 h => ?_)
            obtain ⟨z8, hc139, h⟩ := k_b1_e h
            refine g_callRI_V (As := [.int z7]) (rest := []) hC (mX3_rowsOfKind l dC dI cyI cyC cyO n0 n1 n2 n3 n_ones n_twos n_settings n_tick n_energy n_valuesPut z7 hc139) q333 q334 q335 q72 q336 1 hdX3_rowsOfKind ⟨Nat.le_of_ble_eq_true rfl, Nat.le_of_ble_eq_true rfl⟩ ⟨Nat.le_of_ble_eq_true rfl, Nat.le_of_ble_eq_true rfl⟩ rfl rfl hl.1 (Nat.le_of_ble_eq_true rfl) (hP.sub (ws' := (wX3 cyI cyC n0 n1 n2 n3 n_ones n_twos n_settings n_tick n_energy n_valuesPut)) [1, 2, 3, 4] rfl) hK (va_recv hK hP (ci := 2) (q0 := 1) rfl rfl) hS dX4_countOf_139 (fun H locs hk hS => ?_)
            have hP := k_kept hP hk
            exact g_retRI hx hb hr hlk hS h dX4_countOf_142
          · skip
            refine g_arm (v := 5) (off := 131) (tgt := 132) hx hb dX4_countOf_1 (by decide) (by decide) (by decide +kernel) (by decide) h (fun _ h => ?_) (fun nq5 h => ?_)
            · refine lv_aload_n hx hb dX4_countOf_132 rfl (lv_at hl 0 rfl) ?_
              refine va_get (D := (dC, dI)) (ci := 3) (v := .ref n0) (C := RX4) (T := TX4) (N := 4) hx hb hts iaX4 hown hK hP 0 rfl rfl 0 (by decide) (hts _ q152) (fun _ h9 => h9) rfl dX4_countOf_133 ?_
              refine lv_iload_n hx hb dX4_countOf_136 rfl (lv_at hl 1 rfl) ?_
              refine lv_iconst (v := 1) hx hb dX4_countOf_137 (by decide) ?_
              refine g_isub hx hb dX4_countOf_138 h (fun z9 h => ?_)
              obtain ⟨z10, hc139, h⟩ := k_b1_e h
              refine g_callRI_V (As := [.int z9]) (rest := []) hC (mX3_rowsOfKind l dC dI cyI cyC cyO n0 n1 n2 n3 n_ones n_twos n_settings n_tick n_energy n_valuesPut z9 hc139) q333 q334 q335 q72 q336 1 hdX3_rowsOfKind ⟨Nat.le_of_ble_eq_true rfl, Nat.le_of_ble_eq_true rfl⟩ ⟨Nat.le_of_ble_eq_true rfl, Nat.le_of_ble_eq_true rfl⟩ rfl rfl hl.1 (Nat.le_of_ble_eq_true rfl) (hP.sub (ws' := (wX3 cyI cyC n0 n1 n2 n3 n_ones n_twos n_settings n_tick n_energy n_valuesPut)) [1, 2, 3, 4] rfl) hK (va_recv hK hP (ci := 2) (q0 := 1) rfl rfl) hS dX4_countOf_139 (fun H locs hk hS => ?_)
              have hP := k_kept hP hk
              exact g_retRI hx hb hr hlk hS h dX4_countOf_142
            · skip
              refine g_arm (v := 6) (off := 75) (tgt := 76) hx hb dX4_countOf_1 (by decide) (by decide) (by decide +kernel) (by decide) h (fun _ h => ?_) (fun nq6 h => ?_)
              · refine lv_aload_n hx hb dX4_countOf_76 rfl (lv_at hl 0 rfl) ?_
                refine va_get (D := (dC, dI)) (ci := 3) (v := .ref n0) (C := RX4) (T := TX4) (N := 4) hx hb hts iaX4 hown hK hP 0 rfl rfl 0 (by decide) (hts _ q152) (fun _ h9 => h9) rfl dX4_countOf_77 ?_
                obtain ⟨z11, hc80, h⟩ := k_b1_e h
                refine g_callRI_V (As := []) (rest := []) hC (mX3_lockedRows l dC dI cyI cyC cyO n0 n1 n2 n3 n_ones n_twos n_settings n_tick n_energy n_valuesPut hc80) q307 q308 q309 q72 q310 0 hdX3_lockedRows ⟨Nat.le_of_ble_eq_true rfl, Nat.le_of_ble_eq_true rfl⟩ ⟨Nat.le_of_ble_eq_true rfl, Nat.le_of_ble_eq_true rfl⟩ rfl rfl hl.1 (Nat.le_of_ble_eq_true rfl) (hP.sub (ws' := (wX3 cyI cyC n0 n1 n2 n3 n_ones n_twos n_settings n_tick n_energy n_valuesPut)) [1, 2, 3, 4] rfl) hK (va_recv hK hP (ci := 2) (q0 := 1) rfl rfl) hS dX4_countOf_80 (fun H locs hk hS => ?_)
                have hP := k_kept hP hk
                exact g_retRI hx hb hr hlk hS h dX4_countOf_83
              · skip
                refine g_arm (v := 7) (off := 83) (tgt := 84) hx hb dX4_countOf_1 (by decide) (by decide) (by decide +kernel) (by decide) h (fun _ h => ?_) (fun nq7 h => ?_)
                · refine lv_aload_n hx hb dX4_countOf_84 rfl (lv_at hl 0 rfl) ?_
                  refine va_get (D := (dC, dI)) (ci := 3) (v := .ref n0) (C := RX4) (T := TX4) (N := 4) hx hb hts iaX4 hown hK hP 0 rfl rfl 0 (by decide) (hts _ q152) (fun _ h9 => h9) rfl dX4_countOf_85 ?_
                  obtain ⟨z12, hc88, h⟩ := k_b1_e h
                  refine g_callRI_V (As := []) (rest := []) hC (mX3_allDoubtfulFuses l dC dI cyI cyC cyO n0 n1 n2 n3 n_ones n_twos n_settings n_tick n_energy n_valuesPut hc88) q312 q313 q314 q72 q315 0 hdX3_allDoubtfulFuses ⟨Nat.le_of_ble_eq_true rfl, Nat.le_of_ble_eq_true rfl⟩ ⟨Nat.le_of_ble_eq_true rfl, Nat.le_of_ble_eq_true rfl⟩ rfl rfl hl.1 (Nat.le_of_ble_eq_true rfl) (hP.sub (ws' := (wX3 cyI cyC n0 n1 n2 n3 n_ones n_twos n_settings n_tick n_energy n_valuesPut)) [1, 2, 3, 4] rfl) hK (va_recv hK hP (ci := 2) (q0 := 1) rfl rfl) hS dX4_countOf_88 (fun H locs hk hS => ?_)
                  have hP := k_kept hP hk
                  exact g_retRI hx hb hr hlk hS h dX4_countOf_91
                · skip
                  refine g_arm (v := 8) (off := 91) (tgt := 92) hx hb dX4_countOf_1 (by decide) (by decide) (by decide +kernel) (by decide) h (fun _ h => ?_) (fun nq8 h => ?_)
                  · refine lv_aload_n hx hb dX4_countOf_92 rfl (lv_at hl 0 rfl) ?_
                    refine va_get (D := (dC, dI)) (ci := 3) (v := .ref n0) (C := RX4) (T := TX4) (N := 4) hx hb hts iaX4 hown hK hP 0 rfl rfl 0 (by decide) (hts _ q152) (fun _ h9 => h9) rfl dX4_countOf_93 ?_
                    refine va_get (D := (dC, dI)) (ci := 2) (v := .int n_energy) (C := RX3) (T := TX3) (N := 6) hx hb hts iaX3 hown hK hP 1 rfl rfl 4 (by decide) (hts _ q113) (fun _ h9 => h9) rfl dX4_countOf_96 ?_
                    exact g_retRI hx hb hr hlk hS h dX4_countOf_99
                  · skip
                    refine g_arm (v := 9) (off := 99) (tgt := 100) hx hb dX4_countOf_1 (by decide) (by decide) (by decide +kernel) (by decide) h (fun _ h => ?_) (fun nq9 h => ?_)
                    · refine lv_aload_n hx hb dX4_countOf_100 rfl (lv_at hl 0 rfl) ?_
                      refine va_get (D := (dC, dI)) (ci := 3) (v := .ref n0) (C := RX4) (T := TX4) (N := 4) hx hb hts iaX4 hown hK hP 0 rfl rfl 0 (by decide) (hts _ q152) (fun _ h9 => h9) rfl dX4_countOf_101 ?_
                      obtain ⟨z13, hc104, h⟩ := k_b1_e h
                      refine g_callRI_V (As := []) (rest := []) hC (mX3_keysWithValue l dC dI cyI cyC cyO n0 n1 n2 n3 n_ones n_twos n_settings n_tick n_energy n_valuesPut hc104) q317 q318 q319 q72 q320 0 hdX3_keysWithValue ⟨Nat.le_of_ble_eq_true rfl, Nat.le_of_ble_eq_true rfl⟩ ⟨Nat.le_of_ble_eq_true rfl, Nat.le_of_ble_eq_true rfl⟩ rfl rfl hl.1 (Nat.le_of_ble_eq_true rfl) (hP.sub (ws' := (wX3 cyI cyC n0 n1 n2 n3 n_ones n_twos n_settings n_tick n_energy n_valuesPut)) [1, 2, 3, 4] rfl) hK (va_recv hK hP (ci := 2) (q0 := 1) rfl rfl) hS dX4_countOf_104 (fun H locs hk hS => ?_)
                      have hP := k_kept hP hk
                      exact g_retRI hx hb hr hlk hS h dX4_countOf_107
                    · skip
                      refine g_arm (v := 10) (off := 107) (tgt := 108) hx hb dX4_countOf_1 (by decide) (by decide) (by decide +kernel) (by decide) h (fun _ h => ?_) (fun nq10 h => ?_)
                      · refine lv_aload_n hx hb dX4_countOf_108 rfl (lv_at hl 0 rfl) ?_
                        refine va_get (D := (dC, dI)) (ci := 3) (v := .ref n0) (C := RX4) (T := TX4) (N := 4) hx hb hts iaX4 hown hK hP 0 rfl rfl 0 (by decide) (hts _ q152) (fun _ h9 => h9) rfl dX4_countOf_109 ?_
                        obtain ⟨z14, hc112, h⟩ := k_b1_e h
                        refine g_callRI_V (As := []) (rest := []) hC (mX3_nextRow l dC dI cyI cyC cyO n0 n1 n2 n3 n_ones n_twos n_settings n_tick n_energy n_valuesPut hc112) q328 q329 q330 q72 q331 0 hdX3_nextRow ⟨Nat.le_of_ble_eq_true rfl, Nat.le_of_ble_eq_true rfl⟩ ⟨Nat.le_of_ble_eq_true rfl, Nat.le_of_ble_eq_true rfl⟩ rfl rfl hl.1 (Nat.le_of_ble_eq_true rfl) (hP.sub (ws' := (wX3 cyI cyC n0 n1 n2 n3 n_ones n_twos n_settings n_tick n_energy n_valuesPut)) [1, 2, 3, 4] rfl) hK (va_recv hK hP (ci := 2) (q0 := 1) rfl rfl) hS dX4_countOf_112 (fun H locs hk hS => ?_)
                        have hP := k_kept hP hk
                        exact g_retRI hx hb hr hlk hS h dX4_countOf_115
                      · skip
                        refine g_arm (v := 11) (off := 115) (tgt := 116) hx hb dX4_countOf_1 (by decide) (by decide) (by decide +kernel) (by decide) h (fun _ h => ?_) (fun nq11 h => ?_)
                        · refine lv_aload_n hx hb dX4_countOf_116 rfl (lv_at hl 0 rfl) ?_
                          refine va_get (D := (dC, dI)) (ci := 3) (v := .ref n0) (C := RX4) (T := TX4) (N := 4) hx hb hts iaX4 hown hK hP 0 rfl rfl 0 (by decide) (hts _ q152) (fun _ h9 => h9) rfl dX4_countOf_117 ?_
                          refine va_get (D := (dC, dI)) (ci := 2) (v := .int n_valuesPut) (C := RX3) (T := TX3) (N := 6) hx hb hts iaX3 hown hK hP 1 rfl rfl 5 (by decide) (hts _ q115) (fun _ h9 => h9) rfl dX4_countOf_120 ?_
                          exact g_retRI hx hb hr hlk hS h dX4_countOf_123
                        · skip
                          refine g_arm (v := 12) (off := 123) (tgt := 124) hx hb dX4_countOf_1 (by decide) (by decide) (by decide +kernel) (by decide) h (fun _ h => ?_) (fun nq12 h => ?_)
                          · refine lv_aload_n hx hb dX4_countOf_124 rfl (lv_at hl 0 rfl) ?_
                            refine va_get (D := (dC, dI)) (ci := 3) (v := .ref s0) (C := RX4) (T := TX4) (N := 4) hx hb hts iaX4 hown hK hP 0 rfl rfl 2 (by decide) (hts _ q154) (fun _ h9 => h9) rfl dX4_countOf_125 ?_
                            refine va_get (D := (dC, dI)) (ci := 1) (v := .int s_count) (C := RX2) (T := TX2) (N := 3) hx hb hts iaX2 hown hK hP 9 rfl rfl 2 (by decide) (hts _ q128) (fun _ h9 => h9) rfl dX4_countOf_128 ?_
                            exact g_retRI hx hb hr hlk hS h dX4_countOf_131
                          · skip
                            refine lv_tableOut (tgt := 132) hx hb dX4_countOf_1 (by have zq0 := g_ne (z := 0) (by decide) nq0; have zq1 := g_ne (z := 1) (by decide) nq1; have zq2 := g_ne (z := 2) (by decide) nq2; have zq3 := g_ne (z := 3) (by decide) nq3; have zq4 := g_ne (z := 4) (by decide) nq4; have zq5 := g_ne (z := 5) (by decide) nq5; have zq6 := g_ne (z := 6) (by decide) nq6; have zq7 := g_ne (z := 7) (by decide) nq7; have zq8 := g_ne (z := 8) (by decide) nq8; have zq9 := g_ne (z := 9) (by decide) nq9; have zq10 := g_ne (z := 10) (by decide) nq10; have zq11 := g_ne (z := 11) (by decide) nq11; have zq12 := g_ne (z := 12) (by decide) nq12; omega) (by decide) ?_
                            refine lv_aload_n hx hb dX4_countOf_132 rfl (lv_at hl 0 rfl) ?_
                            refine va_get (D := (dC, dI)) (ci := 3) (v := .ref n0) (C := RX4) (T := TX4) (N := 4) hx hb hts iaX4 hown hK hP 0 rfl rfl 0 (by decide) (hts _ q152) (fun _ h9 => h9) rfl dX4_countOf_133 ?_
                            refine lv_iload_n hx hb dX4_countOf_136 rfl (lv_at hl 1 rfl) ?_
                            refine lv_iconst (v := 1) hx hb dX4_countOf_137 (by decide) ?_
                            refine g_isub hx hb dX4_countOf_138 h (fun z15 h => ?_)
                            obtain ⟨z16, hc139, h⟩ := k_b1_e h
                            refine g_callRI_V (As := [.int z15]) (rest := []) hC (mX3_rowsOfKind l dC dI cyI cyC cyO n0 n1 n2 n3 n_ones n_twos n_settings n_tick n_energy n_valuesPut z15 hc139) q333 q334 q335 q72 q336 1 hdX3_rowsOfKind ⟨Nat.le_of_ble_eq_true rfl, Nat.le_of_ble_eq_true rfl⟩ ⟨Nat.le_of_ble_eq_true rfl, Nat.le_of_ble_eq_true rfl⟩ rfl rfl hl.1 (Nat.le_of_ble_eq_true rfl) (hP.sub (ws' := (wX3 cyI cyC n0 n1 n2 n3 n_ones n_twos n_settings n_tick n_energy n_valuesPut)) [1, 2, 3, 4] rfl) hK (va_recv hK hP (ci := 2) (q0 := 1) rfl rfl) hS dX4_countOf_139 (fun H locs hk hS => ?_)
                            have hP := k_kept hP hk
                            exact g_retRI hx hb hr hlk hS h dX4_countOf_142
def fX4_count (n_ones : Nat → Int32) (n_twos : Nat → Int32) (n_settings : Nat → Int32) (n_tick : Int32) (n_energy : Int32) (n_valuesPut : Int32) (s_count : Int32) (p1 : Int32) : Option (Nat × Int32) :=
  k_b1 (fX4_isIndex p1 13) fun (z1 : Int32) =>
  k_if (z1 = 0) (some (2, 0)) <|
  k_b1 (fX4_countOf n_ones n_twos n_settings n_tick n_energy n_valuesPut s_count p1) fun (z2 : Int32) =>
  some (0, z2)
theorem hdX4_count : yX4_count.cls = RX4 ∧ yX4_count.cls ≠ "java/lang/invoke/MethodHandle" ∧ yX4_count.cls ≠ "java/lang/invoke/VarHandle" ∧ (parseMethodDescriptor yX4_count.desc).map (fun d => d.parameters.length) = some 1 := by decide +kernel
set_option maxRecDepth 100000 in
set_option maxHeartbeats 4000000 in
theorem mX4_count (l : Launch) (dC : Nat → ClassId) (dI : Nat → Nat → Nat) (cyI cyC cyO : ClassId) (hl9 : l.stackTraces = false) (ad : Nat → Nat) (ob : Nat) (n0 : Nat) (n1 : Nat) (n2 : Nat) (n3 : Nat) (t0 : Nat) (t1 : Nat) (t2 : Nat) (t3 : Nat) (s0 : Nat) (aR : Nat) (ro : Nat → Nat) (r1 : Nat → Nat) (r2 : Nat → Nat) (r3 : Nat → Nat) (x0 : Nat) (x1 : Nat) (x2 : Nat) (x3 : Nat) (x4 : Nat) (n_ones : Nat → Int32) (n_twos : Nat → Int32) (n_settings : Nat → Int32) (n_tick : Int32) (n_energy : Int32) (n_valuesPut : Int32) (t_ones : Nat → Int32) (t_twos : Nat → Int32) (t_settings : Nat → Int32) (t_tick : Int32) (t_energy : Int32) (t_valuesPut : Int32) (s_ring : Nat → SV) (s_oldest : Int32) (s_count : Int32) (x_signs : Nat → Int32) (x_length : Int32) (x_position : Int32) (x_complete : Int32) (x_orders : Int32) (x_kinds : Nat → Int32) (x_numbers : Nat → Int32) (x_values : Nat → Int32) (p1 : Int32) {k : Nat} {r : Int32} (hf : fX4_count n_ones n_twos n_settings n_tick n_energy n_valuesPut s_count p1 = some (k, r)) : MetT l yX4_count cX4_count 2 (some .int) 7 113 1 6 [.ref ob, .int p1] (dC, dI) (tyS cyI cyC cyO) (wAll cyI cyC cyO ob n0 n1 n2 n3 t0 t1 t2 t3 s0 aR ro r1 r2 r3 x0 x1 x2 x3 x4 n_ones n_twos n_settings n_tick n_energy n_valuesPut t_ones t_twos t_settings t_tick t_energy t_valuesPut s_ring s_oldest s_count x_signs x_length x_position x_complete x_orders x_kinds x_numbers x_values) (wAll cyI cyC cyO ob n0 n1 n2 n3 t0 t1 t2 t3 s0 aR ro r1 r2 r3 x0 x1 x2 x3 x4 n_ones n_twos n_settings n_tick n_energy n_valuesPut t_ones t_twos t_settings t_tick t_energy t_valuesPut s_ring s_oldest s_count x_signs x_length x_position x_complete x_orders x_kinds x_numbers x_values) ad k r := by
  refine metT_of (by decide) (Nat.le_of_ble_eq_true rfl) ?_
  intro p e s m below meth c ls hC hr hlk hex hP hK hD hE hl
  have hC : CallFix p m c cX4_count 2 s [.ref ob, .int p1].toArray wA RX4 := hC
  obtain ⟨hx, hb, hml, hown, hts⟩ := id hC
  have hS : va_S (k_A (wAll cyI cyC cyO ob n0 n1 n2 n3 t0 t1 t2 t3 s0 aR ro r1 r2 r3 x0 x1 x2 x3 x4 n_ones n_twos n_settings n_tick n_energy n_valuesPut t_ones t_twos t_settings t_tick t_energy t_valuesPut s_ring s_oldest s_count x_signs x_length x_position x_complete x_orders x_kinds x_numbers x_values)) s.heap s.heap [] := va_S.rf
  have hl : lv_has ls 2 [(0, .ref ob), (1, .int p1)] := hl
  have h := hf
  unfold fX4_count at h
  obtain ⟨H, hH⟩ : ∃ H, H = s.heap := ⟨_, rfl⟩
  obtain ⟨locs, hlo⟩ : ∃ locs : List Loc, locs = [] := ⟨_, rfl⟩
  rw [← hH] at hP
  rw [← hlo] at hS
  have hS : va_S (k_A (wAll cyI cyC cyO ob n0 n1 n2 n3 t0 t1 t2 t3 s0 aR ro r1 r2 r3 x0 x1 x2 x3 x4 n_ones n_twos n_settings n_tick n_energy n_valuesPut t_ones t_twos t_settings t_tick t_energy t_valuesPut s_ring s_oldest s_count x_signs x_length x_position x_complete x_orders x_kinds x_numbers x_values)) s.heap H locs := by rw [hH]; exact hS
  show W p l e (k_rmx 7 113 1 6) s m [.ref ob, .int p1].toArray below meth c s.heap [] 0 0 _ _
  rw [← hlo, ← hH]
  refine lv_iload_n hx hb dX4_count_0 rfl (lv_at hl 1 rfl) ?_
  refine lv_bipush (v := 13) hx hb dX4_count_1 (by decide) ?_
  obtain ⟨z1, hc3, h⟩ := k_b1_e h
  refine g_callRI_S (As := [.int p1, .int 13]) (rest := []) hC (mX4_isIndex l dC dI cyI cyC cyO p1 13 hc3) q469 q470 q71 q471 2 hdX4_isIndex ⟨Nat.le_of_ble_eq_true rfl, Nat.le_of_ble_eq_true rfl⟩ ⟨Nat.le_of_ble_eq_true rfl, Nat.le_of_ble_eq_true rfl⟩ rfl rfl hl.1 (Nat.le_of_ble_eq_true rfl) va_P_nil hK hS dX4_count_3 (fun H locs hk hS => ?_)
  have hP := k_kept hP hk
  refine g_req hC hlk hex (mX4_requireArgument l hl9 ad z1) q513 q514 q71 q515 hdX4_requireArgument ⟨Nat.le_of_ble_eq_true rfl, Nat.le_of_ble_eq_true rfl⟩ ⟨Nat.le_of_ble_eq_true rfl, Nat.le_of_ble_eq_true rfl⟩ ⟨Nat.le_of_ble_eq_true rfl, Nat.le_of_ble_eq_true rfl⟩ hl.1 (Nat.le_of_ble_eq_true rfl) hS hE hP dX4_count_6 h (fun h => (k_t2 h).1) (fun H locs h hk hS => ?_) (fun _ => hP)
  have hP := k_kept hP hk
  refine lv_aload_n hx hb dX4_count_9 rfl (lv_at hl 0 rfl) ?_
  refine lv_iload_n hx hb dX4_count_10 rfl (lv_at hl 1 rfl) ?_
  obtain ⟨z2, hc11, h⟩ := k_b1_e h
  refine g_callRI_V (As := [.int p1]) (rest := []) hC (mX4_countOf l dC dI cyI cyC cyO ob n0 n1 n2 n3 t0 t1 t2 t3 s0 aR ro r1 r2 r3 x0 x1 x2 x3 x4 n_ones n_twos n_settings n_tick n_energy n_valuesPut t_ones t_twos t_settings t_tick t_energy t_valuesPut s_ring s_oldest s_count x_signs x_length x_position x_complete x_orders x_kinds x_numbers x_values p1 hc11) q304 q305 q5 q71 q306 1 hdX4_countOf ⟨Nat.le_of_ble_eq_true rfl, Nat.le_of_ble_eq_true rfl⟩ ⟨Nat.le_of_ble_eq_true rfl, Nat.le_of_ble_eq_true rfl⟩ rfl rfl hl.1 (Nat.le_of_ble_eq_true rfl) hP hK (va_recv hK hP (ci := 3) (q0 := 0) rfl rfl) hS dX4_count_11 (fun H locs hk hS => ?_)
  have hP := k_kept hP hk
  obtain ⟨e0, e1⟩ := k_t2 h
  exact g_retT hx hb hr hlk (Nat.le_of_ble_eq_true rfl) (Nat.le_of_ble_eq_true rfl) hS e0 e1 hP dX4_count_14
def fX4_setting (n_settings : Nat → Int32) (p1 : Int32) : Option (Nat × Int32) :=
  k_b1 (fX4_isIndex p1 4) fun (z1 : Int32) =>
  k_if (z1 = 0) (some (1, 0)) <|
  k_ck p1 4 <| k_let (n_settings p1.toNatClampNeg) fun (z2 : Int32) =>
  some (0, z2)
theorem hdX4_setting : yX4_setting.cls = RX4 ∧ yX4_setting.cls ≠ "java/lang/invoke/MethodHandle" ∧ yX4_setting.cls ≠ "java/lang/invoke/VarHandle" ∧ (parseMethodDescriptor yX4_setting.desc).map (fun d => d.parameters.length) = some 1 := by decide +kernel
set_option maxRecDepth 100000 in
set_option maxHeartbeats 4000000 in
theorem mX4_setting (l : Launch) (dC : Nat → ClassId) (dI : Nat → Nat → Nat) (cyI cyC cyO : ClassId) (hl9 : l.stackTraces = false) (ad : Nat → Nat) (ob : Nat) (n0 : Nat) (n1 : Nat) (n2 : Nat) (n3 : Nat) (t0 : Nat) (t1 : Nat) (t2 : Nat) (t3 : Nat) (s0 : Nat) (aR : Nat) (ro : Nat → Nat) (r1 : Nat → Nat) (r2 : Nat → Nat) (r3 : Nat → Nat) (x0 : Nat) (x1 : Nat) (x2 : Nat) (x3 : Nat) (x4 : Nat) (n_ones : Nat → Int32) (n_twos : Nat → Int32) (n_settings : Nat → Int32) (n_tick : Int32) (n_energy : Int32) (n_valuesPut : Int32) (t_ones : Nat → Int32) (t_twos : Nat → Int32) (t_settings : Nat → Int32) (t_tick : Int32) (t_energy : Int32) (t_valuesPut : Int32) (s_ring : Nat → SV) (s_oldest : Int32) (s_count : Int32) (x_signs : Nat → Int32) (x_length : Int32) (x_position : Int32) (x_complete : Int32) (x_orders : Int32) (x_kinds : Nat → Int32) (x_numbers : Nat → Int32) (x_values : Nat → Int32) (p1 : Int32) {k : Nat} {r : Int32} (hf : fX4_setting n_settings p1 = some (k, r)) : MetT l yX4_setting cX4_setting 2 (some .int) 7 102 1 6 [.ref ob, .int p1] (dC, dI) (tyS cyI cyC cyO) (wAll cyI cyC cyO ob n0 n1 n2 n3 t0 t1 t2 t3 s0 aR ro r1 r2 r3 x0 x1 x2 x3 x4 n_ones n_twos n_settings n_tick n_energy n_valuesPut t_ones t_twos t_settings t_tick t_energy t_valuesPut s_ring s_oldest s_count x_signs x_length x_position x_complete x_orders x_kinds x_numbers x_values) (wAll cyI cyC cyO ob n0 n1 n2 n3 t0 t1 t2 t3 s0 aR ro r1 r2 r3 x0 x1 x2 x3 x4 n_ones n_twos n_settings n_tick n_energy n_valuesPut t_ones t_twos t_settings t_tick t_energy t_valuesPut s_ring s_oldest s_count x_signs x_length x_position x_complete x_orders x_kinds x_numbers x_values) ad k r := by
  refine metT_of (by decide) (Nat.le_of_ble_eq_true rfl) ?_
  intro p e s m below meth c ls hC hr hlk hex hP hK hD hE hl
  have hC : CallFix p m c cX4_setting 2 s [.ref ob, .int p1].toArray wA RX4 := hC
  obtain ⟨hx, hb, hml, hown, hts⟩ := id hC
  have hS : va_S (k_A (wAll cyI cyC cyO ob n0 n1 n2 n3 t0 t1 t2 t3 s0 aR ro r1 r2 r3 x0 x1 x2 x3 x4 n_ones n_twos n_settings n_tick n_energy n_valuesPut t_ones t_twos t_settings t_tick t_energy t_valuesPut s_ring s_oldest s_count x_signs x_length x_position x_complete x_orders x_kinds x_numbers x_values)) s.heap s.heap [] := va_S.rf
  have hl : lv_has ls 2 [(0, .ref ob), (1, .int p1)] := hl
  have h := hf
  unfold fX4_setting at h
  obtain ⟨H, hH⟩ : ∃ H, H = s.heap := ⟨_, rfl⟩
  obtain ⟨locs, hlo⟩ : ∃ locs : List Loc, locs = [] := ⟨_, rfl⟩
  rw [← hH] at hP
  rw [← hlo] at hS
  have hS : va_S (k_A (wAll cyI cyC cyO ob n0 n1 n2 n3 t0 t1 t2 t3 s0 aR ro r1 r2 r3 x0 x1 x2 x3 x4 n_ones n_twos n_settings n_tick n_energy n_valuesPut t_ones t_twos t_settings t_tick t_energy t_valuesPut s_ring s_oldest s_count x_signs x_length x_position x_complete x_orders x_kinds x_numbers x_values)) s.heap H locs := by rw [hH]; exact hS
  show W p l e (k_rmx 7 102 1 6) s m [.ref ob, .int p1].toArray below meth c s.heap [] 0 0 _ _
  rw [← hlo, ← hH]
  refine lv_iload_n hx hb dX4_setting_0 rfl (lv_at hl 1 rfl) ?_
  refine lv_iconst (v := 4) hx hb dX4_setting_1 (by decide) ?_
  obtain ⟨z1, hc2, h⟩ := k_b1_e h
  refine g_callRI_S (As := [.int p1, .int 4]) (rest := []) hC (mX4_isIndex l dC dI cyI cyC cyO p1 4 hc2) q469 q470 q71 q471 2 hdX4_isIndex ⟨Nat.le_of_ble_eq_true rfl, Nat.le_of_ble_eq_true rfl⟩ ⟨Nat.le_of_ble_eq_true rfl, Nat.le_of_ble_eq_true rfl⟩ rfl rfl hl.1 (Nat.le_of_ble_eq_true rfl) va_P_nil hK hS dX4_setting_2 (fun H locs hk hS => ?_)
  have hP := k_kept hP hk
  refine g_req hC hlk hex (mX4_requireIndex l hl9 ad z1) q472 q473 q71 q474 hdX4_requireIndex ⟨Nat.le_of_ble_eq_true rfl, Nat.le_of_ble_eq_true rfl⟩ ⟨Nat.le_of_ble_eq_true rfl, Nat.le_of_ble_eq_true rfl⟩ ⟨Nat.le_of_ble_eq_true rfl, Nat.le_of_ble_eq_true rfl⟩ hl.1 (Nat.le_of_ble_eq_true rfl) hS hE hP dX4_setting_5 h (fun h => (k_t2 h).1) (fun H locs h hk hS => ?_) (fun _ => hP)
  have hP := k_kept hP hk
  refine lv_aload_n hx hb dX4_setting_8 rfl (lv_at hl 0 rfl) ?_
  refine va_get (D := (dC, dI)) (ci := 3) (v := .ref n0) (C := RX4) (T := TX4) (N := 4) hx hb hts iaX4 hown hK hP 0 rfl rfl 0 (by decide) (hts _ q152) (fun _ h9 => h9) rfl dX4_setting_9 ?_
  refine va_get (D := (dC, dI)) (ci := 2) (v := .ref n3) (C := RX3) (T := TX3) (N := 6) hx hb hts iaX3 hown hK hP 1 rfl rfl 2 (by decide) (hts _ q109) (fun _ h9 => h9) rfl dX4_setting_12 ?_
  refine lv_iload_n hx hb dX4_setting_15 rfl (lv_at hl 1 rfl) ?_
  refine g_iald hx hb hK hP 4 0 rfl rfl dX4_setting_16 h (fun z2 h => ?_)
  obtain ⟨e0, e1⟩ := k_t2 h
  exact g_retT hx hb hr hlk (Nat.le_of_ble_eq_true rfl) (Nat.le_of_ble_eq_true rfl) hS e0 e1 hP dX4_setting_17
def fX4_putOutcome (n_ones : Nat → Int32) (n_twos : Nat → Int32) (n_settings : Nat → Int32) (n_tick : Int32) (n_energy : Int32) (n_valuesPut : Int32) (t_ones : Nat → Int32) (t_twos : Nat → Int32) (t_settings : Nat → Int32) (t_tick : Int32) (t_energy : Int32) (t_valuesPut : Int32) (p1 : Int32) (p2 : Int32) (p3 : Int32) : Option (Int32 × (Nat → Int32) × (Nat → Int32) × (Nat → Int32) × Int32 × Int32 × Int32) :=
  k_b1 (fX3_nextRow n_ones n_twos n_settings n_tick) fun (z1 : Int32) =>
  k_if (z1 = ((-1)))
  (
    some ((-1), t_ones, t_twos, t_settings, t_tick, t_energy, t_valuesPut))
  (
    k_b6 (fX3_copyFrom t_ones t_twos t_settings t_tick t_energy t_valuesPut n_ones n_twos n_settings n_tick n_energy n_valuesPut) fun (c2 : Nat → Int32) (c3 : Nat → Int32) (c4 : Nat → Int32) (c5 : Int32) (c6 : Int32) (c7 : Int32) =>
    k_b4 (fX3_writeEntry c2 c3 c4 c5 c6 z1 p1 p2) fun (z8 : Int32) (c9 : Nat → Int32) (c10 : Nat → Int32) (c11 : Int32) =>
    k_b4 (fX3_markEarlier c9 c10 c4 c5 c11 z1 p1) fun (z12 : Int32) (c13 : Nat → Int32) (c14 : Nat → Int32) (c15 : Int32) =>
    k_if (p3 = 0)
    (
      some (z8, c13, c14, c4, c5, c15, c7))
    (
      k_if (p3 = 1)
      (
        k_b1 (fX3_kind c13 c14 c4 c5 z1) fun (z16 : Int32) =>
        some (z16, c13, c14, c4, c5, c15, c7))
      (
        k_if (p3 = 2)
        (
          k_let (c15 - n_energy) fun (z17 : Int32) =>
          some (z17, c13, c14, c4, c5, c15, c7))
        (
          k_if (p3 = 3)
          (
            k_b1 (fX3_valueOfKey c13 c14 c4 c5 p1) fun (z18 : Int32) =>
            some (z18, c13, c14, c4, c5, c15, c7))
          (
            some (z12, c13, c14, c4, c5, c15, c7))))))
theorem hdX4_putOutcome : yX4_putOutcome.cls = RX4 ∧ yX4_putOutcome.cls ≠ "java/lang/invoke/MethodHandle" ∧ yX4_putOutcome.cls ≠ "java/lang/invoke/VarHandle" ∧ (parseMethodDescriptor yX4_putOutcome.desc).map (fun d => d.parameters.length) = some 3 := by decide +kernel
set_option maxRecDepth 100000 in
set_option maxHeartbeats 4000000 in
theorem mX4_putOutcome (l : Launch) (dC : Nat → ClassId) (dI : Nat → Nat → Nat) (cyI cyC cyO : ClassId) (ob : Nat) (n0 : Nat) (n1 : Nat) (n2 : Nat) (n3 : Nat) (t0 : Nat) (t1 : Nat) (t2 : Nat) (t3 : Nat) (s0 : Nat) (aR : Nat) (ro : Nat → Nat) (r1 : Nat → Nat) (r2 : Nat → Nat) (r3 : Nat → Nat) (x0 : Nat) (x1 : Nat) (x2 : Nat) (x3 : Nat) (x4 : Nat) (n_ones : Nat → Int32) (n_twos : Nat → Int32) (n_settings : Nat → Int32) (n_tick : Int32) (n_energy : Int32) (n_valuesPut : Int32) (t_ones : Nat → Int32) (t_twos : Nat → Int32) (t_settings : Nat → Int32) (t_tick : Int32) (t_energy : Int32) (t_valuesPut : Int32) (s_ring : Nat → SV) (s_oldest : Int32) (s_count : Int32) (x_signs : Nat → Int32) (x_length : Int32) (x_position : Int32) (x_complete : Int32) (x_orders : Int32) (x_kinds : Nat → Int32) (x_numbers : Nat → Int32) (x_values : Nat → Int32) (p1 : Int32) (p2 : Int32) (p3 : Int32) {r : Int32} {r_t_ones : Nat → Int32} {r_t_twos : Nat → Int32} {r_t_settings : Nat → Int32} {r_t_tick : Int32} {r_t_energy : Int32} {r_t_valuesPut : Int32} (hf : fX4_putOutcome n_ones n_twos n_settings n_tick n_energy n_valuesPut t_ones t_twos t_settings t_tick t_energy t_valuesPut p1 p2 p3 = some (r, r_t_ones, r_t_twos, r_t_settings, r_t_tick, r_t_energy, r_t_valuesPut)) : MetMI l yX4_putOutcome cX4_putOutcome 7 (some .int) 5 111 [.ref ob, .int p1, .int p2, .int p3] (dC, dI) (tyS cyI cyC cyO) (wAll cyI cyC cyO ob n0 n1 n2 n3 t0 t1 t2 t3 s0 aR ro r1 r2 r3 x0 x1 x2 x3 x4 n_ones n_twos n_settings n_tick n_energy n_valuesPut t_ones t_twos t_settings t_tick t_energy t_valuesPut s_ring s_oldest s_count x_signs x_length x_position x_complete x_orders x_kinds x_numbers x_values) (wAll cyI cyC cyO ob n0 n1 n2 n3 t0 t1 t2 t3 s0 aR ro r1 r2 r3 x0 x1 x2 x3 x4 n_ones n_twos n_settings n_tick n_energy n_valuesPut r_t_ones r_t_twos r_t_settings r_t_tick r_t_energy r_t_valuesPut s_ring s_oldest s_count x_signs x_length x_position x_complete x_orders x_kinds x_numbers x_values) r := by
  refine metMI_of (by decide) (Nat.le_of_ble_eq_true rfl) ?_
  intro p e s m below meth c ls hC hr hlk hP hK hD hl
  have hC : CallFix p m c cX4_putOutcome 7 s [.ref ob, .int p1, .int p2, .int p3].toArray wA RX4 := hC
  obtain ⟨hx, hb, hml, hown, hts⟩ := id hC
  have hS : va_S (k_A (wAll cyI cyC cyO ob n0 n1 n2 n3 t0 t1 t2 t3 s0 aR ro r1 r2 r3 x0 x1 x2 x3 x4 n_ones n_twos n_settings n_tick n_energy n_valuesPut t_ones t_twos t_settings t_tick t_energy t_valuesPut s_ring s_oldest s_count x_signs x_length x_position x_complete x_orders x_kinds x_numbers x_values)) s.heap s.heap [] := va_S.rf
  have hl : lv_has ls 7 [(0, .ref ob), (1, .int p1), (2, .int p2), (3, .int p3)] := hl
  have h := hf
  unfold fX4_putOutcome at h
  obtain ⟨H, hH⟩ : ∃ H, H = s.heap := ⟨_, rfl⟩
  obtain ⟨locs, hlo⟩ : ∃ locs : List Loc, locs = [] := ⟨_, rfl⟩
  rw [← hH] at hP
  rw [← hlo] at hS
  have hS : va_S (k_A (wAll cyI cyC cyO ob n0 n1 n2 n3 t0 t1 t2 t3 s0 aR ro r1 r2 r3 x0 x1 x2 x3 x4 n_ones n_twos n_settings n_tick n_energy n_valuesPut t_ones t_twos t_settings t_tick t_energy t_valuesPut s_ring s_oldest s_count x_signs x_length x_position x_complete x_orders x_kinds x_numbers x_values)) s.heap H locs := by rw [hH]; exact hS
  show W p l e (k_rm 5 111) s m [.ref ob, .int p1, .int p2, .int p3].toArray below meth c s.heap [] 0 0 _ _
  rw [← hlo, ← hH]
  refine lv_aload_n hx hb dX4_putOutcome_0 rfl (lv_at hl 0 rfl) ?_
  refine va_get (D := (dC, dI)) (ci := 3) (v := .ref n0) (C := RX4) (T := TX4) (N := 4) hx hb hts iaX4 hown hK hP 0 rfl rfl 0 (by decide) (hts _ q152) (fun _ h9 => h9) rfl dX4_putOutcome_1 ?_
  obtain ⟨z1, hc4, h⟩ := k_b1_e h
  refine g_callRI_V (As := []) (rest := []) hC (mX3_nextRow l dC dI cyI cyC cyO n0 n1 n2 n3 n_ones n_twos n_settings n_tick n_energy n_valuesPut hc4) q328 q329 q330 q72 q331 0 hdX3_nextRow ⟨Nat.le_of_ble_eq_true rfl, Nat.le_of_ble_eq_true rfl⟩ ⟨Nat.le_of_ble_eq_true rfl, Nat.le_of_ble_eq_true rfl⟩ rfl rfl hl.1 (Nat.le_of_ble_eq_true rfl) (hP.sub (ws' := (wX3 cyI cyC n0 n1 n2 n3 n_ones n_twos n_settings n_tick n_energy n_valuesPut)) [1, 2, 3, 4] rfl) hK (va_recv hK hP (ci := 2) (q0 := 1) rfl rfl) hS dX4_putOutcome_4 (fun H locs hk hS => ?_)
  have hP := k_kept hP hk
  refine lv_istore (lv' := [(4, .int z1), (0, .ref ob), (1, .int p1), (2, .int p2), (3, .int p3)]) hx hb dX4_putOutcome_7 hl (by decide) rfl (fun ls hl => ?_)
  refine lv_iload hx hb dX4_putOutcome_9 (lv_at hl 0 rfl) ?_
  refine lv_iconst (v := (-1)) hx hb dX4_putOutcome_11 (by decide) ?_
  refine g_icmp_ne (tgt := 17) hx hb dX4_putOutcome_12 (by decide) h (fun h => ?_) (fun h => ?_)
  · refine lv_aload_n hx hb dX4_putOutcome_17 rfl (lv_at hl 1 rfl) ?_
    refine va_get (D := (dC, dI)) (ci := 3) (v := .ref t0) (C := RX4) (T := TX4) (N := 4) hx hb hts iaX4 hown hK hP 0 rfl rfl 1 (by decide) (hts _ q153) (fun _ h9 => h9) rfl dX4_putOutcome_18 ?_
    refine lv_aload_n hx hb dX4_putOutcome_21 rfl (lv_at hl 1 rfl) ?_
    refine va_get (D := (dC, dI)) (ci := 3) (v := .ref n0) (C := RX4) (T := TX4) (N := 4) hx hb hts iaX4 hown hK hP 0 rfl rfl 0 (by decide) (hts _ q152) (fun _ h9 => h9) rfl dX4_putOutcome_22 ?_
    obtain ⟨c2, c3, c4, c5, c6, c7, hc25, h⟩ := k_b6_e h
    refine g_callMV_V (As := [.ref n0]) (rest := []) hC (mX3_copyFrom l dC dI cyI cyC cyO t0 t1 t2 t3 n0 n1 n2 n3 t_ones t_twos t_settings t_tick t_energy t_valuesPut n_ones n_twos n_settings n_tick n_energy n_valuesPut hc25) q400 q401 q402 q72 q403 1 hdX3_copyFrom ⟨Nat.le_of_ble_eq_true rfl, Nat.le_of_ble_eq_true rfl⟩ ⟨Nat.le_of_ble_eq_true rfl, Nat.le_of_ble_eq_true rfl⟩ rfl rfl hl.1 (Nat.le_of_ble_eq_true rfl) (hP.sub (ws' := (wX3 cyI cyC t0 t1 t2 t3 t_ones t_twos t_settings t_tick t_energy t_valuesPut) ++ (wX3 cyI cyC n0 n1 n2 n3 n_ones n_twos n_settings n_tick n_energy n_valuesPut)) [5, 6, 7, 8, 1, 2, 3, 4] rfl) hK (hD.sub (ws' := (wX3 cyI cyC t0 t1 t2 t3 t_ones t_twos t_settings t_tick t_energy t_valuesPut) ++ (wX3 cyI cyC n0 n1 n2 n3 n_ones n_twos n_settings n_tick n_energy n_valuesPut)) [5, 6, 7, 8, 1, 2, 3, 4] (by decide) rfl) (va_recv hK hP (ci := 2) (q0 := 5) rfl rfl) hS dX4_putOutcome_25 (fun H locs hPn hk hS => ?_)
    have hP : va_P (dC, dI) vwCl (wAll cyI cyC cyO ob n0 n1 n2 n3 t0 t1 t2 t3 s0 aR ro r1 r2 r3 x0 x1 x2 x3 x4 n_ones n_twos n_settings n_tick n_energy n_valuesPut c2 c3 c4 c5 c6 c7 s_ring s_oldest s_count x_signs x_length x_position x_complete x_orders x_kinds x_numbers x_values) H := k_repl hP hD [5, 6, 7, 8, 1, 2, 3, 4] rfl hk hPn [.inl 0, .inr 4, .inr 5, .inr 6, .inr 7, .inr 0, .inr 1, .inr 2, .inr 3, .inl 9, .inl 10, .inl 11, .inl 12, .inl 13, .inl 14, .inl 15, .inl 16, .inl 17, .inl 18, .inl 19, .inl 20, .inl 21, .inl 22, .inl 23, .inl 24, .inl 25, .inl 26, .inl 27, .inl 28, .inl 29, .inl 30, .inl 31, .inl 32, .inl 33, .inl 34, .inl 35, .inl 36, .inl 37, .inl 38, .inl 39] rfl (by decide)
    have hD : va_D (k_A (wAll cyI cyC cyO ob n0 n1 n2 n3 t0 t1 t2 t3 s0 aR ro r1 r2 r3 x0 x1 x2 x3 x4 n_ones n_twos n_settings n_tick n_energy n_valuesPut t_ones t_twos t_settings t_tick t_energy t_valuesPut s_ring s_oldest s_count x_signs x_length x_position x_complete x_orders x_kinds x_numbers x_values)) (wAll cyI cyC cyO ob n0 n1 n2 n3 t0 t1 t2 t3 s0 aR ro r1 r2 r3 x0 x1 x2 x3 x4 n_ones n_twos n_settings n_tick n_energy n_valuesPut c2 c3 c4 c5 c6 c7 s_ring s_oldest s_count x_signs x_length x_position x_complete x_orders x_kinds x_numbers x_values) := k_Dm hD rfl
    refine lv_aload_n hx hb dX4_putOutcome_28 rfl (lv_at hl 1 rfl) ?_
    refine va_get (D := (dC, dI)) (ci := 3) (v := .ref t0) (C := RX4) (T := TX4) (N := 4) hx hb hts iaX4 hown hK hP 0 rfl rfl 1 (by decide) (hts _ q153) (fun _ h9 => h9) rfl dX4_putOutcome_29 ?_
    refine lv_iload hx hb dX4_putOutcome_32 (lv_at hl 0 rfl) ?_
    refine lv_iload_n hx hb dX4_putOutcome_34 rfl (lv_at hl 2 rfl) ?_
    refine lv_iload_n hx hb dX4_putOutcome_35 rfl (lv_at hl 3 rfl) ?_
    obtain ⟨z8, c9, c10, c11, hc36, h⟩ := k_b4_e h
    refine g_callMI_V (As := [.int z1, .int p1, .int p2]) (rest := []) hC (mX3_writeEntry l dC dI cyI cyC cyO t0 t1 t2 t3 c2 c3 c4 c5 c6 c7 z1 p1 p2 hc36) q407 q408 q409 q72 q410 3 hdX3_writeEntry ⟨Nat.le_of_ble_eq_true rfl, Nat.le_of_ble_eq_true rfl⟩ ⟨Nat.le_of_ble_eq_true rfl, Nat.le_of_ble_eq_true rfl⟩ rfl rfl hl.1 (Nat.le_of_ble_eq_true rfl) (hP.sub (ws' := (wX3 cyI cyC t0 t1 t2 t3 c2 c3 c4 c5 c6 c7)) [5, 6, 7, 8] rfl) hK (hD.sub (ws' := (wX3 cyI cyC t0 t1 t2 t3 c2 c3 c4 c5 c6 c7)) [5, 6, 7, 8] (by decide) rfl) (va_recv hK hP (ci := 2) (q0 := 5) rfl rfl) hS dX4_putOutcome_36 (fun H locs hPn hk hS => ?_)
    have hP : va_P (dC, dI) vwCl (wAll cyI cyC cyO ob n0 n1 n2 n3 t0 t1 t2 t3 s0 aR ro r1 r2 r3 x0 x1 x2 x3 x4 n_ones n_twos n_settings n_tick n_energy n_valuesPut c9 c10 c4 c5 c11 c7 s_ring s_oldest s_count x_signs x_length x_position x_complete x_orders x_kinds x_numbers x_values) H := k_repl hP hD [5, 6, 7, 8] rfl hk hPn [.inl 0, .inl 1, .inl 2, .inl 3, .inl 4, .inr 0, .inr 1, .inr 2, .inr 3, .inl 9, .inl 10, .inl 11, .inl 12, .inl 13, .inl 14, .inl 15, .inl 16, .inl 17, .inl 18, .inl 19, .inl 20, .inl 21, .inl 22, .inl 23, .inl 24, .inl 25, .inl 26, .inl 27, .inl 28, .inl 29, .inl 30, .inl 31, .inl 32, .inl 33, .inl 34, .inl 35, .inl 36, .inl 37, .inl 38, .inl 39] rfl (by decide)
    have hD : va_D (k_A (wAll cyI cyC cyO ob n0 n1 n2 n3 t0 t1 t2 t3 s0 aR ro r1 r2 r3 x0 x1 x2 x3 x4 n_ones n_twos n_settings n_tick n_energy n_valuesPut t_ones t_twos t_settings t_tick t_energy t_valuesPut s_ring s_oldest s_count x_signs x_length x_position x_complete x_orders x_kinds x_numbers x_values)) (wAll cyI cyC cyO ob n0 n1 n2 n3 t0 t1 t2 t3 s0 aR ro r1 r2 r3 x0 x1 x2 x3 x4 n_ones n_twos n_settings n_tick n_energy n_valuesPut c9 c10 c4 c5 c11 c7 s_ring s_oldest s_count x_signs x_length x_position x_complete x_orders x_kinds x_numbers x_values) := k_Dm hD rfl
    refine lv_istore (lv' := [(5, .int z8), (4, .int z1), (0, .ref ob), (1, .int p1), (2, .int p2), (3, .int p3)]) hx hb dX4_putOutcome_39 hl (by decide) rfl (fun ls hl => ?_)
    refine lv_aload_n hx hb dX4_putOutcome_41 rfl (lv_at hl 2 rfl) ?_
    refine va_get (D := (dC, dI)) (ci := 3) (v := .ref t0) (C := RX4) (T := TX4) (N := 4) hx hb hts iaX4 hown hK hP 0 rfl rfl 1 (by decide) (hts _ q153) (fun _ h9 => h9) rfl dX4_putOutcome_42 ?_
    refine lv_iload hx hb dX4_putOutcome_45 (lv_at hl 1 rfl) ?_
    refine lv_iload_n hx hb dX4_putOutcome_47 rfl (lv_at hl 3 rfl) ?_
    obtain ⟨z12, c13, c14, c15, hc48, h⟩ := k_b4_e h
    refine g_callMI_V (As := [.int z1, .int p1]) (rest := []) hC (mX3_markEarlier l dC dI cyI cyC cyO t0 t1 t2 t3 c9 c10 c4 c5 c11 c7 z1 p1 hc48) q432 q433 q434 q72 q435 2 hdX3_markEarlier ⟨Nat.le_of_ble_eq_true rfl, Nat.le_of_ble_eq_true rfl⟩ ⟨Nat.le_of_ble_eq_true rfl, Nat.le_of_ble_eq_true rfl⟩ rfl rfl hl.1 (Nat.le_of_ble_eq_true rfl) (hP.sub (ws' := (wX3 cyI cyC t0 t1 t2 t3 c9 c10 c4 c5 c11 c7)) [5, 6, 7, 8] rfl) hK (hD.sub (ws' := (wX3 cyI cyC t0 t1 t2 t3 c9 c10 c4 c5 c11 c7)) [5, 6, 7, 8] (by decide) rfl) (va_recv hK hP (ci := 2) (q0 := 5) rfl rfl) hS dX4_putOutcome_48 (fun H locs hPn hk hS => ?_)
    have hP : va_P (dC, dI) vwCl (wAll cyI cyC cyO ob n0 n1 n2 n3 t0 t1 t2 t3 s0 aR ro r1 r2 r3 x0 x1 x2 x3 x4 n_ones n_twos n_settings n_tick n_energy n_valuesPut c13 c14 c4 c5 c15 c7 s_ring s_oldest s_count x_signs x_length x_position x_complete x_orders x_kinds x_numbers x_values) H := k_repl hP hD [5, 6, 7, 8] rfl hk hPn [.inl 0, .inl 1, .inl 2, .inl 3, .inl 4, .inr 0, .inr 1, .inr 2, .inr 3, .inl 9, .inl 10, .inl 11, .inl 12, .inl 13, .inl 14, .inl 15, .inl 16, .inl 17, .inl 18, .inl 19, .inl 20, .inl 21, .inl 22, .inl 23, .inl 24, .inl 25, .inl 26, .inl 27, .inl 28, .inl 29, .inl 30, .inl 31, .inl 32, .inl 33, .inl 34, .inl 35, .inl 36, .inl 37, .inl 38, .inl 39] rfl (by decide)
    have hD : va_D (k_A (wAll cyI cyC cyO ob n0 n1 n2 n3 t0 t1 t2 t3 s0 aR ro r1 r2 r3 x0 x1 x2 x3 x4 n_ones n_twos n_settings n_tick n_energy n_valuesPut t_ones t_twos t_settings t_tick t_energy t_valuesPut s_ring s_oldest s_count x_signs x_length x_position x_complete x_orders x_kinds x_numbers x_values)) (wAll cyI cyC cyO ob n0 n1 n2 n3 t0 t1 t2 t3 s0 aR ro r1 r2 r3 x0 x1 x2 x3 x4 n_ones n_twos n_settings n_tick n_energy n_valuesPut c13 c14 c4 c5 c15 c7 s_ring s_oldest s_count x_signs x_length x_position x_complete x_orders x_kinds x_numbers x_values) := k_Dm hD rfl
    refine lv_istore (lv' := [(6, .int z12), (5, .int z8), (4, .int z1), (0, .ref ob), (1, .int p1), (2, .int p2), (3, .int p3)]) hx hb dX4_putOutcome_51 hl (by decide) rfl (fun ls hl => ?_)
    refine lv_iload_n hx hb dX4_putOutcome_53 rfl (lv_at hl 6 rfl) ?_
    refine g_arm (v := 0) (off := 30) (tgt := 84) hx hb dX4_putOutcome_54 (by decide) (by decide) (by decide +kernel) (by decide) h (fun _ h => ?_) (fun nq0 h => ?_)
    · refine lv_iload hx hb dX4_putOutcome_84 (lv_at hl 1 rfl) ?_
      obtain ⟨e0, e1, e2, e3, e4, e5, e6⟩ := k_t7 h
      exact g_retMI hx hb hr hlk hS e0 (by rw [← e1, ← e2, ← e3, ← e4, ← e5, ← e6]; exact hP) dX4_putOutcome_86
    · skip
      refine g_arm (v := 1) (off := 33) (tgt := 87) hx hb dX4_putOutcome_54 (by decide) (by decide) (by decide +kernel) (by decide) h (fun _ h => ?_) (fun nq1 h => ?_)
      · refine lv_aload_n hx hb dX4_putOutcome_87 rfl (lv_at hl 3 rfl) ?_
        refine va_get (D := (dC, dI)) (ci := 3) (v := .ref t0) (C := RX4) (T := TX4) (N := 4) hx hb hts iaX4 hown hK hP 0 rfl rfl 1 (by decide) (hts _ q153) (fun _ h9 => h9) rfl dX4_putOutcome_88 ?_
        refine lv_iload hx hb dX4_putOutcome_91 (lv_at hl 2 rfl) ?_
        obtain ⟨z16, hc93, h⟩ := k_b1_e h
        refine g_callRI_V (As := [.int z1]) (rest := []) hC (mX3_kind l dC dI cyI cyC cyO t0 t1 t2 t3 c13 c14 c4 c5 c15 c7 z1 hc93) q274 q275 q276 q72 q277 1 hdX3_kind ⟨Nat.le_of_ble_eq_true rfl, Nat.le_of_ble_eq_true rfl⟩ ⟨Nat.le_of_ble_eq_true rfl, Nat.le_of_ble_eq_true rfl⟩ rfl rfl hl.1 (Nat.le_of_ble_eq_true rfl) (hP.sub (ws' := (wX3 cyI cyC t0 t1 t2 t3 c13 c14 c4 c5 c15 c7)) [5, 6, 7, 8] rfl) hK (va_recv hK hP (ci := 2) (q0 := 5) rfl rfl) hS dX4_putOutcome_93 (fun H locs hk hS => ?_)
        have hP := k_kept hP hk
        obtain ⟨e0, e1, e2, e3, e4, e5, e6⟩ := k_t7 h
        exact g_retMI hx hb hr hlk hS e0 (by rw [← e1, ← e2, ← e3, ← e4, ← e5, ← e6]; exact hP) dX4_putOutcome_96
      · skip
        refine g_arm (v := 2) (off := 43) (tgt := 97) hx hb dX4_putOutcome_54 (by decide) (by decide) (by decide +kernel) (by decide) h (fun _ h => ?_) (fun nq2 h => ?_)
        · refine lv_aload_n hx hb dX4_putOutcome_97 rfl (lv_at hl 3 rfl) ?_
          refine va_get (D := (dC, dI)) (ci := 3) (v := .ref t0) (C := RX4) (T := TX4) (N := 4) hx hb hts iaX4 hown hK hP 0 rfl rfl 1 (by decide) (hts _ q153) (fun _ h9 => h9) rfl dX4_putOutcome_98 ?_
          refine va_get (D := (dC, dI)) (ci := 2) (v := .int c15) (C := RX3) (T := TX3) (N := 6) hx hb hts iaX3 hown hK hP 5 rfl rfl 4 (by decide) (hts _ q113) (fun _ h9 => h9) rfl dX4_putOutcome_101 ?_
          refine lv_aload_n hx hb dX4_putOutcome_104 rfl (lv_at hl 3 rfl) ?_
          refine va_get (D := (dC, dI)) (ci := 3) (v := .ref n0) (C := RX4) (T := TX4) (N := 4) hx hb hts iaX4 hown hK hP 0 rfl rfl 0 (by decide) (hts _ q152) (fun _ h9 => h9) rfl dX4_putOutcome_105 ?_
          refine va_get (D := (dC, dI)) (ci := 2) (v := .int n_energy) (C := RX3) (T := TX3) (N := 6) hx hb hts iaX3 hown hK hP 1 rfl rfl 4 (by decide) (hts _ q113) (fun _ h9 => h9) rfl dX4_putOutcome_108 ?_
          refine g_isub hx hb dX4_putOutcome_111 h (fun z17 h => ?_)
          obtain ⟨e0, e1, e2, e3, e4, e5, e6⟩ := k_t7 h
          exact g_retMI hx hb hr hlk hS e0 (by rw [← e1, ← e2, ← e3, ← e4, ← e5, ← e6]; exact hP) dX4_putOutcome_112
        · skip
          refine g_arm (v := 3) (off := 59) (tgt := 113) hx hb dX4_putOutcome_54 (by decide) (by decide) (by decide +kernel) (by decide) h (fun _ h => ?_) (fun nq3 h => ?_)
          · refine lv_aload_n hx hb dX4_putOutcome_113 rfl (lv_at hl 3 rfl) ?_
            refine va_get (D := (dC, dI)) (ci := 3) (v := .ref t0) (C := RX4) (T := TX4) (N := 4) hx hb hts iaX4 hown hK hP 0 rfl rfl 1 (by decide) (hts _ q153) (fun _ h9 => h9) rfl dX4_putOutcome_114 ?_
            refine lv_iload_n hx hb dX4_putOutcome_117 rfl (lv_at hl 4 rfl) ?_
            obtain ⟨z18, hc118, h⟩ := k_b1_e h
            refine g_callRI_V (As := [.int p1]) (rest := []) hC (mX3_valueOfKey l dC dI cyI cyC cyO t0 t1 t2 t3 c13 c14 c4 c5 c15 c7 p1 hc118) q361 q362 q363 q72 q364 1 hdX3_valueOfKey ⟨Nat.le_of_ble_eq_true rfl, Nat.le_of_ble_eq_true rfl⟩ ⟨Nat.le_of_ble_eq_true rfl, Nat.le_of_ble_eq_true rfl⟩ rfl rfl hl.1 (Nat.le_of_ble_eq_true rfl) (hP.sub (ws' := (wX3 cyI cyC t0 t1 t2 t3 c13 c14 c4 c5 c15 c7)) [5, 6, 7, 8] rfl) hK (va_recv hK hP (ci := 2) (q0 := 5) rfl rfl) hS dX4_putOutcome_118 (fun H locs hk hS => ?_)
            have hP := k_kept hP hk
            obtain ⟨e0, e1, e2, e3, e4, e5, e6⟩ := k_t7 h
            exact g_retMI hx hb hr hlk hS e0 (by rw [← e1, ← e2, ← e3, ← e4, ← e5, ← e6]; exact hP) dX4_putOutcome_121
          · skip
            refine lv_tableOut (tgt := 122) hx hb dX4_putOutcome_54 (by have zq0 := g_ne (z := 0) (by decide) nq0; have zq1 := g_ne (z := 1) (by decide) nq1; have zq2 := g_ne (z := 2) (by decide) nq2; have zq3 := g_ne (z := 3) (by decide) nq3; omega) (by decide) ?_
            refine lv_iload hx hb dX4_putOutcome_122 (lv_at hl 0 rfl) ?_
            obtain ⟨e0, e1, e2, e3, e4, e5, e6⟩ := k_t7 h
            exact g_retMI hx hb hr hlk hS e0 (by rw [← e1, ← e2, ← e3, ← e4, ← e5, ← e6]; exact hP) dX4_putOutcome_124
  · refine lv_iconst (v := (-1)) hx hb dX4_putOutcome_15 (by decide) ?_
    obtain ⟨e0, e1, e2, e3, e4, e5, e6⟩ := k_t7 h
    exact g_retMI hx hb hr hlk hS e0 (by rw [← e1, ← e2, ← e3, ← e4, ← e5, ← e6]; exact hP) dX4_putOutcome_16
