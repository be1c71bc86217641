def fX4_count (n_ones : Nat → Int32) (n_twos : Nat → Int32) (n_settings : Nat → Int32) (n_tick : Int32) (n_energy : Int32) (n_valuesPut : Int32) (s_count : Int32) (p1 : Int32) : Option (Int32) :=
  k_b1 (fX4_isIndex p1 13) fun (z1 : Int32) =>
  k_if (z1 = 0) none <|
  k_b1 (fX4_countOf n_ones n_twos n_settings n_tick n_energy n_valuesPut s_count p1) fun (z2 : Int32) =>
  some z2
theorem hdX4_count : yX4_count.cls = RX4 ∧ yX4_count.cls ≠ "java/lang/invoke/MethodHandle" ∧ yX4_count.cls ≠ "java/lang/invoke/VarHandle" ∧ (parseMethodDescriptor yX4_count.desc).map (fun d => d.parameters.length) = some 1 := by decide +kernel
set_option maxRecDepth 100000 in
set_option maxHeartbeats 4000000 in
theorem mX4_count (l : Launch) (dC : Nat → ClassId) (dI : Nat → Nat → Nat) (cyI cyC cyO : ClassId) (ob : Nat) (n0 : Nat) (n1 : Nat) (n2 : Nat) (n3 : Nat) (t0 : Nat) (t1 : Nat) (t2 : Nat) (t3 : Nat) (s0 : Nat) (aR : Nat) (ro : Nat → Nat) (r1 : Nat → Nat) (r2 : Nat → Nat) (r3 : Nat → Nat) (x0 : Nat) (x1 : Nat) (x2 : Nat) (x3 : Nat) (x4 : Nat) (n_ones : Nat → Int32) (n_twos : Nat → Int32) (n_settings : Nat → Int32) (n_tick : Int32) (n_energy : Int32) (n_valuesPut : Int32) (t_ones : Nat → Int32) (t_twos : Nat → Int32) (t_settings : Nat → Int32) (t_tick : Int32) (t_energy : Int32) (t_valuesPut : Int32) (s_ring : Nat → SV) (s_oldest : Int32) (s_count : Int32) (x_signs : Nat → Int32) (x_length : Int32) (x_position : Int32) (x_complete : Int32) (x_orders : Int32) (x_kinds : Nat → Int32) (x_numbers : Nat → Int32) (x_values : Nat → Int32) (p1 : Int32) {r : Int32} (hf : fX4_count n_ones n_twos n_settings n_tick n_energy n_valuesPut s_count p1 = some r) : MetRI l yX4_count cX4_count 2 (some .int) 5 113 [.ref ob, .int p1] (dC, dI) (tyS cyI cyC cyO) (wAll cyI cyC cyO ob n0 n1 n2 n3 t0 t1 t2 t3 s0 aR ro r1 r2 r3 x0 x1 x2 x3 x4 n_ones n_twos n_settings n_tick n_energy n_valuesPut t_ones t_twos t_settings t_tick t_energy t_valuesPut s_ring s_oldest s_count x_signs x_length x_position x_complete x_orders x_kinds x_numbers x_values) r := by
  refine metRI_of (by decide) (Nat.le_of_ble_eq_true rfl) ?_
  intro p e s m below meth c ls hC hr hlk hP hK hl
  have hC : CallFix p m c cX4_count 2 s [.ref ob, .int p1].toArray wA RX4 := hC
  obtain ⟨hx, hb, hml, hown, hts⟩ := id hC
  have hS : va_S kF s.heap s.heap [] := va_S.rf
  have hl : lv_has ls 2 [(0, .ref ob), (1, .int p1)] := hl
  have h := hf
  unfold fX4_count at h
  obtain ⟨H, hH⟩ : ∃ H, H = s.heap := ⟨_, rfl⟩
  obtain ⟨locs, hlo⟩ : ∃ locs : List Loc, locs = [] := ⟨_, rfl⟩
  rw [← hH] at hP
  rw [← hlo] at hS
  have hS : va_S kF s.heap H locs := by rw [hH]; exact hS
  show W p l e (k_rm 5 113) s m [.ref ob, .int p1].toArray below meth c s.heap [] 0 0 _ _
  rw [← hlo, ← hH]
  refine lv_iload_n hx hb dX4_count_0 rfl (lv_at hl 1 rfl) ?_
  refine lv_bipush (v := 13) hx hb dX4_count_1 (by decide) ?_
  obtain ⟨z1, hc3, h⟩ := k_b1_e h
  refine g_callRI_S (As := [.int p1, .int 13]) (rest := []) hC (mX4_isIndex l dC dI cyI cyC cyO p1 13 hc3) q80 q81 q8 q82 2 hdX4_isIndex ⟨Nat.le_of_ble_eq_true rfl, Nat.le_of_ble_eq_true rfl⟩ ⟨Nat.le_of_ble_eq_true rfl, Nat.le_of_ble_eq_true rfl⟩ rfl rfl hl.1 (Nat.le_of_ble_eq_true rfl) va_P_nil hK hS dX4_count_3 (fun H locs hk hS => ?_)
  have hP := k_kept hP hk
  obtain ⟨hv, h⟩ := k_req_e h
  refine g_callRV_S (As := [.int z1]) (rest := []) hC (mX4_requireArgument l (dC, dI) (tyS cyI cyC cyO) z1 hv) q83 q84 q8 q85 1 hdX4_requireArgument ⟨Nat.le_of_ble_eq_true rfl, Nat.le_of_ble_eq_true rfl⟩ ⟨Nat.le_of_ble_eq_true rfl, Nat.le_of_ble_eq_true rfl⟩ rfl rfl hl.1 (Nat.le_of_ble_eq_true rfl) va_P_nil hK hS dX4_count_6 (fun H locs hk hS => ?_)
  have hP := k_kept hP hk
  refine lv_aload_n hx hb dX4_count_9 rfl (lv_at hl 0 rfl) ?_
  refine lv_iload_n hx hb dX4_count_10 rfl (lv_at hl 1 rfl) ?_
  obtain ⟨z2, hc11, h⟩ := k_b1_e h
  refine g_callRI_V (As := [.int p1]) (rest := []) hC (mX4_countOf l dC dI cyI cyC cyO ob n0 n1 n2 n3 t0 t1 t2 t3 s0 aR ro r1 r2 r3 x0 x1 x2 x3 x4 n_ones n_twos n_settings n_tick n_energy n_valuesPut t_ones t_twos t_settings t_tick t_energy t_valuesPut s_ring s_oldest s_count x_signs x_length x_position x_complete x_orders x_kinds x_numbers x_values p1 hc11) q303 q304 q3 q8 q305 1 hdX4_countOf ⟨Nat.le_of_ble_eq_true rfl, Nat.le_of_ble_eq_true rfl⟩ ⟨Nat.le_of_ble_eq_true rfl, Nat.le_of_ble_eq_true rfl⟩ rfl rfl hl.1 (Nat.le_of_ble_eq_true rfl) hP hK (va_recv hK hP (ci := 3) (q0 := 0) rfl rfl) hS dX4_count_11 (fun H locs hk hS => ?_)
  have hP := k_kept hP hk
  exact g_retRI hx hb hr hlk hS h dX4_count_14
def fX4_setting (n_settings : Nat → Int32) (p1 : Int32) : Option (Int32) :=
  k_b1 (fX4_isIndex p1 4) fun (z1 : Int32) =>
  k_if (z1 = 0) none <|
  k_ck p1 4 <| k_let (n_settings p1.toNatClampNeg) fun (z2 : Int32) =>
  some z2
theorem hdX4_setting : yX4_setting.cls = RX4 ∧ yX4_setting.cls ≠ "java/lang/invoke/MethodHandle" ∧ yX4_setting.cls ≠ "java/lang/invoke/VarHandle" ∧ (parseMethodDescriptor yX4_setting.desc).map (fun d => d.parameters.length) = some 1 := by decide +kernel
set_option maxRecDepth 100000 in
set_option maxHeartbeats 4000000 in
theorem mX4_setting (l : Launch) (dC : Nat → ClassId) (dI : Nat → Nat → Nat) (cyI cyC cyO : ClassId) (ob : Nat) (n0 : Nat) (n1 : Nat) (n2 : Nat) (n3 : Nat) (t0 : Nat) (t1 : Nat) (t2 : Nat) (t3 : Nat) (s0 : Nat) (aR : Nat) (ro : Nat → Nat) (r1 : Nat → Nat) (r2 : Nat → Nat) (r3 : Nat → Nat) (x0 : Nat) (x1 : Nat) (x2 : Nat) (x3 : Nat) (x4 : Nat) (n_ones : Nat → Int32) (n_twos : Nat → Int32) (n_settings : Nat → Int32) (n_tick : Int32) (n_energy : Int32) (n_valuesPut : Int32) (t_ones : Nat → Int32) (t_twos : Nat → Int32) (t_settings : Nat → Int32) (t_tick : Int32) (t_energy : Int32) (t_valuesPut : Int32) (s_ring : Nat → SV) (s_oldest : Int32) (s_count : Int32) (x_signs : Nat → Int32) (x_length : Int32) (x_position : Int32) (x_complete : Int32) (x_orders : Int32) (x_kinds : Nat → Int32) (x_numbers : Nat → Int32) (x_values : Nat → Int32) (p1 : Int32) {r : Int32} (hf : fX4_setting n_settings p1 = some r) : MetRI l yX4_setting cX4_setting 2 (some .int) 1 21 [.ref ob, .int p1] (dC, dI) (tyS cyI cyC cyO) (wAll cyI cyC cyO ob n0 n1 n2 n3 t0 t1 t2 t3 s0 aR ro r1 r2 r3 x0 x1 x2 x3 x4 n_ones n_twos n_settings n_tick n_energy n_valuesPut t_ones t_twos t_settings t_tick t_energy t_valuesPut s_ring s_oldest s_count x_signs x_length x_position x_complete x_orders x_kinds x_numbers x_values) r := by
  refine metRI_of (by decide) (Nat.le_of_ble_eq_true rfl) ?_
  intro p e s m below meth c ls hC hr hlk hP hK hl
  have hC : CallFix p m c cX4_setting 2 s [.ref ob, .int p1].toArray wA RX4 := hC
  obtain ⟨hx, hb, hml, hown, hts⟩ := id hC
  have hS : va_S kF s.heap s.heap [] := va_S.rf
  have hl : lv_has ls 2 [(0, .ref ob), (1, .int p1)] := hl
  have h := hf
  unfold fX4_setting at h
  obtain ⟨H, hH⟩ : ∃ H, H = s.heap := ⟨_, rfl⟩
  obtain ⟨locs, hlo⟩ : ∃ locs : List Loc, locs = [] := ⟨_, rfl⟩
  rw [← hH] at hP
  rw [← hlo] at hS
  have hS : va_S kF s.heap H locs := by rw [hH]; exact hS
  show W p l e (k_rm 1 21) s m [.ref ob, .int p1].toArray below meth c s.heap [] 0 0 _ _
  rw [← hlo, ← hH]
  refine lv_iload_n hx hb dX4_setting_0 rfl (lv_at hl 1 rfl) ?_
  refine lv_iconst (v := 4) hx hb dX4_setting_1 (by decide) ?_
  obtain ⟨z1, hc2, h⟩ := k_b1_e h
  refine g_callRI_S (As := [.int p1, .int 4]) (rest := []) hC (mX4_isIndex l dC dI cyI cyC cyO p1 4 hc2) q80 q81 q8 q82 2 hdX4_isIndex ⟨Nat.le_of_ble_eq_true rfl, Nat.le_of_ble_eq_true rfl⟩ ⟨Nat.le_of_ble_eq_true rfl, Nat.le_of_ble_eq_true rfl⟩ rfl rfl hl.1 (Nat.le_of_ble_eq_true rfl) va_P_nil hK hS dX4_setting_2 (fun H locs hk hS => ?_)
  have hP := k_kept hP hk
  obtain ⟨hv, h⟩ := k_req_e h
  refine g_callRV_S (As := [.int z1]) (rest := []) hC (mX4_requireIndex l (dC, dI) (tyS cyI cyC cyO) z1 hv) q188 q189 q8 q190 1 hdX4_requireIndex ⟨Nat.le_of_ble_eq_true rfl, Nat.le_of_ble_eq_true rfl⟩ ⟨Nat.le_of_ble_eq_true rfl, Nat.le_of_ble_eq_true rfl⟩ rfl rfl hl.1 (Nat.le_of_ble_eq_true rfl) va_P_nil hK hS dX4_setting_5 (fun H locs hk hS => ?_)
  have hP := k_kept hP hk
  refine lv_aload_n hx hb dX4_setting_8 rfl (lv_at hl 0 rfl) ?_
  refine va_get (D := (dC, dI)) (ci := 3) (v := .ref n0) (C := RX4) (T := TX4) (N := 4) hx hb hts iaX4 hown hK hP 0 rfl rfl 0 (by decide) (hts _ q72) (fun _ h9 => h9) rfl dX4_setting_9 ?_
  refine va_get (D := (dC, dI)) (ci := 2) (v := .ref n3) (C := RX3) (T := TX3) (N := 6) hx hb hts iaX3 hown hK hP 1 rfl rfl 2 (by decide) (hts _ q41) (fun _ h9 => h9) rfl dX4_setting_12 ?_
  refine lv_iload_n hx hb dX4_setting_15 rfl (lv_at hl 1 rfl) ?_
  refine g_iald hx hb hK hP 4 0 rfl rfl dX4_setting_16 h (fun z2 h => ?_)
  exact g_retRI hx hb hr hlk hS h dX4_setting_17
def fX4_putOutcome (n_ones : Nat → Int32) (n_twos : Nat → Int32) (n_settings : Nat → Int32) (n_tick : Int32) (n_energy : Int32) (n_valuesPut : Int32) (t_ones : Nat → Int32) (t_twos : Nat → Int32) (t_settings : Nat → Int32) (t_tick : Int32) (t_energy : Int32) (t_valuesPut : Int32) (p1 : Int32) (p2 : Int32) (p3 : Int32) : Option (Int32 × (Nat → Int32) × (Nat → Int32) × (Nat → Int32) × Int32 × Int32 × Int32) :=
  k_b1 (fX3_nextRow n_ones n_twos n_settings n_tick) fun (z1 : Int32) =>
  k_if (z1 = ((-1)))
  (
    some ((-1), t_ones, t_twos, t_settings, t_tick, t_energy, t_valuesPut))
  (
    k_b6 (fX3_copyFrom t_ones t_twos t_settings t_tick t_energy t_valuesPut n_ones n_twos n_settings n_tick n_energy n_valuesPut) fun (c2 : Nat → Int32) (c3 : Nat → Int32) (c4 : Nat → Int32) (c5 : Int32) (c6 : Int32) (c7 : Int32) =>
    k_b4 (fX3_writeEntry c2 c3 c4 c5 c6 z1 p1 p2) fun (z8 : Int32) (c9 : Nat → Int32) (c10 : Nat → Int32) (c11 : Int32) =>
    k_b4 (fX3_markEarlier c9 c10 c4 c5 c11 z1 p1) fun (z12 : Int32) (c13 : Nat → Int32) (c14 : Nat → Int32) (c15 : Int32) =>
    k_if (p3 = 0)
    (
      some (z8, c13, c14, c4, c5, c15, c7))
    (
      k_if (p3 = 1)
      (
        k_b1 (fX3_kind c13 c14 c4 c5 z1) fun (z16 : Int32) =>
        some (z16, c13, c14, c4, c5, c15, c7))
      (
        k_if (p3 = 2)
        (
          k_let (c15 - n_energy) fun (z17 : Int32) =>
          some (z17, c13, c14, c4, c5, c15, c7))
        (
          k_if (p3 = 3)
          (
            k_b1 (fX3_valueOfKey c13 c14 c4 c5 p1) fun (z18 : Int32) =>
            some (z18, c13, c14, c4, c5, c15, c7))
          (
            some (z12, c13, c14, c4, c5, c15, c7))))))
theorem hdX4_putOutcome : yX4_putOutcome.cls = RX4 ∧ yX4_putOutcome.cls ≠ "java/lang/invoke/MethodHandle" ∧ yX4_putOutcome.cls ≠ "java/lang/invoke/VarHandle" ∧ (parseMethodDescriptor yX4_putOutcome.desc).map (fun d => d.parameters.length) = some 3 := by decide +kernel
set_option maxRecDepth 100000 in
set_option maxHeartbeats 4000000 in
theorem mX4_putOutcome (l : Launch) (dC : Nat → ClassId) (dI : Nat → Nat → Nat) (cyI cyC cyO : ClassId) (ob : Nat) (n0 : Nat) (n1 : Nat) (n2 : Nat) (n3 : Nat) (t0 : Nat) (t1 : Nat) (t2 : Nat) (t3 : Nat) (s0 : Nat) (aR : Nat) (ro : Nat → Nat) (r1 : Nat → Nat) (r2 : Nat → Nat) (r3 : Nat → Nat) (x0 : Nat) (x1 : Nat) (x2 : Nat) (x3 : Nat) (x4 : Nat) (n_ones : Nat → Int32) (n_twos : Nat → Int32) (n_settings : Nat → Int32) (n_tick : Int32) (n_energy : Int32) (n_valuesPut : Int32) (t_ones : Nat → Int32) (t_twos : Nat → Int32) (t_settings : Nat → Int32) (t_tick : Int32) (t_energy : Int32) (t_valuesPut : Int32) (s_ring : Nat → SV) (s_oldest : Int32) (s_count : Int32) (x_signs : Nat → Int32) (x_length : Int32) (x_position : Int32) (x_complete : Int32) (x_orders : Int32) (x_kinds : Nat → Int32) (x_numbers : Nat → Int32) (x_values : Nat → Int32) (p1 : Int32) (p2 : Int32) (p3 : Int32) {r : Int32} {r_t_ones : Nat → Int32} {r_t_twos : Nat → Int32} {r_t_settings : Nat → Int32} {r_t_tick : Int32} {r_t_energy : Int32} {r_t_valuesPut : Int32} (hf : fX4_putOutcome n_ones n_twos n_settings n_tick n_energy n_valuesPut t_ones t_twos t_settings t_tick t_energy t_valuesPut p1 p2 p3 = some (r, r_t_ones, r_t_twos, r_t_settings, r_t_tick, r_t_energy, r_t_valuesPut)) : MetMI l yX4_putOutcome cX4_putOutcome 7 (some .int) 5 111 [.ref ob, .int p1, .int p2, .int p3] (dC, dI) (tyS cyI cyC cyO) (wAll cyI cyC cyO ob n0 n1 n2 n3 t0 t1 t2 t3 s0 aR ro r1 r2 r3 x0 x1 x2 x3 x4 n_ones n_twos n_settings n_tick n_energy n_valuesPut t_ones t_twos t_settings t_tick t_energy t_valuesPut s_ring s_oldest s_count x_signs x_length x_position x_complete x_orders x_kinds x_numbers x_values) (wAll cyI cyC cyO ob n0 n1 n2 n3 t0 t1 t2 t3 s0 aR ro r1 r2 r3 x0 x1 x2 x3 x4 n_ones n_twos n_settings n_tick n_energy n_valuesPut r_t_ones r_t_twos r_t_settings r_t_tick r_t_energy r_t_valuesPut s_ring s_oldest s_count x_signs x_length x_position x_complete x_orders x_kinds x_numbers x_values) r := by
  refine metMI_of (by decide) (Nat.le_of_ble_eq_true rfl) ?_
  intro p e s m below meth c ls hC hr hlk hP hK hD hl
  have hC : CallFix p m c cX4_putOutcome 7 s [.ref ob, .int p1, .int p2, .int p3].toArray wA RX4 := hC
  obtain ⟨hx, hb, hml, hown, hts⟩ := id hC
  have hS : va_S (k_A (wAll cyI cyC cyO ob n0 n1 n2 n3 t0 t1 t2 t3 s0 aR ro r1 r2 r3 x0 x1 x2 x3 x4 n_ones n_twos n_settings n_tick n_energy n_valuesPut t_ones t_twos t_settings t_tick t_energy t_valuesPut s_ring s_oldest s_count x_signs x_length x_position x_complete x_orders x_kinds x_numbers x_values)) s.heap s.heap [] := va_S.rf
  have hl : lv_has ls 7 [(0, .ref ob), (1, .int p1), (2, .int p2), (3, .int p3)] := hl
  have h := hf
  unfold fX4_putOutcome at h
  obtain ⟨H, hH⟩ : ∃ H, H = s.heap := ⟨_, rfl⟩
  obtain ⟨locs, hlo⟩ : ∃ locs : List Loc, locs = [] := ⟨_, rfl⟩
  rw [← hH] at hP
  rw [← hlo] at hS
  have hS : va_S (k_A (wAll cyI cyC cyO ob n0 n1 n2 n3 t0 t1 t2 t3 s0 aR ro r1 r2 r3 x0 x1 x2 x3 x4 n_ones n_twos n_settings n_tick n_energy n_valuesPut t_ones t_twos t_settings t_tick t_energy t_valuesPut s_ring s_oldest s_count x_signs x_length x_position x_complete x_orders x_kinds x_numbers x_values)) s.heap H locs := by rw [hH]; exact hS
  show W p l e (k_rm 5 111) s m [.ref ob, .int p1, .int p2, .int p3].toArray below meth c s.heap [] 0 0 _ _
  rw [← hlo, ← hH]
  refine lv_aload_n hx hb dX4_putOutcome_0 rfl (lv_at hl 0 rfl) ?_
  refine va_get (D := (dC, dI)) (ci := 3) (v := .ref n0) (C := RX4) (T := TX4) (N := 4) hx hb hts iaX4 hown hK hP 0 rfl rfl 0 (by decide) (hts _ q72) (fun _ h9 => h9) rfl dX4_putOutcome_1 ?_
  obtain ⟨z1, hc4, h⟩ := k_b1_e h
  refine g_callRI_V (As := []) (rest := []) hC (mX3_nextRow l dC dI cyI cyC cyO n0 n1 n2 n3 n_ones n_twos n_settings n_tick n_energy n_valuesPut hc4) q315 q316 q317 q9 q318 0 hdX3_nextRow ⟨Nat.le_of_ble_eq_true rfl, Nat.le_of_ble_eq_true rfl⟩ ⟨Nat.le_of_ble_eq_true rfl, Nat.le_of_ble_eq_true rfl⟩ rfl rfl hl.1 (Nat.le_of_ble_eq_true rfl) (hP.sub (ws' := (wX3 cyI cyC n0 n1 n2 n3 n_ones n_twos n_settings n_tick n_energy n_valuesPut)) [1, 2, 3, 4] rfl) hK (va_recv hK hP (ci := 2) (q0 := 1) rfl rfl) hS dX4_putOutcome_4 (fun H locs hk hS => ?_)
  have hP := k_kept hP hk
  refine lv_istore (lv' := [(4, .int z1), (0, .ref ob), (1, .int p1), (2, .int p2), (3, .int p3)]) hx hb dX4_putOutcome_7 hl (by decide) rfl (fun ls hl => ?_)
  refine lv_iload hx hb dX4_putOutcome_9 (lv_at hl 0 rfl) ?_
  refine lv_iconst (v := (-1)) hx hb dX4_putOutcome_11 (by decide) ?_
  refine g_icmp_ne (tgt := 17) hx hb dX4_putOutcome_12 (by decide) h (fun h => ?_) (fun h => ?_)
  · refine lv_aload_n hx hb dX4_putOutcome_17 rfl (lv_at hl 1 rfl) ?_
    refine va_get (D := (dC, dI)) (ci := 3) (v := .ref t0) (C := RX4) (T := TX4) (N := 4) hx hb hts iaX4 hown hK hP 0 rfl rfl 1 (by decide) (hts _ q73) (fun _ h9 => h9) rfl dX4_putOutcome_18 ?_
    refine lv_aload_n hx hb dX4_putOutcome_21 rfl (lv_at hl 1 rfl) ?_
    refine va_get (D := (dC, dI)) (ci := 3) (v := .ref n0) (C := RX4) (T := TX4) (N := 4) hx hb hts iaX4 hown hK hP 0 rfl rfl 0 (by decide) (hts _ q72) (fun _ h9 => h9) rfl dX4_putOutcome_22 ?_
    obtain ⟨c2, c3, c4, c5, c6, c7, hc25, h⟩ := k_b6_e h
    refine g_callMV_V (As := [.ref n0]) (rest := []) hC (mX3_copyFrom l dC dI cyI cyC cyO t0 t1 t2 t3 n0 n1 n2 n3 t_ones t_twos t_settings t_tick t_energy t_valuesPut n_ones n_twos n_settings n_tick n_energy n_valuesPut hc25) q338 q129 q130 q9 q131 1 hdX3_copyFrom ⟨Nat.le_of_ble_eq_true rfl, Nat.le_of_ble_eq_true rfl⟩ ⟨Nat.le_of_ble_eq_true rfl, Nat.le_of_ble_eq_true rfl⟩ rfl rfl hl.1 (Nat.le_of_ble_eq_true rfl) (hP.sub (ws' := (wX3 cyI cyC t0 t1 t2 t3 t_ones t_twos t_settings t_tick t_energy t_valuesPut) ++ (wX3 cyI cyC n0 n1 n2 n3 n_ones n_twos n_settings n_tick n_energy n_valuesPut)) [5, 6, 7, 8, 1, 2, 3, 4] rfl) hK (hD.sub (ws' := (wX3 cyI cyC t0 t1 t2 t3 t_ones t_twos t_settings t_tick t_energy t_valuesPut) ++ (wX3 cyI cyC n0 n1 n2 n3 n_ones n_twos n_settings n_tick n_energy n_valuesPut)) [5, 6, 7, 8, 1, 2, 3, 4] (by decide) rfl) (va_recv hK hP (ci := 2) (q0 := 5) rfl rfl) hS dX4_putOutcome_25 (fun H locs hPn hk hS => ?_)
    have hP : va_P (dC, dI) vwCl (wAll cyI cyC cyO ob n0 n1 n2 n3 t0 t1 t2 t3 s0 aR ro r1 r2 r3 x0 x1 x2 x3 x4 n_ones n_twos n_settings n_tick n_energy n_valuesPut c2 c3 c4 c5 c6 c7 s_ring s_oldest s_count x_signs x_length x_position x_complete x_orders x_kinds x_numbers x_values) H := k_repl hP hD [5, 6, 7, 8, 1, 2, 3, 4] rfl hk hPn [.inl 0, .inr 4, .inr 5, .inr 6, .inr 7, .inr 0, .inr 1, .inr 2, .inr 3, .inl 9, .inl 10, .inl 11, .inl 12, .inl 13, .inl 14, .inl 15, .inl 16, .inl 17, .inl 18, .inl 19, .inl 20, .inl 21, .inl 22, .inl 23, .inl 24, .inl 25, .inl 26, .inl 27, .inl 28, .inl 29, .inl 30, .inl 31, .inl 32, .inl 33, .inl 34, .inl 35, .inl 36, .inl 37, .inl 38, .inl 39] rfl (by decide)
    have hD : va_D (k_A (wAll cyI cyC cyO ob n0 n1 n2 n3 t0 t1 t2 t3 s0 aR ro r1 r2 r3 x0 x1 x2 x3 x4 n_ones n_twos n_settings n_tick n_energy n_valuesPut t_ones t_twos t_settings t_tick t_energy t_valuesPut s_ring s_oldest s_count x_signs x_length x_position x_complete x_orders x_kinds x_numbers x_values)) (wAll cyI cyC cyO ob n0 n1 n2 n3 t0 t1 t2 t3 s0 aR ro r1 r2 r3 x0 x1 x2 x3 x4 n_ones n_twos n_settings n_tick n_energy n_valuesPut c2 c3 c4 c5 c6 c7 s_ring s_oldest s_count x_signs x_length x_position x_complete x_orders x_kinds x_numbers x_values) := k_Dm hD rfl
    refine lv_aload_n hx hb dX4_putOutcome_28 rfl (lv_at hl 1 rfl) ?_
    refine va_get (D := (dC, dI)) (ci := 3) (v := .ref t0) (C := RX4) (T := TX4) (N := 4) hx hb hts iaX4 hown hK hP 0 rfl rfl 1 (by decide) (hts _ q73) (fun _ h9 => h9) rfl dX4_putOutcome_29 ?_
    refine lv_iload hx hb dX4_putOutcome_32 (lv_at hl 0 rfl) ?_
    refine lv_iload_n hx hb dX4_putOutcome_34 rfl (lv_at hl 2 rfl) ?_
    refine lv_iload_n hx hb dX4_putOutcome_35 rfl (lv_at hl 3 rfl) ?_
    obtain ⟨z8, c9, c10, c11, hc36, h⟩ := k_b4_e h
    refine g_callMI_V (As := [.int z1, .int p1, .int p2]) (rest := []) hC (mX3_writeEntry l dC dI cyI cyC cyO t0 t1 t2 t3 c2 c3 c4 c5 c6 c7 z1 p1 p2 hc36) q339 q340 q341 q9 q342 3 hdX3_writeEntry ⟨Nat.le_of_ble_eq_true rfl, Nat.le_of_ble_eq_true rfl⟩ ⟨Nat.le_of_ble_eq_true rfl, Nat.le_of_ble_eq_true rfl⟩ rfl rfl hl.1 (Nat.le_of_ble_eq_true rfl) (hP.sub (ws' := (wX3 cyI cyC t0 t1 t2 t3 c2 c3 c4 c5 c6 c7)) [5, 6, 7, 8] rfl) hK (hD.sub (ws' := (wX3 cyI cyC t0 t1 t2 t3 c2 c3 c4 c5 c6 c7)) [5, 6, 7, 8] (by decide) rfl) (va_recv hK hP (ci := 2) (q0 := 5) rfl rfl) hS dX4_putOutcome_36 (fun H locs hPn hk hS => ?_)
    have hP : va_P (dC, dI) vwCl (wAll cyI cyC cyO ob n0 n1 n2 n3 t0 t1 t2 t3 s0 aR ro r1 r2 r3 x0 x1 x2 x3 x4 n_ones n_twos n_settings n_tick n_energy n_valuesPut c9 c10 c4 c5 c11 c7 s_ring s_oldest s_count x_signs x_length x_position x_complete x_orders x_kinds x_numbers x_values) H := k_repl hP hD [5, 6, 7, 8] rfl hk hPn [.inl 0, .inl 1, .inl 2, .inl 3, .inl 4, .inr 0, .inr 1, .inr 2, .inr 3, .inl 9, .inl 10, .inl 11, .inl 12, .inl 13, .inl 14, .inl 15, .inl 16, .inl 17, .inl 18, .inl 19, .inl 20, .inl 21, .inl 22, .inl 23, .inl 24, .inl 25, .inl 26, .inl 27, .inl 28, .inl 29, .inl 30, .inl 31, .inl 32, .inl 33, .inl 34, .inl 35, .inl 36, .inl 37, .inl 38, .inl 39] rfl (by decide)
    have hD : va_D (k_A (wAll cyI cyC cyO ob n0 n1 n2 n3 t0 t1 t2 t3 s0 aR ro r1 r2 r3 x0 x1 x2 x3 x4 n_ones n_twos n_settings n_tick n_energy n_valuesPut t_ones t_twos t_settings t_tick t_energy t_valuesPut s_ring s_oldest s_count x_signs x_length x_position x_complete x_orders x_kinds x_numbers x_values)) (wAll cyI cyC cyO ob n0 n1 n2 n3 t0 t1 t2 t3 s0 aR ro r1 r2 r3 x0 x1 x2 x3 x4 n_ones n_twos n_settings n_tick n_energy n_valuesPut c9 c10 c4 c5 c11 c7 s_ring s_oldest s_count x_signs x_length x_position x_complete x_orders x_kinds x_numbers x_values) := k_Dm hD rfl
    refine lv_istore (lv' := [(5, .int z8), (4, .int z1), (0, .ref ob), (1, .int p1), (2, .int p2), (3, .int p3)]) hx hb dX4_putOutcome_39 hl (by decide) rfl (fun ls hl => ?_)
    refine lv_aload_n hx hb dX4_putOutcome_41 rfl (lv_at hl 2 rfl) ?_
    refine va_get (D := (dC, dI)) (ci := 3) (v := .ref t0) (C := RX4) (T := TX4) (N := 4) hx hb hts iaX4 hown hK hP 0 rfl rfl 1 (by decide) (hts _ q73) (fun _ h9 => h9) rfl dX4_putOutcome_42 ?_
    refine lv_iload hx hb dX4_putOutcome_45 (lv_at hl 1 rfl) ?_
    refine lv_iload_n hx hb dX4_putOutcome_47 rfl (lv_at hl 3 rfl) ?_
    obtain ⟨z12, c13, c14, c15, hc48, h⟩ := k_b4_e h
    refine g_callMI_V (As := [.int z1, .int p1]) (rest := []) hC (mX3_markEarlier l dC dI cyI cyC cyO t0 t1 t2 t3 c9 c10 c4 c5 c11 c7 z1 p1 hc48) q359 q360 q361 q9 q362 2 hdX3_markEarlier ⟨Nat.le_of_ble_eq_true rfl, Nat.le_of_ble_eq_true rfl⟩ ⟨Nat.le_of_ble_eq_true rfl, Nat.le_of_ble_eq_true rfl⟩ rfl rfl hl.1 (Nat.le_of_ble_eq_true rfl) (hP.sub (ws' := (wX3 cyI cyC t0 t1 t2 t3 c9 c10 c4 c5 c11 c7)) [5, 6, 7, 8] rfl) hK (hD.sub (ws' := (wX3 cyI cyC t0 t1 t2 t3 c9 c10 c4 c5 c11 c7)) [5, 6, 7, 8] (by decide) rfl) (va_recv hK hP (ci := 2) (q0 := 5) rfl rfl) hS dX4_putOutcome_48 (fun H locs hPn hk hS => ?_)
    have hP : va_P (dC, dI) vwCl (wAll cyI cyC cyO ob n0 n1 n2 n3 t0 t1 t2 t3 s0 aR ro r1 r2 r3 x0 x1 x2 x3 x4 n_ones n_twos n_settings n_tick n_energy n_valuesPut c13 c14 c4 c5 c15 c7 s_ring s_oldest s_count x_signs x_length x_position x_complete x_orders x_kinds x_numbers x_values) H := k_repl hP hD [5, 6, 7, 8] rfl hk hPn [.inl 0, .inl 1, .inl 2, .inl 3, .inl 4, .inr 0, .inr 1, .inr 2, .inr 3, .inl 9, .inl 10, .inl 11, .inl 12, .inl 13, .inl 14, .inl 15, .inl 16, .inl 17, .inl 18, .inl 19, .inl 20, .inl 21, .inl 22, .inl 23, .inl 24, .inl 25, .inl 26, .inl 27, .inl 28, .inl 29, .inl 30, .inl 31, .inl 32, .inl 33, .inl 34, .inl 35, .inl 36, .inl 37, .inl 38, .inl 39] rfl (by decide)
    have hD : va_D (k_A (wAll cyI cyC cyO ob n0 n1 n2 n3 t0 t1 t2 t3 s0 aR ro r1 r2 r3 x0 x1 x2 x3 x4 n_ones n_twos n_settings n_tick n_energy n_valuesPut t_ones t_twos t_settings t_tick t_energy t_valuesPut s_ring s_oldest s_count x_signs x_length x_position x_complete x_orders x_kinds x_numbers x_values)) (wAll cyI cyC cyO ob n0 n1 n2 n3 t0 t1 t2 t3 s0 aR ro r1 r2 r3 x0 x1 x2 x3 x4 n_ones n_twos n_settings n_tick n_energy n_valuesPut c13 c14 c4 c5 c15 c7 s_ring s_oldest s_count x_signs x_length x_position x_complete x_orders x_kinds x_numbers x_values) := k_Dm hD rfl
    refine lv_istore (lv' := [(6, .int z12), (5, .int z8), (4, .int z1), (0, .ref ob), (1, .int p1), (2, .int p2), (3, .int p3)]) hx hb dX4_putOutcome_51 hl (by decide) rfl (fun ls hl => ?_)
    refine lv_iload_n hx hb dX4_putOutcome_53 rfl (lv_at hl 6 rfl) ?_
    refine g_arm (v := 0) (off := 30) (tgt := 84) hx hb dX4_putOutcome_54 (by decide) (by decide) (by decide +kernel) (by decide) h (fun _ h => ?_) (fun nq0 h => ?_)
    · refine lv_iload hx hb dX4_putOutcome_84 (lv_at hl 1 rfl) ?_
      obtain ⟨e0, e1, e2, e3, e4, e5, e6⟩ := k_t7 h
      exact g_retMI hx hb hr hlk hS e0 (by rw [← e1, ← e2, ← e3, ← e4, ← e5, ← e6]; exact hP) dX4_putOutcome_86
    · skip
      refine g_arm (v := 1) (off := 33) (tgt := 87) hx hb dX4_putOutcome_54 (by decide) (by decide) (by decide +kernel) (by decide) h (fun _ h => ?_) (fun nq1 h => ?_)
      · refine lv_aload_n hx hb dX4_putOutcome_87 rfl (lv_at hl 3 rfl) ?_
        refine va_get (D := (dC, dI)) (ci := 3) (v := .ref t0) (C := RX4) (T := TX4) (N := 4) hx hb hts iaX4 hown hK hP 0 rfl rfl 1 (by decide) (hts _ q73) (fun _ h9 => h9) rfl dX4_putOutcome_88 ?_
        refine lv_iload hx hb dX4_putOutcome_91 (lv_at hl 2 rfl) ?_
        obtain ⟨z16, hc93, h⟩ := k_b1_e h
        refine g_callRI_V (As := [.int z1]) (rest := []) hC (mX3_kind l dC dI cyI cyC cyO t0 t1 t2 t3 c13 c14 c4 c5 c15 c7 z1 hc93) q364 q320 q321 q9 q322 1 hdX3_kind ⟨Nat.le_of_ble_eq_true rfl, Nat.le_of_ble_eq_true rfl⟩ ⟨Nat.le_of_ble_eq_true rfl, Nat.le_of_ble_eq_true rfl⟩ rfl rfl hl.1 (Nat.le_of_ble_eq_true rfl) (hP.sub (ws' := (wX3 cyI cyC t0 t1 t2 t3 c13 c14 c4 c5 c15 c7)) [5, 6, 7, 8] rfl) hK (va_recv hK hP (ci := 2) (q0 := 5) rfl rfl) hS dX4_putOutcome_93 (fun H locs hk hS => ?_)
        have hP := k_kept hP hk
        obtain ⟨e0, e1, e2, e3, e4, e5, e6⟩ := k_t7 h
        exact g_retMI hx hb hr hlk hS e0 (by rw [← e1, ← e2, ← e3, ← e4, ← e5, ← e6]; exact hP) dX4_putOutcome_96
      · skip
        refine g_arm (v := 2) (off := 43) (tgt := 97) hx hb dX4_putOutcome_54 (by decide) (by decide) (by decide +kernel) (by decide) h (fun _ h => ?_) (fun nq2 h => ?_)
        · refine lv_aload_n hx hb dX4_putOutcome_97 rfl (lv_at hl 3 rfl) ?_
          refine va_get (D := (dC, dI)) (ci := 3) (v := .ref t0) (C := RX4) (T := TX4) (N := 4) hx hb hts iaX4 hown hK hP 0 rfl rfl 1 (by decide) (hts _ q73) (fun _ h9 => h9) rfl dX4_putOutcome_98 ?_
          refine va_get (D := (dC, dI)) (ci := 2) (v := .int c15) (C := RX3) (T := TX3) (N := 6) hx hb hts iaX3 hown hK hP 5 rfl rfl 4 (by decide) (hts _ q45) (fun _ h9 => h9) rfl dX4_putOutcome_101 ?_
          refine lv_aload_n hx hb dX4_putOutcome_104 rfl (lv_at hl 3 rfl) ?_
          refine va_get (D := (dC, dI)) (ci := 3) (v := .ref n0) (C := RX4) (T := TX4) (N := 4) hx hb hts iaX4 hown hK hP 0 rfl rfl 0 (by decide) (hts _ q72) (fun _ h9 => h9) rfl dX4_putOutcome_105 ?_
          refine va_get (D := (dC, dI)) (ci := 2) (v := .int n_energy) (C := RX3) (T := TX3) (N := 6) hx hb hts iaX3 hown hK hP 1 rfl rfl 4 (by decide) (hts _ q45) (fun _ h9 => h9) rfl dX4_putOutcome_108 ?_
          refine g_isub hx hb dX4_putOutcome_111 h (fun z17 h => ?_)
          obtain ⟨e0, e1, e2, e3, e4, e5, e6⟩ := k_t7 h
          exact g_retMI hx hb hr hlk hS e0 (by rw [← e1, ← e2, ← e3, ← e4, ← e5, ← e6]; exact hP) dX4_putOutcome_112
        · skip
          refine g_arm (v := 3) (off := 59) (tgt := 113) hx hb dX4_putOutcome_54 (by decide) (by decide) (by decide +kernel) (by decide) h (fun _ h => ?_) (fun nq3 h => ?_)
          · refine lv_aload_n hx hb dX4_putOutcome_113 rfl (lv_at hl 3 rfl) ?_
            refine va_get (D := (dC, dI)) (ci := 3) (v := .ref t0) (C := RX4) (T := TX4) (N := 4) hx hb hts iaX4 hown hK hP 0 rfl rfl 1 (by decide) (hts _ q73) (fun _ h9 => h9) rfl dX4_putOutcome_114 ?_
            refine lv_iload_n hx hb dX4_putOutcome_117 rfl (lv_at hl 4 rfl) ?_
            obtain ⟨z18, hc118, h⟩ := k_b1_e h
            refine g_callRI_V (As := [.int p1]) (rest := []) hC (mX3_valueOfKey l dC dI cyI cyC cyO t0 t1 t2 t3 c13 c14 c4 c5 c15 c7 p1 hc118) q264 q265 q266 q9 q267 1 hdX3_valueOfKey ⟨Nat.le_of_ble_eq_true rfl, Nat.le_of_ble_eq_true rfl⟩ ⟨Nat.le_of_ble_eq_true rfl, Nat.le_of_ble_eq_true rfl⟩ rfl rfl hl.1 (Nat.le_of_ble_eq_true rfl) (hP.sub (ws' := (wX3 cyI cyC t0 t1 t2 t3 c13 c14 c4 c5 c15 c7)) [5, 6, 7, 8] rfl) hK (va_recv hK hP (ci := 2) (q0 := 5) rfl rfl) hS dX4_putOutcome_118 (fun H locs hk hS => ?_)
            have hP := k_kept hP hk
            obtain ⟨e0, e1, e2, e3, e4, e5, e6⟩ := k_t7 h
            exact g_retMI hx hb hr hlk hS e0 (by rw [← e1, ← e2, ← e3, ← e4, ← e5, ← e6]; exact hP) dX4_putOutcome_121
          · skip
            refine lv_tableOut (tgt := 122) hx hb dX4_putOutcome_54 (by have zq0 := g_ne (z := 0) (by decide) nq0; have zq1 := g_ne (z := 1) (by decide) nq1; have zq2 := g_ne (z := 2) (by decide) nq2; have zq3 := g_ne (z := 3) (by decide) nq3; omega) (by decide) ?_
            refine lv_iload hx hb dX4_putOutcome_122 (lv_at hl 0 rfl) ?_
            obtain ⟨e0, e1, e2, e3, e4, e5, e6⟩ := k_t7 h
            exact g_retMI hx hb hr hlk hS e0 (by rw [← e1, ← e2, ← e3, ← e4, ← e5, ← e6]; exact hP) dX4_putOutcome_124
  · refine lv_iconst (v := (-1)) hx hb dX4_putOutcome_15 (by decide) ?_
    obtain ⟨e0, e1, e2, e3, e4, e5, e6⟩ := k_t7 h
    exact g_retMI hx hb hr hlk hS e0 (by rw [← e1, ← e2, ← e3, ← e4, ← e5, ← e6]; exact hP) dX4_putOutcome_16
def fX4_ifPut (n_ones : Nat → Int32) (n_twos : Nat → Int32) (n_settings : Nat → Int32) (n_tick : Int32) (n_energy : Int32) (n_valuesPut : Int32) (t_ones : Nat → Int32) (t_twos : Nat → Int32) (t_settings : Nat → Int32) (t_tick : Int32) (t_energy : Int32) (t_valuesPut : Int32) (p1 : Int32) (p2 : Int32) (p3 : Int32) : Option (Int32 × (Nat → Int32) × (Nat → Int32) × (Nat → Int32) × Int32 × Int32 × Int32) :=
  k_b1 (fX4_isIndex p1 16) fun (z1 : Int32) =>
  k_j1
  (fun (z2 : Int32) =>
    k_if (z2 = 0) none <|
    k_b7 (fX4_putOutcome n_ones n_twos n_settings n_tick n_energy n_valuesPut t_ones t_twos t_settings t_tick t_energy t_valuesPut p1 p2 p3) fun (z3 : Int32) (c4 : Nat → Int32) (c5 : Nat → Int32) (c6 : Nat → Int32) (c7 : Int32) (c8 : Int32) (c9 : Int32) =>
    some (z3, c4, c5, c6, c7, c8, c9))
  (fun K31 =>
  k_if (z1 = 0)
  (
    K31 0)
  (
    k_b1 (fX4_isIndex p2 64) fun (z10 : Int32) =>
    k_if (z10 = 0)
    (
      K31 0)
    (
      k_b1 (fX4_isIndex p3 5) fun (z11 : Int32) =>
      k_if (z11 = 0)
      (
        K31 0)
      (
        K31 1))))
theorem hdX4_ifPut : yX4_ifPut.cls = RX4 ∧ yX4_ifPut.cls ≠ "java/lang/invoke/MethodHandle" ∧ yX4_ifPut.cls ≠ "java/lang/invoke/VarHandle" ∧ (parseMethodDescriptor yX4_ifPut.desc).map (fun d => d.parameters.length) = some 3 := by decide +kernel
set_option maxRecDepth 100000 in
set_option maxHeartbeats 4000000 in
theorem mX4_ifPut (l : Launch) (dC : Nat → ClassId) (dI : Nat → Nat → Nat) (cyI cyC cyO : ClassId) (ob : Nat) (n0 : Nat) (n1 : Nat) (n2 : Nat) (n3 : Nat) (t0 : Nat) (t1 : Nat) (t2 : Nat) (t3 : Nat) (s0 : Nat) (aR : Nat) (ro : Nat → Nat) (r1 : Nat → Nat) (r2 : Nat → Nat) (r3 : Nat → Nat) (x0 : Nat) (x1 : Nat) (x2 : Nat) (x3 : Nat) (x4 : Nat) (n_ones : Nat → Int32) (n_twos : Nat → Int32) (n_settings : Nat → Int32) (n_tick : Int32) (n_energy : Int32) (n_valuesPut : Int32) (t_ones : Nat → Int32) (t_twos : Nat → Int32) (t_settings : Nat → Int32) (t_tick : Int32) (t_energy : Int32) (t_valuesPut : Int32) (s_ring : Nat → SV) (s_oldest : Int32) (s_count : Int32) (x_signs : Nat → Int32) (x_length : Int32) (x_position : Int32) (x_complete : Int32) (x_orders : Int32) (x_kinds : Nat → Int32) (x_numbers : Nat → Int32) (x_values : Nat → Int32) (p1 : Int32) (p2 : Int32) (p3 : Int32) {r : Int32} {r_t_ones : Nat → Int32} {r_t_twos : Nat → Int32} {r_t_settings : Nat → Int32} {r_t_tick : Int32} {r_t_energy : Int32} {r_t_valuesPut : Int32} (hf : fX4_ifPut n_ones n_twos n_settings n_tick n_energy n_valuesPut t_ones t_twos t_settings t_tick t_energy t_valuesPut p1 p2 p3 = some (r, r_t_ones, r_t_twos, r_t_settings, r_t_tick, r_t_energy, r_t_valuesPut)) : MetMI l yX4_ifPut cX4_ifPut 4 (some .int) 6 137 [.ref ob, .int p1, .int p2, .int p3] (dC, dI) (tyS cyI cyC cyO) (wAll cyI cyC cyO ob n0 n1 n2 n3 t0 t1 t2 t3 s0 aR ro r1 r2 r3 x0 x1 x2 x3 x4 n_ones n_twos n_settings n_tick n_energy n_valuesPut t_ones t_twos t_settings t_tick t_energy t_valuesPut s_ring s_oldest s_count x_signs x_length x_position x_complete x_orders x_kinds x_numbers x_values) (wAll cyI cyC cyO ob n0 n1 n2 n3 t0 t1 t2 t3 s0 aR ro r1 r2 r3 x0 x1 x2 x3 x4 n_ones n_twos n_settings n_tick n_energy n_valuesPut r_t_ones r_t_twos r_t_settings r_t_tick r_t_energy r_t_valuesPut s_ring s_oldest s_count x_signs x_length x_position x_complete x_orders x_kinds x_numbers x_values) r := by
  refine metMI_of (by decide) (Nat.le_of_ble_eq_true rfl) ?_
  intro p e s m below meth c ls hC hr hlk hP hK hD hl
  have hC : CallFix p m c cX4_ifPut 4 s [.ref ob, .int p1, .int p2, .int p3].toArray wA RX4 := hC
  obtain ⟨hx, hb, hml, hown, hts⟩ := id hC
  have hS : va_S (k_A (wAll cyI cyC cyO ob n0 n1 n2 n3 t0 t1 t2 t3 s0 aR ro r1 r2 r3 x0 x1 x2 x3 x4 n_ones n_twos n_settings n_tick n_energy n_valuesPut t_ones t_twos t_settings t_tick t_energy t_valuesPut s_ring s_oldest s_count x_signs x_length x_position x_complete x_orders x_kinds x_numbers x_values)) s.heap s.heap [] := va_S.rf
  have hl : lv_has ls 4 [(0, .ref ob), (1, .int p1), (2, .int p2), (3, .int p3)] := hl
  have h := hf
  unfold fX4_ifPut at h
  obtain ⟨H, hH⟩ : ∃ H, H = s.heap := ⟨_, rfl⟩
  obtain ⟨locs, hlo⟩ : ∃ locs : List Loc, locs = [] := ⟨_, rfl⟩
  rw [← hH] at hP
  rw [← hlo] at hS
  have hS : va_S (k_A (wAll cyI cyC cyO ob n0 n1 n2 n3 t0 t1 t2 t3 s0 aR ro r1 r2 r3 x0 x1 x2 x3 x4 n_ones n_twos n_settings n_tick n_energy n_valuesPut t_ones t_twos t_settings t_tick t_energy t_valuesPut s_ring s_oldest s_count x_signs x_length x_position x_complete x_orders x_kinds x_numbers x_values)) s.heap H locs := by rw [hH]; exact hS
  show W p l e (k_rm 6 137) s m [.ref ob, .int p1, .int p2, .int p3].toArray below meth c s.heap [] 0 0 _ _
  rw [← hlo, ← hH]
  refine lv_iload_n hx hb dX4_ifPut_0 rfl (lv_at hl 1 rfl) ?_
  refine lv_bipush (v := 16) hx hb dX4_ifPut_1 (by decide) ?_
  obtain ⟨z1, hc3, h⟩ := k_b1_e h
  refine g_callRI_S (As := [.int p1, .int 16]) (rest := []) hC (mX4_isIndex l dC dI cyI cyC cyO p1 16 hc3) q80 q81 q8 q82 2 hdX4_isIndex ⟨Nat.le_of_ble_eq_true rfl, Nat.le_of_ble_eq_true rfl⟩ ⟨Nat.le_of_ble_eq_true rfl, Nat.le_of_ble_eq_true rfl⟩ rfl rfl hl.1 (Nat.le_of_ble_eq_true rfl) va_P_nil hK hS dX4_ifPut_3 (fun H locs hk hS => ?_)
  have hP := k_kept hP hk
  obtain ⟨K31, hK31, h⟩ := k_j1_e h
  have J31 : ∀ (z2 : Int32) (H : Heap) (locs : List Loc) (ls : Array Slot), K31 z2 = some (r, r_t_ones, r_t_twos, r_t_settings, r_t_tick, r_t_energy, r_t_valuesPut) → va_P (dC, dI) vwCl (wAll cyI cyC cyO ob n0 n1 n2 n3 t0 t1 t2 t3 s0 aR ro r1 r2 r3 x0 x1 x2 x3 x4 n_ones n_twos n_settings n_tick n_energy n_valuesPut t_ones t_twos t_settings t_tick t_energy t_valuesPut s_ring s_oldest s_count x_signs x_length x_position x_complete x_orders x_kinds x_numbers x_values) H → va_S (k_A (wAll cyI cyC cyO ob n0 n1 n2 n3 t0 t1 t2 t3 s0 aR ro r1 r2 r3 x0 x1 x2 x3 x4 n_ones n_twos n_settings n_tick n_energy n_valuesPut t_ones t_twos t_settings t_tick t_energy t_valuesPut s_ring s_oldest s_count x_signs x_length x_position x_complete x_orders x_kinds x_numbers x_values)) s.heap H locs → lv_has ls 4 [(0, .ref ob), (1, .int p1), (2, .int p2), (3, .int p3)] → W p l e (k_rm 6 137) s m [.ref ob, .int p1, .int p2, .int p3].toArray below meth c H locs 0 0 (MQ below (qMI r (dC, dI) (wAll cyI cyC cyO ob n0 n1 n2 n3 t0 t1 t2 t3 s0 aR ro r1 r2 r3 x0 x1 x2 x3 x4 n_ones n_twos n_settings n_tick n_energy n_valuesPut t_ones t_twos t_settings t_tick t_energy t_valuesPut s_ring s_oldest s_count x_signs x_length x_position x_complete x_orders x_kinds x_numbers x_values) (wAll cyI cyC cyO ob n0 n1 n2 n3 t0 t1 t2 t3 s0 aR ro r1 r2 r3 x0 x1 x2 x3 x4 n_ones n_twos n_settings n_tick n_energy n_valuesPut r_t_ones r_t_twos r_t_settings r_t_tick r_t_energy r_t_valuesPut s_ring s_oldest s_count x_signs x_length x_position x_complete x_orders x_kinds x_numbers x_values)) [.ref ob, .int p1, .int p2, .int p3].toArray s 0 0 (k_A (wAll cyI cyC cyO ob n0 n1 n2 n3 t0 t1 t2 t3 s0 aR ro r1 r2 r3 x0 x1 x2 x3 x4 n_ones n_twos n_settings n_tick n_energy n_valuesPut t_ones t_twos t_settings t_tick t_energy t_valuesPut s_ring s_oldest s_count x_signs x_length x_position x_complete x_orders x_kinds x_numbers x_values))) (F0 m 31 ls [.int z2]) := by
    intro z2 H locs ls h hP hS hl
    have h := k_a1 hK31 h
    obtain ⟨hv, h⟩ := k_req_e h
    refine g_callRV_S (As := [.int z2]) (rest := []) hC (mX4_requireArgument l (dC, dI) (tyS cyI cyC cyO) z2 hv) q83 q84 q8 q85 1 hdX4_requireArgument ⟨Nat.le_of_ble_eq_true rfl, Nat.le_of_ble_eq_true rfl⟩ ⟨Nat.le_of_ble_eq_true rfl, Nat.le_of_ble_eq_true rfl⟩ rfl rfl hl.1 (Nat.le_of_ble_eq_true rfl) va_P_nil hK hS dX4_ifPut_31 (fun H locs hk hS => ?_)
    have hP := k_kept hP hk
    refine lv_aload_n hx hb dX4_ifPut_34 rfl (lv_at hl 0 rfl) ?_
    refine lv_iload_n hx hb dX4_ifPut_35 rfl (lv_at hl 1 rfl) ?_
    refine lv_iload_n hx hb dX4_ifPut_36 rfl (lv_at hl 2 rfl) ?_
    refine lv_iload_n hx hb dX4_ifPut_37 rfl (lv_at hl 3 rfl) ?_
    obtain ⟨z3, c4, c5, c6, c7, c8, c9, hc38, h⟩ := k_b7_e h
    refine g_callMI_V (As := [.int p1, .int p2, .int p3]) (rest := []) hC (mX4_putOutcome l dC dI cyI cyC cyO ob n0 n1 n2 n3 t0 t1 t2 t3 s0 aR ro r1 r2 r3 x0 x1 x2 x3 x4 n_ones n_twos n_settings n_tick n_energy n_valuesPut t_ones t_twos t_settings t_tick t_energy t_valuesPut s_ring s_oldest s_count x_signs x_length x_position x_complete x_orders x_kinds x_numbers x_values p1 p2 p3 hc38) q335 q336 q4 q8 q337 3 hdX4_putOutcome ⟨Nat.le_of_ble_eq_true rfl, Nat.le_of_ble_eq_true rfl⟩ ⟨Nat.le_of_ble_eq_true rfl, Nat.le_of_ble_eq_true rfl⟩ rfl rfl hl.1 (Nat.le_of_ble_eq_true rfl) hP hK hD (va_recv hK hP (ci := 3) (q0 := 0) rfl rfl) hS dX4_ifPut_38 (fun H locs hPn hk hS => ?_)
    have hP : va_P (dC, dI) vwCl (wAll cyI cyC cyO ob n0 n1 n2 n3 t0 t1 t2 t3 s0 aR ro r1 r2 r3 x0 x1 x2 x3 x4 n_ones n_twos n_settings n_tick n_energy n_valuesPut c4 c5 c6 c7 c8 c9 s_ring s_oldest s_count x_signs x_length x_position x_complete x_orders x_kinds x_numbers x_values) H := hPn
    have hD : va_D (k_A (wAll cyI cyC cyO ob n0 n1 n2 n3 t0 t1 t2 t3 s0 aR ro r1 r2 r3 x0 x1 x2 x3 x4 n_ones n_twos n_settings n_tick n_energy n_valuesPut t_ones t_twos t_settings t_tick t_energy t_valuesPut s_ring s_oldest s_count x_signs x_length x_position x_complete x_orders x_kinds x_numbers x_values)) (wAll cyI cyC cyO ob n0 n1 n2 n3 t0 t1 t2 t3 s0 aR ro r1 r2 r3 x0 x1 x2 x3 x4 n_ones n_twos n_settings n_tick n_energy n_valuesPut c4 c5 c6 c7 c8 c9 s_ring s_oldest s_count x_signs x_length x_position x_complete x_orders x_kinds x_numbers x_values) := k_Dm hD rfl
    obtain ⟨e0, e1, e2, e3, e4, e5, e6⟩ := k_t7 h
    exact g_retMI hx hb hr hlk hS e0 (by rw [← e1, ← e2, ← e3, ← e4, ← e5, ← e6]; exact hP) dX4_ifPut_41
  refine g_if_eq (tgt := 30) hx hb dX4_ifPut_6 (by decide) h (fun h => ?_) (fun h => ?_)
  · refine lv_iconst (v := 0) hx hb dX4_ifPut_30 (by decide) ?_
    exact J31 0 _ _ _ h hP hS (lv_sub hl [0, 1, 2, 3] rfl)
  · refine lv_iload_n hx hb dX4_ifPut_9 rfl (lv_at hl 2 rfl) ?_
    refine lv_bipush (v := 64) hx hb dX4_ifPut_10 (by decide) ?_
    obtain ⟨z10, hc12, h⟩ := k_b1_e h
    refine g_callRI_S (As := [.int p2, .int 64]) (rest := []) hC (mX4_isIndex l dC dI cyI cyC cyO p2 64 hc12) q80 q81 q8 q82 2 hdX4_isIndex ⟨Nat.le_of_ble_eq_true rfl, Nat.le_of_ble_eq_true rfl⟩ ⟨Nat.le_of_ble_eq_true rfl, Nat.le_of_ble_eq_true rfl⟩ rfl rfl hl.1 (Nat.le_of_ble_eq_true rfl) va_P_nil hK hS dX4_ifPut_12 (fun H locs hk hS => ?_)
    have hP := k_kept hP hk
    refine g_if_eq (tgt := 30) hx hb dX4_ifPut_15 (by decide) h (fun h => ?_) (fun h => ?_)
    · refine lv_iconst (v := 0) hx hb dX4_ifPut_30 (by decide) ?_
      exact J31 0 _ _ _ h hP hS (lv_sub hl [0, 1, 2, 3] rfl)
    · refine lv_iload_n hx hb dX4_ifPut_18 rfl (lv_at hl 3 rfl) ?_
      refine lv_iconst (v := 5) hx hb dX4_ifPut_19 (by decide) ?_
      obtain ⟨z11, hc20, h⟩ := k_b1_e h
      refine g_callRI_S (As := [.int p3, .int 5]) (rest := []) hC (mX4_isIndex l dC dI cyI cyC cyO p3 5 hc20) q80 q81 q8 q82 2 hdX4_isIndex ⟨Nat.le_of_ble_eq_true rfl, Nat.le_of_ble_eq_true rfl⟩ ⟨Nat.le_of_ble_eq_true rfl, Nat.le_of_ble_eq_true rfl⟩ rfl rfl hl.1 (Nat.le_of_ble_eq_true rfl) va_P_nil hK hS dX4_ifPut_20 (fun H locs hk hS => ?_)
      have hP := k_kept hP hk
      refine g_if_eq (tgt := 30) hx hb dX4_ifPut_23 (by decide) h (fun h => ?_) (fun h => ?_)
      · refine lv_iconst (v := 0) hx hb dX4_ifPut_30 (by decide) ?_
        exact J31 0 _ _ _ h hP hS (lv_sub hl [0, 1, 2, 3] rfl)
      · refine lv_iconst (v := 1) hx hb dX4_ifPut_26 (by decide) ?_
        refine lv_goto (tgt := 31) hx hb dX4_ifPut_27 (by decide) ?_
        exact J31 1 _ _ _ h hP hS (lv_sub hl [0, 1, 2, 3] rfl)
def fX4_heatOutcome_s87 (c8 : Nat → Int32) (c9 : Nat → Int32) (c3 : Nat → Int32) (c4 : Int32) (c5 : Int32) (c6 : Int32) (n_ones : Nat → Int32) (n_twos : Nat → Int32) (n_settings : Nat → Int32) (n_tick : Int32) (rec87 : Int32 → Int32 → Option (Int32 × (Nat → Int32) × (Nat → Int32) × (Nat → Int32) × Int32 × Int32 × Int32)) (z10 : Int32) (z11 : Int32) : Option (Int32 × (Nat → Int32) × (Nat → Int32) × (Nat → Int32) × Int32 × Int32 × Int32) :=
  k_if (16 ≤ z11)
  (
    some (z10, c8, c9, c3, c4, c5, c6))
  (
    k_b1 (fX3_valueOfKey c8 c9 c3 c4 z11) fun (z12 : Int32) =>
    k_b1 (fX3_valueOfKey n_ones n_twos n_settings n_tick z11) fun (z13 : Int32) =>
    k_j1
    (fun (z14 : Int32) =>
      k_let (z10 + z14) fun (z15 : Int32) =>
      k_let (z11 + 1) fun (z16 : Int32) =>
      rec87 z15 z16)
    (fun K122 =>
    k_if (z12 = z13)
    (
      K122 0)
    (
      K122 1)))
def fX4_heatOutcome_s37 (c8 : Nat → Int32) (c9 : Nat → Int32) (c3 : Nat → Int32) (c4 : Int32) (c5 : Int32) (c6 : Int32) (n_ones : Nat → Int32) (n_twos : Nat → Int32) (n_settings : Nat → Int32) (n_tick : Int32) (rec37 : Int32 → Int32 → Option (Int32 × (Nat → Int32) × (Nat → Int32) × (Nat → Int32) × Int32 × Int32 × Int32)) (z17 : Int32) (z18 : Int32) : Option (Int32 × (Nat → Int32) × (Nat → Int32) × (Nat → Int32) × Int32 × Int32 × Int32) :=
  k_if (20 ≤ z18)
  (
    some (z17, c8, c9, c3, c4, c5, c6))
  (
    k_b1 (fX3_kind c8 c9 c3 c4 z18) fun (z19 : Int32) =>
    k_b1 (fX3_kind n_ones n_twos n_settings n_tick z18) fun (z20 : Int32) =>
    k_j1
    (fun (z21 : Int32) =>
      k_let (z17 + z21) fun (z22 : Int32) =>
      k_let (z18 + 1) fun (z23 : Int32) =>
      rec37 z22 z23)
    (fun K72 =>
    k_if (z19 = z20)
    (
      K72 0)
    (
      K72 1)))
def fX4_heatOutcome (n_ones : Nat → Int32) (n_twos : Nat → Int32) (n_settings : Nat → Int32) (n_tick : Int32) (n_energy : Int32) (n_valuesPut : Int32) (t_ones : Nat → Int32) (t_twos : Nat → Int32) (t_settings : Nat → Int32) (t_tick : Int32) (t_energy : Int32) (t_valuesPut : Int32) (p1 : Int32) (p2 : Int32) : Option (Int32 × (Nat → Int32) × (Nat → Int32) × (Nat → Int32) × Int32 × Int32 × Int32) :=
  k_b6 (fX3_copyFrom t_ones t_twos t_settings t_tick t_energy t_valuesPut n_ones n_twos n_settings n_tick n_energy n_valuesPut) fun (c1 : Nat → Int32) (c2 : Nat → Int32) (c3 : Nat → Int32) (c4 : Int32) (c5 : Int32) (c6 : Int32) =>
  k_b3 (fX3_heatRows c1 c2 p1) fun (z7 : Int32) (c8 : Nat → Int32) (c9 : Nat → Int32) =>
  k_if (p2 = 0)
  (
    some (z7, c8, c9, c3, c4, c5, c6))
  (
    k_if (p2 = 1)
    (
      k_l2 (fX4_heatOutcome_s37 c8 c9 c3 c4 c5 c6 n_ones n_twos n_settings n_tick) 5000 0 0)
    (
      k_l2 (fX4_heatOutcome_s87 c8 c9 c3 c4 c5 c6 n_ones n_twos n_settings n_tick) 5000 0 0))
theorem hdX4_heatOutcome : yX4_heatOutcome.cls = RX4 ∧ yX4_heatOutcome.cls ≠ "java/lang/invoke/MethodHandle" ∧ yX4_heatOutcome.cls ≠ "java/lang/invoke/VarHandle" ∧ (parseMethodDescriptor yX4_heatOutcome.desc).map (fun d => d.parameters.length) = some 2 := by decide +kernel
set_option maxRecDepth 100000 in
set_option maxHeartbeats 4000000 in
theorem mX4_heatOutcome (l : Launch) (dC : Nat → ClassId) (dI : Nat → Nat → Nat) (cyI cyC cyO : ClassId) (ob : Nat) (n0 : Nat) (n1 : Nat) (n2 : Nat) (n3 : Nat) (t0 : Nat) (t1 : Nat) (t2 : Nat) (t3 : Nat) (s0 : Nat) (aR : Nat) (ro : Nat → Nat) (r1 : Nat → Nat) (r2 : Nat → Nat) (r3 : Nat → Nat) (x0 : Nat) (x1 : Nat) (x2 : Nat) (x3 : Nat) (x4 : Nat) (n_ones : Nat → Int32) (n_twos : Nat → Int32) (n_settings : Nat → Int32) (n_tick : Int32) (n_energy : Int32) (n_valuesPut : Int32) (t_ones : Nat → Int32) (t_twos : Nat → Int32) (t_settings : Nat → Int32) (t_tick : Int32) (t_energy : Int32) (t_valuesPut : Int32) (s_ring : Nat → SV) (s_oldest : Int32) (s_count : Int32) (x_signs : Nat → Int32) (x_length : Int32) (x_position : Int32) (x_complete : Int32) (x_orders : Int32) (x_kinds : Nat → Int32) (x_numbers : Nat → Int32) (x_values : Nat → Int32) (p1 : Int32) (p2 : Int32) {r : Int32} {r_t_ones : Nat → Int32} {r_t_twos : Nat → Int32} {r_t_settings : Nat → Int32} {r_t_tick : Int32} {r_t_energy : Int32} {r_t_valuesPut : Int32} (hf : fX4_heatOutcome n_ones n_twos n_settings n_tick n_energy n_valuesPut t_ones t_twos t_settings t_tick t_energy t_valuesPut p1 p2 = some (r, r_t_ones, r_t_twos, r_t_settings, r_t_tick, r_t_energy, r_t_valuesPut)) : MetMI l yX4_heatOutcome cX4_heatOutcome 6 (some .int) 5 111 [.ref ob, .int p1, .int p2] (dC, dI) (tyS cyI cyC cyO) (wAll cyI cyC cyO ob n0 n1 n2 n3 t0 t1 t2 t3 s0 aR ro r1 r2 r3 x0 x1 x2 x3 x4 n_ones n_twos n_settings n_tick n_energy n_valuesPut t_ones t_twos t_settings t_tick t_energy t_valuesPut s_ring s_oldest s_count x_signs x_length x_position x_complete x_orders x_kinds x_numbers x_values) (wAll cyI cyC cyO ob n0 n1 n2 n3 t0 t1 t2 t3 s0 aR ro r1 r2 r3 x0 x1 x2 x3 x4 n_ones n_twos n_settings n_tick n_energy n_valuesPut r_t_ones r_t_twos r_t_settings r_t_tick r_t_energy r_t_valuesPut s_ring s_oldest s_count x_signs x_length x_position x_complete x_orders x_kinds x_numbers x_values) r := by
  refine metMI_of (by decide) (Nat.le_of_ble_eq_true rfl) ?_
  intro p e s m below meth c ls hC hr hlk hP hK hD hl
  have hC : CallFix p m c cX4_heatOutcome 6 s [.ref ob, .int p1, .int p2].toArray wA RX4 := hC
  obtain ⟨hx, hb, hml, hown, hts⟩ := id hC
  have hS : va_S (k_A (wAll cyI cyC cyO ob n0 n1 n2 n3 t0 t1 t2 t3 s0 aR ro r1 r2 r3 x0 x1 x2 x3 x4 n_ones n_twos n_settings n_tick n_energy n_valuesPut t_ones t_twos t_settings t_tick t_energy t_valuesPut s_ring s_oldest s_count x_signs x_length x_position x_complete x_orders x_kinds x_numbers x_values)) s.heap s.heap [] := va_S.rf
  have hl : lv_has ls 6 [(0, .ref ob), (1, .int p1), (2, .int p2)] := hl
  have h := hf
  unfold fX4_heatOutcome at h
  obtain ⟨H, hH⟩ : ∃ H, H = s.heap := ⟨_, rfl⟩
  obtain ⟨locs, hlo⟩ : ∃ locs : List Loc, locs = [] := ⟨_, rfl⟩
  rw [← hH] at hP
  rw [← hlo] at hS
  have hS : va_S (k_A (wAll cyI cyC cyO ob n0 n1 n2 n3 t0 t1 t2 t3 s0 aR ro r1 r2 r3 x0 x1 x2 x3 x4 n_ones n_twos n_settings n_tick n_energy n_valuesPut t_ones t_twos t_settings t_tick t_energy t_valuesPut s_ring s_oldest s_count x_signs x_length x_position x_complete x_orders x_kinds x_numbers x_values)) s.heap H locs := by rw [hH]; exact hS
  show W p l e (k_rm 5 111) s m [.ref ob, .int p1, .int p2].toArray below meth c s.heap [] 0 0 _ _
  rw [← hlo, ← hH]
  refine lv_aload_n hx hb dX4_heatOutcome_0 rfl (lv_at hl 0 rfl) ?_
  refine va_get (D := (dC, dI)) (ci := 3) (v := .ref t0) (C := RX4) (T := TX4) (N := 4) hx hb hts iaX4 hown hK hP 0 rfl rfl 1 (by decide) (hts _ q73) (fun _ h9 => h9) rfl dX4_heatOutcome_1 ?_
  refine lv_aload_n hx hb dX4_heatOutcome_4 rfl (lv_at hl 0 rfl) ?_
  refine va_get (D := (dC, dI)) (ci := 3) (v := .ref n0) (C := RX4) (T := TX4) (N := 4) hx hb hts iaX4 hown hK hP 0 rfl rfl 0 (by decide) (hts _ q72) (fun _ h9 => h9) rfl dX4_heatOutcome_5 ?_
  obtain ⟨c1, c2, c3, c4, c5, c6, hc8, h⟩ := k_b6_e h
  refine g_callMV_V (As := [.ref n0]) (rest := []) hC (mX3_copyFrom l dC dI cyI cyC cyO t0 t1 t2 t3 n0 n1 n2 n3 t_ones t_twos t_settings t_tick t_energy t_valuesPut n_ones n_twos n_settings n_tick n_energy n_valuesPut hc8) q338 q129 q130 q9 q131 1 hdX3_copyFrom ⟨Nat.le_of_ble_eq_true rfl, Nat.le_of_ble_eq_true rfl⟩ ⟨Nat.le_of_ble_eq_true rfl, Nat.le_of_ble_eq_true rfl⟩ rfl rfl hl.1 (Nat.le_of_ble_eq_true rfl) (hP.sub (ws' := (wX3 cyI cyC t0 t1 t2 t3 t_ones t_twos t_settings t_tick t_energy t_valuesPut) ++ (wX3 cyI cyC n0 n1 n2 n3 n_ones n_twos n_settings n_tick n_energy n_valuesPut)) [5, 6, 7, 8, 1, 2, 3, 4] rfl) hK (hD.sub (ws' := (wX3 cyI cyC t0 t1 t2 t3 t_ones t_twos t_settings t_tick t_energy t_valuesPut) ++ (wX3 cyI cyC n0 n1 n2 n3 n_ones n_twos n_settings n_tick n_energy n_valuesPut)) [5, 6, 7, 8, 1, 2, 3, 4] (by decide) rfl) (va_recv hK hP (ci := 2) (q0 := 5) rfl rfl) hS dX4_heatOutcome_8 (fun H locs hPn hk hS => ?_)
  have hP : va_P (dC, dI) vwCl (wAll cyI cyC cyO ob n0 n1 n2 n3 t0 t1 t2 t3 s0 aR ro r1 r2 r3 x0 x1 x2 x3 x4 n_ones n_twos n_settings n_tick n_energy n_valuesPut c1 c2 c3 c4 c5 c6 s_ring s_oldest s_count x_signs x_length x_position x_complete x_orders x_kinds x_numbers x_values) H := k_repl hP hD [5, 6, 7, 8, 1, 2, 3, 4] rfl hk hPn [.inl 0, .inr 4, .inr 5, .inr 6, .inr 7, .inr 0, .inr 1, .inr 2, .inr 3, .inl 9, .inl 10, .inl 11, .inl 12, .inl 13, .inl 14, .inl 15, .inl 16, .inl 17, .inl 18, .inl 19, .inl 20, .inl 21, .inl 22, .inl 23, .inl 24, .inl 25, .inl 26, .inl 27, .inl 28, .inl 29, .inl 30, .inl 31, .inl 32, .inl 33, .inl 34, .inl 35, .inl 36, .inl 37, .inl 38, .inl 39] rfl (by decide)
  have hD : va_D (k_A (wAll cyI cyC cyO ob n0 n1 n2 n3 t0 t1 t2 t3 s0 aR ro r1 r2 r3 x0 x1 x2 x3 x4 n_ones n_twos n_settings n_tick n_energy n_valuesPut t_ones t_twos t_settings t_tick t_energy t_valuesPut s_ring s_oldest s_count x_signs x_length x_position x_complete x_orders x_kinds x_numbers x_values)) (wAll cyI cyC cyO ob n0 n1 n2 n3 t0 t1 t2 t3 s0 aR ro r1 r2 r3 x0 x1 x2 x3 x4 n_ones n_twos n_settings n_tick n_energy n_valuesPut c1 c2 c3 c4 c5 c6 s_ring s_oldest s_count x_signs x_length x_position x_complete x_orders x_kinds x_numbers x_values) := k_Dm hD rfl
  refine lv_aload_n hx hb dX4_heatOutcome_11 rfl (lv_at hl 0 rfl) ?_
  refine va_get (D := (dC, dI)) (ci := 3) (v := .ref t0) (C := RX4) (T := TX4) (N := 4) hx hb hts iaX4 hown hK hP 0 rfl rfl 1 (by decide) (hts _ q73) (fun _ h9 => h9) rfl dX4_heatOutcome_12 ?_
  refine lv_iload_n hx hb dX4_heatOutcome_15 rfl (lv_at hl 1 rfl) ?_
  obtain ⟨z7, c8, c9, hc16, h⟩ := k_b3_e h
  refine g_callMI_V (As := [.int p1]) (rest := []) hC (mX3_heatRows l dC dI cyI cyC cyO t0 t1 t2 t3 c1 c2 c3 c4 c5 c6 p1 hc16) q431 q432 q433 q9 q434 1 hdX3_heatRows ⟨Nat.le_of_ble_eq_true rfl, Nat.le_of_ble_eq_true rfl⟩ ⟨Nat.le_of_ble_eq_true rfl, Nat.le_of_ble_eq_true rfl⟩ rfl rfl hl.1 (Nat.le_of_ble_eq_true rfl) (hP.sub (ws' := (wX3 cyI cyC t0 t1 t2 t3 c1 c2 c3 c4 c5 c6)) [5, 6, 7, 8] rfl) hK (hD.sub (ws' := (wX3 cyI cyC t0 t1 t2 t3 c1 c2 c3 c4 c5 c6)) [5, 6, 7, 8] (by decide) rfl) (va_recv hK hP (ci := 2) (q0 := 5) rfl rfl) hS dX4_heatOutcome_16 (fun H locs hPn hk hS => ?_)
  have hP : va_P (dC, dI) vwCl (wAll cyI cyC cyO ob n0 n1 n2 n3 t0 t1 t2 t3 s0 aR ro r1 r2 r3 x0 x1 x2 x3 x4 n_ones n_twos n_settings n_tick n_energy n_valuesPut c8 c9 c3 c4 c5 c6 s_ring s_oldest s_count x_signs x_length x_position x_complete x_orders x_kinds x_numbers x_values) H := k_repl hP hD [5, 6, 7, 8] rfl hk hPn [.inl 0, .inl 1, .inl 2, .inl 3, .inl 4, .inr 0, .inr 1, .inr 2, .inr 3, .inl 9, .inl 10, .inl 11, .inl 12, .inl 13, .inl 14, .inl 15, .inl 16, .inl 17, .inl 18, .inl 19, .inl 20, .inl 21, .inl 22, .inl 23, .inl 24, .inl 25, .inl 26, .inl 27, .inl 28, .inl 29, .inl 30, .inl 31, .inl 32, .inl 33, .inl 34, .inl 35, .inl 36, .inl 37, .inl 38, .inl 39] rfl (by decide)
  have hD : va_D (k_A (wAll cyI cyC cyO ob n0 n1 n2 n3 t0 t1 t2 t3 s0 aR ro r1 r2 r3 x0 x1 x2 x3 x4 n_ones n_twos n_settings n_tick n_energy n_valuesPut t_ones t_twos t_settings t_tick t_energy t_valuesPut s_ring s_oldest s_count x_signs x_length x_position x_complete x_orders x_kinds x_numbers x_values)) (wAll cyI cyC cyO ob n0 n1 n2 n3 t0 t1 t2 t3 s0 aR ro r1 r2 r3 x0 x1 x2 x3 x4 n_ones n_twos n_settings n_tick n_energy n_valuesPut c8 c9 c3 c4 c5 c6 s_ring s_oldest s_count x_signs x_length x_position x_complete x_orders x_kinds x_numbers x_values) := k_Dm hD rfl
  refine lv_istore_n (lv' := [(3, .int z7), (0, .ref ob), (1, .int p1), (2, .int p2)]) hx hb dX4_heatOutcome_19 rfl hl (by decide) rfl (fun ls hl => ?_)
  refine lv_iload_n hx hb dX4_heatOutcome_20 rfl (lv_at hl 3 rfl) ?_
  refine g_if_ne (tgt := 26) hx hb dX4_heatOutcome_21 (by decide) h (fun h => ?_) (fun h => ?_)
  · refine lv_iconst (v := 0) hx hb dX4_heatOutcome_26 (by decide) ?_
    refine lv_istore (lv' := [(4, .int 0), (3, .int z7), (0, .ref ob), (1, .int p1), (2, .int p2)]) hx hb dX4_heatOutcome_27 hl (by decide) rfl (fun ls hl => ?_)
    refine lv_iload_n hx hb dX4_heatOutcome_29 rfl (lv_at hl 4 rfl) ?_
    refine lv_iconst (v := 1) hx hb dX4_heatOutcome_30 (by decide) ?_
    refine g_icmp_ne (tgt := 84) hx hb dX4_heatOutcome_31 (by decide) h (fun h => ?_) (fun h => ?_)
    · refine lv_iconst (v := 0) hx hb dX4_heatOutcome_84 (by decide) ?_
      refine lv_istore (lv' := [(5, .int 0), (4, .int 0), (3, .int z7), (0, .ref ob), (1, .int p1), (2, .int p2)]) hx hb dX4_heatOutcome_85 hl (by decide) rfl (fun ls hl => ?_)
      obtain ⟨S87, hS87⟩ : ∃ z, z = (fX4_heatOutcome_s87 c8 c9 c3 c4 c5 c6 n_ones n_twos n_settings n_tick) := ⟨_, rfl⟩
      rw [← hS87] at h
      have L87 : ∀ (n : Nat) (z10 : Int32) (z11 : Int32) (H : Heap) (locs : List Loc) (ls : Array Slot), k_l2 S87 n z10 z11 = some (r, r_t_ones, r_t_twos, r_t_settings, r_t_tick, r_t_energy, r_t_valuesPut) → va_P (dC, dI) vwCl (wAll cyI cyC cyO ob n0 n1 n2 n3 t0 t1 t2 t3 s0 aR ro r1 r2 r3 x0 x1 x2 x3 x4 n_ones n_twos n_settings n_tick n_energy n_valuesPut c8 c9 c3 c4 c5 c6 s_ring s_oldest s_count x_signs x_length x_position x_complete x_orders x_kinds x_numbers x_values) H → va_S (k_A (wAll cyI cyC cyO ob n0 n1 n2 n3 t0 t1 t2 t3 s0 aR ro r1 r2 r3 x0 x1 x2 x3 x4 n_ones n_twos n_settings n_tick n_energy n_valuesPut t_ones t_twos t_settings t_tick t_energy t_valuesPut s_ring s_oldest s_count x_signs x_length x_position x_complete x_orders x_kinds x_numbers x_values)) s.heap H locs → lv_has ls 6 [(0, .ref ob), (4, .int z10), (5, .int z11)] → W p l e (k_rm 5 111) s m [.ref ob, .int p1, .int p2].toArray below meth c H locs 0 0 (MQ below (qMI r (dC, dI) (wAll cyI cyC cyO ob n0 n1 n2 n3 t0 t1 t2 t3 s0 aR ro r1 r2 r3 x0 x1 x2 x3 x4 n_ones n_twos n_settings n_tick n_energy n_valuesPut t_ones t_twos t_settings t_tick t_energy t_valuesPut s_ring s_oldest s_count x_signs x_length x_position x_complete x_orders x_kinds x_numbers x_values) (wAll cyI cyC cyO ob n0 n1 n2 n3 t0 t1 t2 t3 s0 aR ro r1 r2 r3 x0 x1 x2 x3 x4 n_ones n_twos n_settings n_tick n_energy n_valuesPut r_t_ones r_t_twos r_t_settings r_t_tick r_t_energy r_t_valuesPut s_ring s_oldest s_count x_signs x_length x_position x_complete x_orders x_kinds x_numbers x_values)) [.ref ob, .int p1, .int p2].toArray s 0 0 (k_A (wAll cyI cyC cyO ob n0 n1 n2 n3 t0 t1 t2 t3 s0 aR ro r1 r2 r3 x0 x1 x2 x3 x4 n_ones n_twos n_settings n_tick n_energy n_valuesPut t_ones t_twos t_settings t_tick t_energy t_valuesPut s_ring s_oldest s_count x_signs x_length x_position x_complete x_orders x_kinds x_numbers x_values))) (F0 m 87 ls []) := by
        intro n
        induction n with
        | zero =>
          intro z10 z11 H locs ls h
          exact (k_l2_0 h).elim
        | succ n ih87 =>
          intro z10 z11 H locs ls h hP hS hl
          have h := k_l2_s h
          have h := k_a3 hS87 h
          unfold fX4_heatOutcome_s87 at h
          refine lv_iload hx hb dX4_heatOutcome_87 (lv_at hl 2 rfl) ?_
          refine lv_bipush (v := 16) hx hb dX4_heatOutcome_89 (by decide) ?_
          refine g_icmp_ge (tgt := 131) hx hb dX4_heatOutcome_91 (by decide) h (fun h => ?_) (fun h => ?_)
          · refine lv_iload hx hb dX4_heatOutcome_131 (lv_at hl 1 rfl) ?_
            obtain ⟨e0, e1, e2, e3, e4, e5, e6⟩ := k_t7 h
            exact g_retMI hx hb hr hlk hS e0 (by rw [← e1, ← e2, ← e3, ← e4, ← e5, ← e6]; exact hP) dX4_heatOutcome_133
          · refine lv_iload hx hb dX4_heatOutcome_94 (lv_at hl 1 rfl) ?_
            refine lv_aload_n hx hb dX4_heatOutcome_96 rfl (lv_at hl 0 rfl) ?_
            refine va_get (D := (dC, dI)) (ci := 3) (v := .ref t0) (C := RX4) (T := TX4) (N := 4) hx hb hts iaX4 hown hK hP 0 rfl rfl 1 (by decide) (hts _ q73) (fun _ h9 => h9) rfl dX4_heatOutcome_97 ?_
            refine lv_iload hx hb dX4_heatOutcome_100 (lv_at hl 2 rfl) ?_
            obtain ⟨z12, hc102, h⟩ := k_b1_e h
            refine g_callRI_V (As := [.int z11]) (rest := [.int z10]) hC (mX3_valueOfKey l dC dI cyI cyC cyO t0 t1 t2 t3 c8 c9 c3 c4 c5 c6 z11 hc102) q264 q265 q266 q9 q267 1 hdX3_valueOfKey ⟨Nat.le_of_ble_eq_true rfl, Nat.le_of_ble_eq_true rfl⟩ ⟨Nat.le_of_ble_eq_true rfl, Nat.le_of_ble_eq_true rfl⟩ rfl rfl hl.1 (Nat.le_of_ble_eq_true rfl) (hP.sub (ws' := (wX3 cyI cyC t0 t1 t2 t3 c8 c9 c3 c4 c5 c6)) [5, 6, 7, 8] rfl) hK (va_recv hK hP (ci := 2) (q0 := 5) rfl rfl) hS dX4_heatOutcome_102 (fun H locs hk hS => ?_)
            have hP := k_kept hP hk
            refine lv_aload_n hx hb dX4_heatOutcome_105 rfl (lv_at hl 0 rfl) ?_
            refine va_get (D := (dC, dI)) (ci := 3) (v := .ref n0) (C := RX4) (T := TX4) (N := 4) hx hb hts iaX4 hown hK hP 0 rfl rfl 0 (by decide) (hts _ q72) (fun _ h9 => h9) rfl dX4_heatOutcome_106 ?_
            refine lv_iload hx hb dX4_heatOutcome_109 (lv_at hl 2 rfl) ?_
            obtain ⟨z13, hc111, h⟩ := k_b1_e h
            refine g_callRI_V (As := [.int z11]) (rest := [.int z12, .int z10]) hC (mX3_valueOfKey l dC dI cyI cyC cyO n0 n1 n2 n3 n_ones n_twos n_settings n_tick n_energy n_valuesPut z11 hc111) q264 q265 q266 q9 q267 1 hdX3_valueOfKey ⟨Nat.le_of_ble_eq_true rfl, Nat.le_of_ble_eq_true rfl⟩ ⟨Nat.le_of_ble_eq_true rfl, Nat.le_of_ble_eq_true rfl⟩ rfl rfl hl.1 (Nat.le_of_ble_eq_true rfl) (hP.sub (ws' := (wX3 cyI cyC n0 n1 n2 n3 n_ones n_twos n_settings n_tick n_energy n_valuesPut)) [1, 2, 3, 4] rfl) hK (va_recv hK hP (ci := 2) (q0 := 1) rfl rfl) hS dX4_heatOutcome_111 (fun H locs hk hS => ?_)
            have hP := k_kept hP hk
            obtain ⟨K122, hK122, h⟩ := k_j1_e h
            have J122 : ∀ (z14 : Int32) (H : Heap) (locs : List Loc) (ls : Array Slot), K122 z14 = some (r, r_t_ones, r_t_twos, r_t_settings, r_t_tick, r_t_energy, r_t_valuesPut) → va_P (dC, dI) vwCl (wAll cyI cyC cyO ob n0 n1 n2 n3 t0 t1 t2 t3 s0 aR ro r1 r2 r3 x0 x1 x2 x3 x4 n_ones n_twos n_settings n_tick n_energy n_valuesPut c8 c9 c3 c4 c5 c6 s_ring s_oldest s_count x_signs x_length x_position x_complete x_orders x_kinds x_numbers x_values) H → va_S (k_A (wAll cyI cyC cyO ob n0 n1 n2 n3 t0 t1 t2 t3 s0 aR ro r1 r2 r3 x0 x1 x2 x3 x4 n_ones n_twos n_settings n_tick n_energy n_valuesPut t_ones t_twos t_settings t_tick t_energy t_valuesPut s_ring s_oldest s_count x_signs x_length x_position x_complete x_orders x_kinds x_numbers x_values)) s.heap H locs → lv_has ls 6 [(0, .ref ob), (5, .int z11)] → W p l e (k_rm 5 111) s m [.ref ob, .int p1, .int p2].toArray below meth c H locs 0 0 (MQ below (qMI r (dC, dI) (wAll cyI cyC cyO ob n0 n1 n2 n3 t0 t1 t2 t3 s0 aR ro r1 r2 r3 x0 x1 x2 x3 x4 n_ones n_twos n_settings n_tick n_energy n_valuesPut t_ones t_twos t_settings t_tick t_energy t_valuesPut s_ring s_oldest s_count x_signs x_length x_position x_complete x_orders x_kinds x_numbers x_values) (wAll cyI cyC cyO ob n0 n1 n2 n3 t0 t1 t2 t3 s0 aR ro r1 r2 r3 x0 x1 x2 x3 x4 n_ones n_twos n_settings n_tick n_energy n_valuesPut r_t_ones r_t_twos r_t_settings r_t_tick r_t_energy r_t_valuesPut s_ring s_oldest s_count x_signs x_length x_position x_complete x_orders x_kinds x_numbers x_values)) [.ref ob, .int p1, .int p2].toArray s 0 0 (k_A (wAll cyI cyC cyO ob n0 n1 n2 n3 t0 t1 t2 t3 s0 aR ro r1 r2 r3 x0 x1 x2 x3 x4 n_ones n_twos n_settings n_tick n_energy n_valuesPut t_ones t_twos t_settings t_tick t_energy t_valuesPut s_ring s_oldest s_count x_signs x_length x_position x_complete x_orders x_kinds x_numbers x_values))) (F0 m 122 ls [.int z14, .int z10]) := by
              intro z14 H locs ls h hP hS hl
              have h := k_a1 hK122 h
              refine g_iadd hx hb dX4_heatOutcome_122 h (fun z15 h => ?_)
              refine lv_istore (lv' := [(4, .int z15), (0, .ref ob), (5, .int z11)]) hx hb dX4_heatOutcome_123 hl (by decide) rfl (fun ls hl => ?_)
              refine g_iinc (dv := 1) hx hb dX4_heatOutcome_125 hl (j := 2) rfl (by decide) (by decide) h (fun z16 ls h hl => ?_)
              have hl : lv_has ls 6 [(5, .int z16), (4, .int z15), (0, .ref ob)] := hl
              refine lv_goto (tgt := 87) hx hb dX4_heatOutcome_128 (by decide) ?_
              exact ih87 z15 z16 _ _ _ h hP hS (lv_sub hl [2, 1, 0] rfl)
            refine g_icmp_eq (tgt := 121) hx hb dX4_heatOutcome_114 (by decide) h (fun h => ?_) (fun h => ?_)
            · refine lv_iconst (v := 0) hx hb dX4_heatOutcome_121 (by decide) ?_
              exact J122 0 _ _ _ h hP hS (lv_sub hl [0, 2] rfl)
            · refine lv_iconst (v := 1) hx hb dX4_heatOutcome_117 (by decide) ?_
              refine lv_goto (tgt := 122) hx hb dX4_heatOutcome_118 (by decide) ?_
              exact J122 1 _ _ _ h hP hS (lv_sub hl [0, 2] rfl)
      exact L87 5000 0 0 _ _ _ h hP hS (lv_sub hl [3, 1, 0] rfl)
    · refine lv_iconst (v := 0) hx hb dX4_heatOutcome_34 (by decide) ?_
      refine lv_istore (lv' := [(5, .int 0), (4, .int 0), (3, .int z7), (0, .ref ob), (1, .int p1), (2, .int p2)]) hx hb dX4_heatOutcome_35 hl (by decide) rfl (fun ls hl => ?_)
      obtain ⟨S37, hS37⟩ : ∃ z, z = (fX4_heatOutcome_s37 c8 c9 c3 c4 c5 c6 n_ones n_twos n_settings n_tick) := ⟨_, rfl⟩
      rw [← hS37] at h
      have L37 : ∀ (n : Nat) (z17 : Int32) (z18 : Int32) (H : Heap) (locs : List Loc) (ls : Array Slot), k_l2 S37 n z17 z18 = some (r, r_t_ones, r_t_twos, r_t_settings, r_t_tick, r_t_energy, r_t_valuesPut) → va_P (dC, dI) vwCl (wAll cyI cyC cyO ob n0 n1 n2 n3 t0 t1 t2 t3 s0 aR ro r1 r2 r3 x0 x1 x2 x3 x4 n_ones n_twos n_settings n_tick n_energy n_valuesPut c8 c9 c3 c4 c5 c6 s_ring s_oldest s_count x_signs x_length x_position x_complete x_orders x_kinds x_numbers x_values) H → va_S (k_A (wAll cyI cyC cyO ob n0 n1 n2 n3 t0 t1 t2 t3 s0 aR ro r1 r2 r3 x0 x1 x2 x3 x4 n_ones n_twos n_settings n_tick n_energy n_valuesPut t_ones t_twos t_settings t_tick t_energy t_valuesPut s_ring s_oldest s_count x_signs x_length x_position x_complete x_orders x_kinds x_numbers x_values)) s.heap H locs → lv_has ls 6 [(0, .ref ob), (4, .int z17), (5, .int z18)] → W p l e (k_rm 5 111) s m [.ref ob, .int p1, .int p2].toArray below meth c H locs 0 0 (MQ below (qMI r (dC, dI) (wAll cyI cyC cyO ob n0 n1 n2 n3 t0 t1 t2 t3 s0 aR ro r1 r2 r3 x0 x1 x2 x3 x4 n_ones n_twos n_settings n_tick n_energy n_valuesPut t_ones t_twos t_settings t_tick t_energy t_valuesPut s_ring s_oldest s_count x_signs x_length x_position x_complete x_orders x_kinds x_numbers x_values) (wAll cyI cyC cyO ob n0 n1 n2 n3 t0 t1 t2 t3 s0 aR ro r1 r2 r3 x0 x1 x2 x3 x4 n_ones n_twos n_settings n_tick n_energy n_valuesPut r_t_ones r_t_twos r_t_settings r_t_tick r_t_energy r_t_valuesPut s_ring s_oldest s_count x_signs x_length x_position x_complete x_orders x_kinds x_numbers x_values)) [.ref ob, .int p1, .int p2].toArray s 0 0 (k_A (wAll cyI cyC cyO ob n0 n1 n2 n3 t0 t1 t2 t3 s0 aR ro r1 r2 r3 x0 x1 x2 x3 x4 n_ones n_twos n_settings n_tick n_energy n_valuesPut t_ones t_twos t_settings t_tick t_energy t_valuesPut s_ring s_oldest s_count x_signs x_length x_position x_complete x_orders x_kinds x_numbers x_values))) (F0 m 37 ls []) := by
        intro n
        induction n with
        | zero =>
          intro z17 z18 H locs ls h
          exact (k_l2_0 h).elim
        | succ n ih37 =>
          intro z17 z18 H locs ls h hP hS hl
          have h := k_l2_s h
          have h := k_a3 hS37 h
          unfold fX4_heatOutcome_s37 at h
          refine lv_iload hx hb dX4_heatOutcome_37 (lv_at hl 2 rfl) ?_
          refine lv_bipush (v := 20) hx hb dX4_heatOutcome_39 (by decide) ?_
          refine g_icmp_ge (tgt := 81) hx hb dX4_heatOutcome_41 (by decide) h (fun h => ?_) (fun h => ?_)
          · refine lv_iload hx hb dX4_heatOutcome_81 (lv_at hl 1 rfl) ?_
            obtain ⟨e0, e1, e2, e3, e4, e5, e6⟩ := k_t7 h
            exact g_retMI hx hb hr hlk hS e0 (by rw [← e1, ← e2, ← e3, ← e4, ← e5, ← e6]; exact hP) dX4_heatOutcome_83
          · refine lv_iload hx hb dX4_heatOutcome_44 (lv_at hl 1 rfl) ?_
            refine lv_aload_n hx hb dX4_heatOutcome_46 rfl (lv_at hl 0 rfl) ?_
            refine va_get (D := (dC, dI)) (ci := 3) (v := .ref t0) (C := RX4) (T := TX4) (N := 4) hx hb hts iaX4 hown hK hP 0 rfl rfl 1 (by decide) (hts _ q73) (fun _ h9 => h9) rfl dX4_heatOutcome_47 ?_
            refine lv_iload hx hb dX4_heatOutcome_50 (lv_at hl 2 rfl) ?_
            obtain ⟨z19, hc52, h⟩ := k_b1_e h
            refine g_callRI_V (As := [.int z18]) (rest := [.int z17]) hC (mX3_kind l dC dI cyI cyC cyO t0 t1 t2 t3 c8 c9 c3 c4 c5 c6 z18 hc52) q364 q320 q321 q9 q322 1 hdX3_kind ⟨Nat.le_of_ble_eq_true rfl, Nat.le_of_ble_eq_true rfl⟩ ⟨Nat.le_of_ble_eq_true rfl, Nat.le_of_ble_eq_true rfl⟩ rfl rfl hl.1 (Nat.le_of_ble_eq_true rfl) (hP.sub (ws' := (wX3 cyI cyC t0 t1 t2 t3 c8 c9 c3 c4 c5 c6)) [5, 6, 7, 8] rfl) hK (va_recv hK hP (ci := 2) (q0 := 5) rfl rfl) hS dX4_heatOutcome_52 (fun H locs hk hS => ?_)
            have hP := k_kept hP hk
            refine lv_aload_n hx hb dX4_heatOutcome_55 rfl (lv_at hl 0 rfl) ?_
            refine va_get (D := (dC, dI)) (ci := 3) (v := .ref n0) (C := RX4) (T := TX4) (N := 4) hx hb hts iaX4 hown hK hP 0 rfl rfl 0 (by decide) (hts _ q72) (fun _ h9 => h9) rfl dX4_heatOutcome_56 ?_
            refine lv_iload hx hb dX4_heatOutcome_59 (lv_at hl 2 rfl) ?_
            obtain ⟨z20, hc61, h⟩ := k_b1_e h
            refine g_callRI_V (As := [.int z18]) (rest := [.int z19, .int z17]) hC (mX3_kind l dC dI cyI cyC cyO n0 n1 n2 n3 n_ones n_twos n_settings n_tick n_energy n_valuesPut z18 hc61) q364 q320 q321 q9 q322 1 hdX3_kind ⟨Nat.le_of_ble_eq_true rfl, Nat.le_of_ble_eq_true rfl⟩ ⟨Nat.le_of_ble_eq_true rfl, Nat.le_of_ble_eq_true rfl⟩ rfl rfl hl.1 (Nat.le_of_ble_eq_true rfl) (hP.sub (ws' := (wX3 cyI cyC n0 n1 n2 n3 n_ones n_twos n_settings n_tick n_energy n_valuesPut)) [1, 2, 3, 4] rfl) hK (va_recv hK hP (ci := 2) (q0 := 1) rfl rfl) hS dX4_heatOutcome_61 (fun H locs hk hS => ?_)
            have hP := k_kept hP hk
            obtain ⟨K72, hK72, h⟩ := k_j1_e h
            have J72 : ∀ (z21 : Int32) (H : Heap) (locs : List Loc) (ls : Array Slot), K72 z21 = some (r, r_t_ones, r_t_twos, r_t_settings, r_t_tick, r_t_energy, r_t_valuesPut) → va_P (dC, dI) vwCl (wAll cyI cyC cyO ob n0 n1 n2 n3 t0 t1 t2 t3 s0 aR ro r1 r2 r3 x0 x1 x2 x3 x4 n_ones n_twos n_settings n_tick n_energy n_valuesPut c8 c9 c3 c4 c5 c6 s_ring s_oldest s_count x_signs x_length x_position x_complete x_orders x_kinds x_numbers x_values) H → va_S (k_A (wAll cyI cyC cyO ob n0 n1 n2 n3 t0 t1 t2 t3 s0 aR ro r1 r2 r3 x0 x1 x2 x3 x4 n_ones n_twos n_settings n_tick n_energy n_valuesPut t_ones t_twos t_settings t_tick t_energy t_valuesPut s_ring s_oldest s_count x_signs x_length x_position x_complete x_orders x_kinds x_numbers x_values)) s.heap H locs → lv_has ls 6 [(0, .ref ob), (5, .int z18)] → W p l e (k_rm 5 111) s m [.ref ob, .int p1, .int p2].toArray below meth c H locs 0 0 (MQ below (qMI r (dC, dI) (wAll cyI cyC cyO ob n0 n1 n2 n3 t0 t1 t2 t3 s0 aR ro r1 r2 r3 x0 x1 x2 x3 x4 n_ones n_twos n_settings n_tick n_energy n_valuesPut t_ones t_twos t_settings t_tick t_energy t_valuesPut s_ring s_oldest s_count x_signs x_length x_position x_complete x_orders x_kinds x_numbers x_values) (wAll cyI cyC cyO ob n0 n1 n2 n3 t0 t1 t2 t3 s0 aR ro r1 r2 r3 x0 x1 x2 x3 x4 n_ones n_twos n_settings n_tick n_energy n_valuesPut r_t_ones r_t_twos r_t_settings r_t_tick r_t_energy r_t_valuesPut s_ring s_oldest s_count x_signs x_length x_position x_complete x_orders x_kinds x_numbers x_values)) [.ref ob, .int p1, .int p2].toArray s 0 0 (k_A (wAll cyI cyC cyO ob n0 n1 n2 n3 t0 t1 t2 t3 s0 aR ro r1 r2 r3 x0 x1 x2 x3 x4 n_ones n_twos n_settings n_tick n_energy n_valuesPut t_ones t_twos t_settings t_tick t_energy t_valuesPut s_ring s_oldest s_count x_signs x_length x_position x_complete x_orders x_kinds x_numbers x_values))) (F0 m 72 ls [.int z21, .int z17]) := by
              intro z21 H locs ls h hP hS hl
              have h := k_a1 hK72 h
              refine g_iadd hx hb dX4_heatOutcome_72 h (fun z22 h => ?_)
              refine lv_istore (lv' := [(4, .int z22), (0, .ref ob), (5, .int z18)]) hx hb dX4_heatOutcome_73 hl (by decide) rfl (fun ls hl => ?_)
              refine g_iinc (dv := 1) hx hb dX4_heatOutcome_75 hl (j := 2) rfl (by decide) (by decide) h (fun z23 ls h hl => ?_)
              have hl : lv_has ls 6 [(5, .int z23), (4, .int z22), (0, .ref ob)] := hl
              refine lv_goto (tgt := 37) hx hb dX4_heatOutcome_78 (by decide) ?_
              exact ih37 z22 z23 _ _ _ h hP hS (lv_sub hl [2, 1, 0] rfl)
            refine g_icmp_eq (tgt := 71) hx hb dX4_heatOutcome_64 (by decide) h (fun h => ?_) (fun h => ?_)
            · refine lv_iconst (v := 0) hx hb dX4_heatOutcome_71 (by decide) ?_
              exact J72 0 _ _ _ h hP hS (lv_sub hl [0, 2] rfl)
            · refine lv_iconst (v := 1) hx hb dX4_heatOutcome_67 (by decide) ?_
              refine lv_goto (tgt := 72) hx hb dX4_heatOutcome_68 (by decide) ?_
              exact J72 1 _ _ _ h hP hS (lv_sub hl [0, 2] rfl)
      exact L37 5000 0 0 _ _ _ h hP hS (lv_sub hl [3, 1, 0] rfl)
  · refine lv_iload_n hx hb dX4_heatOutcome_24 rfl (lv_at hl 0 rfl) ?_
    obtain ⟨e0, e1, e2, e3, e4, e5, e6⟩ := k_t7 h
    exact g_retMI hx hb hr hlk hS e0 (by rw [← e1, ← e2, ← e3, ← e4, ← e5, ← e6]; exact hP) dX4_heatOutcome_25
def fX4_ifHeated (n_ones : Nat → Int32) (n_twos : Nat → Int32) (n_settings : Nat → Int32) (n_tick : Int32) (n_energy : Int32) (n_valuesPut : Int32) (t_ones : Nat → Int32) (t_twos : Nat → Int32) (t_settings : Nat → Int32) (t_tick : Int32) (t_energy : Int32) (t_valuesPut : Int32) (p1 : Int32) (p2 : Int32) : Option (Int32 × (Nat → Int32) × (Nat → Int32) × (Nat → Int32) × Int32 × Int32 × Int32) :=
  k_b1 (fX4_isWithin p1 1 9) fun (z1 : Int32) =>
  k_j1
  (fun (z2 : Int32) =>
    k_if (z2 = 0) none <|
    k_b7 (fX4_heatOutcome n_ones n_twos n_settings n_tick n_energy n_valuesPut t_ones t_twos t_settings t_tick t_energy t_valuesPut p1 p2) fun (z3 : Int32) (c4 : Nat → Int32) (c5 : Nat → Int32) (c6 : Nat → Int32) (c7 : Int32) (c8 : Int32) (c9 : Int32) =>
    some (z3, c4, c5, c6, c7, c8, c9))
  (fun K23 =>
  k_if (z1 = 0)
  (
    K23 0)
  (
    k_b1 (fX4_isIndex p2 3) fun (z10 : Int32) =>
    k_if (z10 = 0)
    (
      K23 0)
    (
      K23 1)))
theorem hdX4_ifHeated : yX4_ifHeated.cls = RX4 ∧ yX4_ifHeated.cls ≠ "java/lang/invoke/MethodHandle" ∧ yX4_ifHeated.cls ≠ "java/lang/invoke/VarHandle" ∧ (parseMethodDescriptor yX4_ifHeated.desc).map (fun d => d.parameters.length) = some 2 := by decide +kernel
set_option maxRecDepth 100000 in
set_option maxHeartbeats 4000000 in
theorem mX4_ifHeated (l : Launch) (dC : Nat → ClassId) (dI : Nat → Nat → Nat) (cyI cyC cyO : ClassId) (ob : Nat) (n0 : Nat) (n1 : Nat) (n2 : Nat) (n3 : Nat) (t0 : Nat) (t1 : Nat) (t2 : Nat) (t3 : Nat) (s0 : Nat) (aR : Nat) (ro : Nat → Nat) (r1 : Nat → Nat) (r2 : Nat → Nat) (r3 : Nat → Nat) (x0 : Nat) (x1 : Nat) (x2 : Nat) (x3 : Nat) (x4 : Nat) (n_ones : Nat → Int32) (n_twos : Nat → Int32) (n_settings : Nat → Int32) (n_tick : Int32) (n_energy : Int32) (n_valuesPut : Int32) (t_ones : Nat → Int32) (t_twos : Nat → Int32) (t_settings : Nat → Int32) (t_tick : Int32) (t_energy : Int32) (t_valuesPut : Int32) (s_ring : Nat → SV) (s_oldest : Int32) (s_count : Int32) (x_signs : Nat → Int32) (x_length : Int32) (x_position : Int32) (x_complete : Int32) (x_orders : Int32) (x_kinds : Nat → Int32) (x_numbers : Nat → Int32) (x_values : Nat → Int32) (p1 : Int32) (p2 : Int32) {r : Int32} {r_t_ones : Nat → Int32} {r_t_twos : Nat → Int32} {r_t_settings : Nat → Int32} {r_t_tick : Int32} {r_t_energy : Int32} {r_t_valuesPut : Int32} (hf : fX4_ifHeated n_ones n_twos n_settings n_tick n_energy n_valuesPut t_ones t_twos t_settings t_tick t_energy t_valuesPut p1 p2 = some (r, r_t_ones, r_t_twos, r_t_settings, r_t_tick, r_t_energy, r_t_valuesPut)) : MetMI l yX4_ifHeated cX4_ifHeated 3 (some .int) 6 136 [.ref ob, .int p1, .int p2] (dC, dI) (tyS cyI cyC cyO) (wAll cyI cyC cyO ob n0 n1 n2 n3 t0 t1 t2 t3 s0 aR ro r1 r2 r3 x0 x1 x2 x3 x4 n_ones n_twos n_settings n_tick n_energy n_valuesPut t_ones t_twos t_settings t_tick t_energy t_valuesPut s_ring s_oldest s_count x_signs x_length x_position x_complete x_orders x_kinds x_numbers x_values) (wAll cyI cyC cyO ob n0 n1 n2 n3 t0 t1 t2 t3 s0 aR ro r1 r2 r3 x0 x1 x2 x3 x4 n_ones n_twos n_settings n_tick n_energy n_valuesPut r_t_ones r_t_twos r_t_settings r_t_tick r_t_energy r_t_valuesPut s_ring s_oldest s_count x_signs x_length x_position x_complete x_orders x_kinds x_numbers x_values) r := by
  refine metMI_of (by decide) (Nat.le_of_ble_eq_true rfl) ?_
  intro p e s m below meth c ls hC hr hlk hP hK hD hl
  have hC : CallFix p m c cX4_ifHeated 3 s [.ref ob, .int p1, .int p2].toArray wA RX4 := hC
  obtain ⟨hx, hb, hml, hown, hts⟩ := id hC
  have hS : va_S (k_A (wAll cyI cyC cyO ob n0 n1 n2 n3 t0 t1 t2 t3 s0 aR ro r1 r2 r3 x0 x1 x2 x3 x4 n_ones n_twos n_settings n_tick n_energy n_valuesPut t_ones t_twos t_settings t_tick t_energy t_valuesPut s_ring s_oldest s_count x_signs x_length x_position x_complete x_orders x_kinds x_numbers x_values)) s.heap s.heap [] := va_S.rf
  have hl : lv_has ls 3 [(0, .ref ob), (1, .int p1), (2, .int p2)] := hl
  have h := hf
  unfold fX4_ifHeated at h
  obtain ⟨H, hH⟩ : ∃ H, H = s.heap := ⟨_, rfl⟩
  obtain ⟨locs, hlo⟩ : ∃ locs : List Loc, locs = [] := ⟨_, rfl⟩
  rw [← hH] at hP
  rw [← hlo] at hS
  have hS : va_S (k_A (wAll cyI cyC cyO ob n0 n1 n2 n3 t0 t1 t2 t3 s0 aR ro r1 r2 r3 x0 x1 x2 x3 x4 n_ones n_twos n_settings n_tick n_energy n_valuesPut t_ones t_twos t_settings t_tick t_energy t_valuesPut s_ring s_oldest s_count x_signs x_length x_position x_complete x_orders x_kinds x_numbers x_values)) s.heap H locs := by rw [hH]; exact hS
  show W p l e (k_rm 6 136) s m [.ref ob, .int p1, .int p2].toArray below meth c s.heap [] 0 0 _ _
  rw [← hlo, ← hH]
  refine lv_iload_n hx hb dX4_ifHeated_0 rfl (lv_at hl 1 rfl) ?_
  refine lv_iconst (v := 1) hx hb dX4_ifHeated_1 (by decide) ?_
  refine lv_bipush (v := 9) hx hb dX4_ifHeated_2 (by decide) ?_
  obtain ⟨z1, hc4, h⟩ := k_b1_e h
  refine g_callRI_S (As := [.int p1, .int 1, .int 9]) (rest := []) hC (mX4_isWithin l dC dI cyI cyC cyO p1 1 9 hc4) q220 q221 q8 q222 3 hdX4_isWithin ⟨Nat.le_of_ble_eq_true rfl, Nat.le_of_ble_eq_true rfl⟩ ⟨Nat.le_of_ble_eq_true rfl, Nat.le_of_ble_eq_true rfl⟩ rfl rfl hl.1 (Nat.le_of_ble_eq_true rfl) va_P_nil hK hS dX4_ifHeated_4 (fun H locs hk hS => ?_)
  have hP := k_kept hP hk
  obtain ⟨K23, hK23, h⟩ := k_j1_e h
  have J23 : ∀ (z2 : Int32) (H : Heap) (locs : List Loc) (ls : Array Slot), K23 z2 = some (r, r_t_ones, r_t_twos, r_t_settings, r_t_tick, r_t_energy, r_t_valuesPut) → va_P (dC, dI) vwCl (wAll cyI cyC cyO ob n0 n1 n2 n3 t0 t1 t2 t3 s0 aR ro r1 r2 r3 x0 x1 x2 x3 x4 n_ones n_twos n_settings n_tick n_energy n_valuesPut t_ones t_twos t_settings t_tick t_energy t_valuesPut s_ring s_oldest s_count x_signs x_length x_position x_complete x_orders x_kinds x_numbers x_values) H → va_S (k_A (wAll cyI cyC cyO ob n0 n1 n2 n3 t0 t1 t2 t3 s0 aR ro r1 r2 r3 x0 x1 x2 x3 x4 n_ones n_twos n_settings n_tick n_energy n_valuesPut t_ones t_twos t_settings t_tick t_energy t_valuesPut s_ring s_oldest s_count x_signs x_length x_position x_complete x_orders x_kinds x_numbers x_values)) s.heap H locs → lv_has ls 3 [(0, .ref ob), (1, .int p1), (2, .int p2)] → W p l e (k_rm 6 136) s m [.ref ob, .int p1, .int p2].toArray below meth c H locs 0 0 (MQ below (qMI r (dC, dI) (wAll cyI cyC cyO ob n0 n1 n2 n3 t0 t1 t2 t3 s0 aR ro r1 r2 r3 x0 x1 x2 x3 x4 n_ones n_twos n_settings n_tick n_energy n_valuesPut t_ones t_twos t_settings t_tick t_energy t_valuesPut s_ring s_oldest s_count x_signs x_length x_position x_complete x_orders x_kinds x_numbers x_values) (wAll cyI cyC cyO ob n0 n1 n2 n3 t0 t1 t2 t3 s0 aR ro r1 r2 r3 x0 x1 x2 x3 x4 n_ones n_twos n_settings n_tick n_energy n_valuesPut r_t_ones r_t_twos r_t_settings r_t_tick r_t_energy r_t_valuesPut s_ring s_oldest s_count x_signs x_length x_position x_complete x_orders x_kinds x_numbers x_values)) [.ref ob, .int p1, .int p2].toArray s 0 0 (k_A (wAll cyI cyC cyO ob n0 n1 n2 n3 t0 t1 t2 t3 s0 aR ro r1 r2 r3 x0 x1 x2 x3 x4 n_ones n_twos n_settings n_tick n_energy n_valuesPut t_ones t_twos t_settings t_tick t_energy t_valuesPut s_ring s_oldest s_count x_signs x_length x_position x_complete x_orders x_kinds x_numbers x_values))) (F0 m 23 ls [.int z2]) := by
    intro z2 H locs ls h hP hS hl
    have h := k_a1 hK23 h
    obtain ⟨hv, h⟩ := k_req_e h
    refine g_callRV_S (As := [.int z2]) (rest := []) hC (mX4_requireArgument l (dC, dI) (tyS cyI cyC cyO) z2 hv) q83 q84 q8 q85 1 hdX4_requireArgument ⟨Nat.le_of_ble_eq_true rfl, Nat.le_of_ble_eq_true rfl⟩ ⟨Nat.le_of_ble_eq_true rfl, Nat.le_of_ble_eq_true rfl⟩ rfl rfl hl.1 (Nat.le_of_ble_eq_true rfl) va_P_nil hK hS dX4_ifHeated_23 (fun H locs hk hS => ?_)
    have hP := k_kept hP hk
    refine lv_aload_n hx hb dX4_ifHeated_26 rfl (lv_at hl 0 rfl) ?_
    refine lv_iload_n hx hb dX4_ifHeated_27 rfl (lv_at hl 1 rfl) ?_
    refine lv_iload_n hx hb dX4_ifHeated_28 rfl (lv_at hl 2 rfl) ?_
    obtain ⟨z3, c4, c5, c6, c7, c8, c9, hc29, h⟩ := k_b7_e h
    refine g_callMI_V (As := [.int p1, .int p2]) (rest := []) hC (mX4_heatOutcome l dC dI cyI cyC cyO ob n0 n1 n2 n3 t0 t1 t2 t3 s0 aR ro r1 r2 r3 x0 x1 x2 x3 x4 n_ones n_twos n_settings n_tick n_energy n_valuesPut t_ones t_twos t_settings t_tick t_energy t_valuesPut s_ring s_oldest s_count x_signs x_length x_position x_complete x_orders x_kinds x_numbers x_values p1 p2 hc29) q428 q429 q6 q8 q430 2 hdX4_heatOutcome ⟨Nat.le_of_ble_eq_true rfl, Nat.le_of_ble_eq_true rfl⟩ ⟨Nat.le_of_ble_eq_true rfl, Nat.le_of_ble_eq_true rfl⟩ rfl rfl hl.1 (Nat.le_of_ble_eq_true rfl) hP hK hD (va_recv hK hP (ci := 3) (q0 := 0) rfl rfl) hS dX4_ifHeated_29 (fun H locs hPn hk hS => ?_)
    have hP : va_P (dC, dI) vwCl (wAll cyI cyC cyO ob n0 n1 n2 n3 t0 t1 t2 t3 s0 aR ro r1 r2 r3 x0 x1 x2 x3 x4 n_ones n_twos n_settings n_tick n_energy n_valuesPut c4 c5 c6 c7 c8 c9 s_ring s_oldest s_count x_signs x_length x_position x_complete x_orders x_kinds x_numbers x_values) H := hPn
    have hD : va_D (k_A (wAll cyI cyC cyO ob n0 n1 n2 n3 t0 t1 t2 t3 s0 aR ro r1 r2 r3 x0 x1 x2 x3 x4 n_ones n_twos n_settings n_tick n_energy n_valuesPut t_ones t_twos t_settings t_tick t_energy t_valuesPut s_ring s_oldest s_count x_signs x_length x_position x_complete x_orders x_kinds x_numbers x_values)) (wAll cyI cyC cyO ob n0 n1 n2 n3 t0 t1 t2 t3 s0 aR ro r1 r2 r3 x0 x1 x2 x3 x4 n_ones n_twos n_settings n_tick n_energy n_valuesPut c4 c5 c6 c7 c8 c9 s_ring s_oldest s_count x_signs x_length x_position x_complete x_orders x_kinds x_numbers x_values) := k_Dm hD rfl
    obtain ⟨e0, e1, e2, e3, e4, e5, e6⟩ := k_t7 h
    exact g_retMI hx hb hr hlk hS e0 (by rw [← e1, ← e2, ← e3, ← e4, ← e5, ← e6]; exact hP) dX4_ifHeated_32
  refine g_if_eq (tgt := 22) hx hb dX4_ifHeated_7 (by decide) h (fun h => ?_) (fun h => ?_)
  · refine lv_iconst (v := 0) hx hb dX4_ifHeated_22 (by decide) ?_
    exact J23 0 _ _ _ h hP hS (lv_sub hl [0, 1, 2] rfl)
  · refine lv_iload_n hx hb dX4_ifHeated_10 rfl (lv_at hl 2 rfl) ?_
    refine lv_iconst (v := 3) hx hb dX4_ifHeated_11 (by decide) ?_
    obtain ⟨z10, hc12, h⟩ := k_b1_e h
    refine g_callRI_S (As := [.int p2, .int 3]) (rest := []) hC (mX4_isIndex l dC dI cyI cyC cyO p2 3 hc12) q80 q81 q8 q82 2 hdX4_isIndex ⟨Nat.le_of_ble_eq_true rfl, Nat.le_of_ble_eq_true rfl⟩ ⟨Nat.le_of_ble_eq_true rfl, Nat.le_of_ble_eq_true rfl⟩ rfl rfl hl.1 (Nat.le_of_ble_eq_true rfl) va_P_nil hK hS dX4_ifHeated_12 (fun H locs hk hS => ?_)
    have hP := k_kept hP hk
    refine g_if_eq (tgt := 22) hx hb dX4_ifHeated_15 (by decide) h (fun h => ?_) (fun h => ?_)
    · refine lv_iconst (v := 0) hx hb dX4_ifHeated_22 (by decide) ?_
      exact J23 0 _ _ _ h hP hS (lv_sub hl [0, 1, 2] rfl)
    · refine lv_iconst (v := 1) hx hb dX4_ifHeated_18 (by decide) ?_
      refine lv_goto (tgt := 23) hx hb dX4_ifHeated_19 (by decide) ?_
      exact J23 1 _ _ _ h hP hS (lv_sub hl [0, 1, 2] rfl)
def fX4_valuesReadOtherwise_s5 (n_tick : Int32) (p1 : Int32) (n_ones : Nat → Int32) (n_twos : Nat → Int32) (p2 : Int32) (n_settings : Nat → Int32) (rec5 : Int32 → Int32 → Option (Int32)) (z1 : Int32) (z2 : Int32) : Option (Int32) :=
  k_if (16 ≤ z2)
  (
    some z1)
  (
    k_let (n_tick + p1) fun (z3 : Int32) =>
    k_b1 (fX3_valueAt n_ones n_twos z2 z3 p2) fun (z4 : Int32) =>
    k_b1 (fX3_valueOfKey n_ones n_twos n_settings n_tick z2) fun (z5 : Int32) =>
    k_j1
    (fun (z6 : Int32) =>
      k_let (z1 + z6) fun (z7 : Int32) =>
      k_let (z2 + 1) fun (z8 : Int32) =>
      rec5 z7 z8)
    (fun K49 =>
    k_if (z4 = z5)
    (
      K49 0)
    (
      K49 1)))
def fX4_valuesReadOtherwise (n_ones : Nat → Int32) (n_twos : Nat → Int32) (n_settings : Nat → Int32) (n_tick : Int32) (p1 : Int32) (p2 : Int32) : Option (Int32) :=
  k_l2 (fX4_valuesReadOtherwise_s5 n_tick p1 n_ones n_twos p2 n_settings) 5000 0 0
theorem hdX4_valuesReadOtherwise : yX4_valuesReadOtherwise.cls = RX4 ∧ yX4_valuesReadOtherwise.cls ≠ "java/lang/invoke/MethodHandle" ∧ yX4_valuesReadOtherwise.cls ≠ "java/lang/invoke/VarHandle" ∧ (parseMethodDescriptor yX4_valuesReadOtherwise.desc).map (fun d => d.parameters.length) = some 2 := by decide +kernel
set_option maxRecDepth 100000 in
set_option maxHeartbeats 4000000 in
theorem mX4_valuesReadOtherwise (l : Launch) (dC : Nat → ClassId) (dI : Nat → Nat → Nat) (cyI cyC cyO : ClassId) (ob : Nat) (n0 : Nat) (n1 : Nat) (n2 : Nat) (n3 : Nat) (t0 : Nat) (t1 : Nat) (t2 : Nat) (t3 : Nat) (s0 : Nat) (aR : Nat) (ro : Nat → Nat) (r1 : Nat → Nat) (r2 : Nat → Nat) (r3 : Nat → Nat) (x0 : Nat) (x1 : Nat) (x2 : Nat) (x3 : Nat) (x4 : Nat) (n_ones : Nat → Int32) (n_twos : Nat → Int32) (n_settings : Nat → Int32) (n_tick : Int32) (n_energy : Int32) (n_valuesPut : Int32) (t_ones : Nat → Int32) (t_twos : Nat → Int32) (t_settings : Nat → Int32) (t_tick : Int32) (t_energy : Int32) (t_valuesPut : Int32) (s_ring : Nat → SV) (s_oldest : Int32) (s_count : Int32) (x_signs : Nat → Int32) (x_length : Int32) (x_position : Int32) (x_complete : Int32) (x_orders : Int32) (x_kinds : Nat → Int32) (x_numbers : Nat → Int32) (x_values : Nat → Int32) (p1 : Int32) (p2 : Int32) {r : Int32} (hf : fX4_valuesReadOtherwise n_ones n_twos n_settings n_tick p1 p2 = some r) : MetRI l yX4_valuesReadOtherwise cX4_valuesReadOtherwise 5 (some .int) 5 111 [.ref ob, .int p1, .int p2] (dC, dI) (tyS cyI cyC cyO) (wAll cyI cyC cyO ob n0 n1 n2 n3 t0 t1 t2 t3 s0 aR ro r1 r2 r3 x0 x1 x2 x3 x4 n_ones n_twos n_settings n_tick n_energy n_valuesPut t_ones t_twos t_settings t_tick t_energy t_valuesPut s_ring s_oldest s_count x_signs x_length x_position x_complete x_orders x_kinds x_numbers x_values) r := by
  refine metRI_of (by decide) (Nat.le_of_ble_eq_true rfl) ?_
  intro p e s m below meth c ls hC hr hlk hP hK hl
  have hC : CallFix p m c cX4_valuesReadOtherwise 5 s [.ref ob, .int p1, .int p2].toArray wA RX4 := hC
  obtain ⟨hx, hb, hml, hown, hts⟩ := id hC
  have hS : va_S kF s.heap s.heap [] := va_S.rf
  have hl : lv_has ls 5 [(0, .ref ob), (1, .int p1), (2, .int p2)] := hl
  have h := hf
  unfold fX4_valuesReadOtherwise at h
  obtain ⟨H, hH⟩ : ∃ H, H = s.heap := ⟨_, rfl⟩
  obtain ⟨locs, hlo⟩ : ∃ locs : List Loc, locs = [] := ⟨_, rfl⟩
  rw [← hH] at hP
  rw [← hlo] at hS
  have hS : va_S kF s.heap H locs := by rw [hH]; exact hS
  show W p l e (k_rm 5 111) s m [.ref ob, .int p1, .int p2].toArray below meth c s.heap [] 0 0 _ _
  rw [← hlo, ← hH]
  refine lv_iconst (v := 0) hx hb dX4_valuesReadOtherwise_0 (by decide) ?_
  refine lv_istore_n (lv' := [(3, .int 0), (0, .ref ob), (1, .int p1), (2, .int p2)]) hx hb dX4_valuesReadOtherwise_1 rfl hl (by decide) rfl (fun ls hl => ?_)
  refine lv_iconst (v := 0) hx hb dX4_valuesReadOtherwise_2 (by decide) ?_
  refine lv_istore (lv' := [(4, .int 0), (3, .int 0), (0, .ref ob), (1, .int p1), (2, .int p2)]) hx hb dX4_valuesReadOtherwise_3 hl (by decide) rfl (fun ls hl => ?_)
  obtain ⟨S5, hS5⟩ : ∃ z, z = (fX4_valuesReadOtherwise_s5 n_tick p1 n_ones n_twos p2 n_settings) := ⟨_, rfl⟩
  rw [← hS5] at h
  have L5 : ∀ (n : Nat) (z1 : Int32) (z2 : Int32) (H : Heap) (locs : List Loc) (ls : Array Slot), k_l2 S5 n z1 z2 = some r → va_P (dC, dI) vwCl (wAll cyI cyC cyO ob n0 n1 n2 n3 t0 t1 t2 t3 s0 aR ro r1 r2 r3 x0 x1 x2 x3 x4 n_ones n_twos n_settings n_tick n_energy n_valuesPut t_ones t_twos t_settings t_tick t_energy t_valuesPut s_ring s_oldest s_count x_signs x_length x_position x_complete x_orders x_kinds x_numbers x_values) H → va_S kF s.heap H locs → lv_has ls 5 [(0, .ref ob), (1, .int p1), (2, .int p2), (3, .int z1), (4, .int z2)] → W p l e (k_rm 5 111) s m [.ref ob, .int p1, .int p2].toArray below meth c H locs 0 0 (MQ below (qRI r) [.ref ob, .int p1, .int p2].toArray s 0 0 kF) (F0 m 5 ls []) := by
    intro n
    induction n with
    | zero =>
      intro z1 z2 H locs ls h
      exact (k_l2_0 h).elim
    | succ n ih5 =>
      intro z1 z2 H locs ls h hP hS hl
      have h := k_l2_s h
      have h := k_a3 hS5 h
      unfold fX4_valuesReadOtherwise_s5 at h
      refine lv_iload hx hb dX4_valuesReadOtherwise_5 (lv_at hl 4 rfl) ?_
      refine lv_bipush (v := 16) hx hb dX4_valuesReadOtherwise_7 (by decide) ?_
      refine g_icmp_ge (tgt := 57) hx hb dX4_valuesReadOtherwise_9 (by decide) h (fun h => ?_) (fun h => ?_)
      · refine lv_iload_n hx hb dX4_valuesReadOtherwise_57 rfl (lv_at hl 3 rfl) ?_
        exact g_retRI hx hb hr hlk hS h dX4_valuesReadOtherwise_58
      · refine lv_iload_n hx hb dX4_valuesReadOtherwise_12 rfl (lv_at hl 3 rfl) ?_
        refine lv_aload_n hx hb dX4_valuesReadOtherwise_13 rfl (lv_at hl 0 rfl) ?_
        refine va_get (D := (dC, dI)) (ci := 3) (v := .ref n0) (C := RX4) (T := TX4) (N := 4) hx hb hts iaX4 hown hK hP 0 rfl rfl 0 (by decide) (hts _ q72) (fun _ h9 => h9) rfl dX4_valuesReadOtherwise_14 ?_
        refine lv_iload hx hb dX4_valuesReadOtherwise_17 (lv_at hl 4 rfl) ?_
        refine lv_aload_n hx hb dX4_valuesReadOtherwise_19 rfl (lv_at hl 0 rfl) ?_
        refine va_get (D := (dC, dI)) (ci := 3) (v := .ref n0) (C := RX4) (T := TX4) (N := 4) hx hb hts iaX4 hown hK hP 0 rfl rfl 0 (by decide) (hts _ q72) (fun _ h9 => h9) rfl dX4_valuesReadOtherwise_20 ?_
        refine va_get (D := (dC, dI)) (ci := 2) (v := .int n_tick) (C := RX3) (T := TX3) (N := 6) hx hb hts iaX3 hown hK hP 1 rfl rfl 3 (by decide) (hts _ q43) (fun _ h9 => h9) rfl dX4_valuesReadOtherwise_23 ?_
        refine lv_iload_n hx hb dX4_valuesReadOtherwise_26 rfl (lv_at hl 1 rfl) ?_
        refine g_iadd hx hb dX4_valuesReadOtherwise_27 h (fun z3 h => ?_)
        refine lv_iload_n hx hb dX4_valuesReadOtherwise_28 rfl (lv_at hl 2 rfl) ?_
        obtain ⟨z4, hc29, h⟩ := k_b1_e h
        refine g_callRI_V (As := [.int z2, .int z3, .int p2]) (rest := [.int z1]) hC (mX3_valueAt l dC dI cyI cyC cyO n0 n1 n2 n3 n_ones n_twos n_settings n_tick n_energy n_valuesPut z2 z3 p2 hc29) q372 q269 q270 q9 q271 3 hdX3_valueAt ⟨Nat.le_of_ble_eq_true rfl, Nat.le_of_ble_eq_true rfl⟩ ⟨Nat.le_of_ble_eq_true rfl, Nat.le_of_ble_eq_true rfl⟩ rfl rfl hl.1 (Nat.le_of_ble_eq_true rfl) (hP.sub (ws' := (wX3 cyI cyC n0 n1 n2 n3 n_ones n_twos n_settings n_tick n_energy n_valuesPut)) [1, 2, 3, 4] rfl) hK (va_recv hK hP (ci := 2) (q0 := 1) rfl rfl) hS dX4_valuesReadOtherwise_29 (fun H locs hk hS => ?_)
        have hP := k_kept hP hk
        refine lv_aload_n hx hb dX4_valuesReadOtherwise_32 rfl (lv_at hl 0 rfl) ?_
        refine va_get (D := (dC, dI)) (ci := 3) (v := .ref n0) (C := RX4) (T := TX4) (N := 4) hx hb hts iaX4 hown hK hP 0 rfl rfl 0 (by decide) (hts _ q72) (fun _ h9 => h9) rfl dX4_valuesReadOtherwise_33 ?_
        refine lv_iload hx hb dX4_valuesReadOtherwise_36 (lv_at hl 4 rfl) ?_
        obtain ⟨z5, hc38, h⟩ := k_b1_e h
        refine g_callRI_V (As := [.int z2]) (rest := [.int z4, .int z1]) hC (mX3_valueOfKey l dC dI cyI cyC cyO n0 n1 n2 n3 n_ones n_twos n_settings n_tick n_energy n_valuesPut z2 hc38) q264 q265 q266 q9 q267 1 hdX3_valueOfKey ⟨Nat.le_of_ble_eq_true rfl, Nat.le_of_ble_eq_true rfl⟩ ⟨Nat.le_of_ble_eq_true rfl, Nat.le_of_ble_eq_true rfl⟩ rfl rfl hl.1 (Nat.le_of_ble_eq_true rfl) (hP.sub (ws' := (wX3 cyI cyC n0 n1 n2 n3 n_ones n_twos n_settings n_tick n_energy n_valuesPut)) [1, 2, 3, 4] rfl) hK (va_recv hK hP (ci := 2) (q0 := 1) rfl rfl) hS dX4_valuesReadOtherwise_38 (fun H locs hk hS => ?_)
        have hP := k_kept hP hk
        obtain ⟨K49, hK49, h⟩ := k_j1_e h
        have J49 : ∀ (z6 : Int32) (H : Heap) (locs : List Loc) (ls : Array Slot), K49 z6 = some r → va_P (dC, dI) vwCl (wAll cyI cyC cyO ob n0 n1 n2 n3 t0 t1 t2 t3 s0 aR ro r1 r2 r3 x0 x1 x2 x3 x4 n_ones n_twos n_settings n_tick n_energy n_valuesPut t_ones t_twos t_settings t_tick t_energy t_valuesPut s_ring s_oldest s_count x_signs x_length x_position x_complete x_orders x_kinds x_numbers x_values) H → va_S kF s.heap H locs → lv_has ls 5 [(0, .ref ob), (1, .int p1), (2, .int p2), (4, .int z2)] → W p l e (k_rm 5 111) s m [.ref ob, .int p1, .int p2].toArray below meth c H locs 0 0 (MQ below (qRI r) [.ref ob, .int p1, .int p2].toArray s 0 0 kF) (F0 m 49 ls [.int z6, .int z1]) := by
          intro z6 H locs ls h hP hS hl
          have h := k_a1 hK49 h
          refine g_iadd hx hb dX4_valuesReadOtherwise_49 h (fun z7 h => ?_)
          refine lv_istore_n (lv' := [(3, .int z7), (0, .ref ob), (1, .int p1), (2, .int p2), (4, .int z2)]) hx hb dX4_valuesReadOtherwise_50 rfl hl (by decide) rfl (fun ls hl => ?_)
          refine g_iinc (dv := 1) hx hb dX4_valuesReadOtherwise_51 hl (j := 4) rfl (by decide) (by decide) h (fun z8 ls h hl => ?_)
          have hl : lv_has ls 5 [(4, .int z8), (3, .int z7), (0, .ref ob), (1, .int p1), (2, .int p2)] := hl
          refine lv_goto (tgt := 5) hx hb dX4_valuesReadOtherwise_54 (by decide) ?_
          exact ih5 z7 z8 _ _ _ h hP hS (lv_sub hl [2, 3, 4, 1, 0] rfl)
        refine g_icmp_eq (tgt := 48) hx hb dX4_valuesReadOtherwise_41 (by decide) h (fun h => ?_) (fun h => ?_)
        · refine lv_iconst (v := 0) hx hb dX4_valuesReadOtherwise_48 (by decide) ?_
          exact J49 0 _ _ _ h hP hS (lv_sub hl [0, 1, 2, 4] rfl)
        · refine lv_iconst (v := 1) hx hb dX4_valuesReadOtherwise_44 (by decide) ?_
          refine lv_goto (tgt := 49) hx hb dX4_valuesReadOtherwise_45 (by decide) ?_
          exact J49 1 _ _ _ h hP hS (lv_sub hl [0, 1, 2, 4] rfl)
  exact L5 5000 0 0 _ _ _ h hP hS (lv_sub hl [2, 3, 4, 1, 0] rfl)
def fX4_ifRead (n_ones : Nat → Int32) (n_twos : Nat → Int32) (n_settings : Nat → Int32) (n_tick : Int32) (p1 : Int32) (p2 : Int32) : Option (Int32) :=
  k_b1 (fX4_isWithin p1 0 99) fun (z1 : Int32) =>
  k_if (z1 = 0) none <|
  k_b1 (fX4_valuesReadOtherwise n_ones n_twos n_settings n_tick p1 p2) fun (z2 : Int32) =>
  some z2
theorem hdX4_ifRead : yX4_ifRead.cls = RX4 ∧ yX4_ifRead.cls ≠ "java/lang/invoke/MethodHandle" ∧ yX4_ifRead.cls ≠ "java/lang/invoke/VarHandle" ∧ (parseMethodDescriptor yX4_ifRead.desc).map (fun d => d.parameters.length) = some 2 := by decide +kernel
set_option maxRecDepth 100000 in
set_option maxHeartbeats 4000000 in
theorem mX4_ifRead (l : Launch) (dC : Nat → ClassId) (dI : Nat → Nat → Nat) (cyI cyC cyO : ClassId) (ob : Nat) (n0 : Nat) (n1 : Nat) (n2 : Nat) (n3 : Nat) (t0 : Nat) (t1 : Nat) (t2 : Nat) (t3 : Nat) (s0 : Nat) (aR : Nat) (ro : Nat → Nat) (r1 : Nat → Nat) (r2 : Nat → Nat) (r3 : Nat → Nat) (x0 : Nat) (x1 : Nat) (x2 : Nat) (x3 : Nat) (x4 : Nat) (n_ones : Nat → Int32) (n_twos : Nat → Int32) (n_settings : Nat → Int32) (n_tick : Int32) (n_energy : Int32) (n_valuesPut : Int32) (t_ones : Nat → Int32) (t_twos : Nat → Int32) (t_settings : Nat → Int32) (t_tick : Int32) (t_energy : Int32) (t_valuesPut : Int32) (s_ring : Nat → SV) (s_oldest : Int32) (s_count : Int32) (x_signs : Nat → Int32) (x_length : Int32) (x_position : Int32) (x_complete : Int32) (x_orders : Int32) (x_kinds : Nat → Int32) (x_numbers : Nat → Int32) (x_values : Nat → Int32) (p1 : Int32) (p2 : Int32) {r : Int32} (hf : fX4_ifRead n_ones n_twos n_settings n_tick p1 p2 = some r) : MetRI l yX4_ifRead cX4_ifRead 3 (some .int) 6 135 [.ref ob, .int p1, .int p2] (dC, dI) (tyS cyI cyC cyO) (wAll cyI cyC cyO ob n0 n1 n2 n3 t0 t1 t2 t3 s0 aR ro r1 r2 r3 x0 x1 x2 x3 x4 n_ones n_twos n_settings n_tick n_energy n_valuesPut t_ones t_twos t_settings t_tick t_energy t_valuesPut s_ring s_oldest s_count x_signs x_length x_position x_complete x_orders x_kinds x_numbers x_values) r := by
  refine metRI_of (by decide) (Nat.le_of_ble_eq_true rfl) ?_
  intro p e s m below meth c ls hC hr hlk hP hK hl
  have hC : CallFix p m c cX4_ifRead 3 s [.ref ob, .int p1, .int p2].toArray wA RX4 := hC
  obtain ⟨hx, hb, hml, hown, hts⟩ := id hC
  have hS : va_S kF s.heap s.heap [] := va_S.rf
  have hl : lv_has ls 3 [(0, .ref ob), (1, .int p1), (2, .int p2)] := hl
  have h := hf
  unfold fX4_ifRead at h
  obtain ⟨H, hH⟩ : ∃ H, H = s.heap := ⟨_, rfl⟩
  obtain ⟨locs, hlo⟩ : ∃ locs : List Loc, locs = [] := ⟨_, rfl⟩
  rw [← hH] at hP
  rw [← hlo] at hS
  have hS : va_S kF s.heap H locs := by rw [hH]; exact hS
  show W p l e (k_rm 6 135) s m [.ref ob, .int p1, .int p2].toArray below meth c s.heap [] 0 0 _ _
  rw [← hlo, ← hH]
  refine lv_iload_n hx hb dX4_ifRead_0 rfl (lv_at hl 1 rfl) ?_
  refine lv_iconst (v := 0) hx hb dX4_ifRead_1 (by decide) ?_
  refine lv_bipush (v := 99) hx hb dX4_ifRead_2 (by decide) ?_
  obtain ⟨z1, hc4, h⟩ := k_b1_e h
  refine g_callRI_S (As := [.int p1, .int 0, .int 99]) (rest := []) hC (mX4_isWithin l dC dI cyI cyC cyO p1 0 99 hc4) q220 q221 q8 q222 3 hdX4_isWithin ⟨Nat.le_of_ble_eq_true rfl, Nat.le_of_ble_eq_true rfl⟩ ⟨Nat.le_of_ble_eq_true rfl, Nat.le_of_ble_eq_true rfl⟩ rfl rfl hl.1 (Nat.le_of_ble_eq_true rfl) va_P_nil hK hS dX4_ifRead_4 (fun H locs hk hS => ?_)
  have hP := k_kept hP hk
  obtain ⟨hv, h⟩ := k_req_e h
  refine g_callRV_S (As := [.int z1]) (rest := []) hC (mX4_requireArgument l (dC, dI) (tyS cyI cyC cyO) z1 hv) q83 q84 q8 q85 1 hdX4_requireArgument ⟨Nat.le_of_ble_eq_true rfl, Nat.le_of_ble_eq_true rfl⟩ ⟨Nat.le_of_ble_eq_true rfl, Nat.le_of_ble_eq_true rfl⟩ rfl rfl hl.1 (Nat.le_of_ble_eq_true rfl) va_P_nil hK hS dX4_ifRead_7 (fun H locs hk hS => ?_)
  have hP := k_kept hP hk
  refine lv_aload_n hx hb dX4_ifRead_10 rfl (lv_at hl 0 rfl) ?_
  refine lv_iload_n hx hb dX4_ifRead_11 rfl (lv_at hl 1 rfl) ?_
  refine lv_iload_n hx hb dX4_ifRead_12 rfl (lv_at hl 2 rfl) ?_
  obtain ⟨z2, hc13, h⟩ := k_b1_e h
  refine g_callRI_V (As := [.int p1, .int p2]) (rest := []) hC (mX4_valuesReadOtherwise l dC dI cyI cyC cyO ob n0 n1 n2 n3 t0 t1 t2 t3 s0 aR ro r1 r2 r3 x0 x1 x2 x3 x4 n_ones n_twos n_settings n_tick n_energy n_valuesPut t_ones t_twos t_settings t_tick t_energy t_valuesPut s_ring s_oldest s_count x_signs x_length x_position x_complete x_orders x_kinds x_numbers x_values p1 p2 hc13) q369 q370 q5 q8 q371 2 hdX4_valuesReadOtherwise ⟨Nat.le_of_ble_eq_true rfl, Nat.le_of_ble_eq_true rfl⟩ ⟨Nat.le_of_ble_eq_true rfl, Nat.le_of_ble_eq_true rfl⟩ rfl rfl hl.1 (Nat.le_of_ble_eq_true rfl) hP hK (va_recv hK hP (ci := 3) (q0 := 0) rfl rfl) hS dX4_ifRead_13 (fun H locs hk hS => ?_)
  have hP := k_kept hP hk
  exact g_retRI hx hb hr hlk hS h dX4_ifRead_16
def fX4_worst_s6 (n_ones : Nat → Int32) (n_twos : Nat → Int32) (n_tick : Int32) (n_settings : Nat → Int32) (rec6 : Int32 → Int32 → Int32 → Option (Int32)) (z1 : Int32) (z2 : Int32) (z3 : Int32) : Option (Int32) :=
  k_if (20 ≤ z3)
  (
    some z1)
  (
    k_b1 (fX3_doubtfulFuses n_ones n_twos z3) fun (z4 : Int32) =>
    k_j2
    (fun (z5 : Int32) (z6 : Int32) =>
      k_let (z3 + 1) fun (z7 : Int32) =>
      rec6 z5 z6 z7)
    (fun K56 =>
    k_if (z4 ≤ z2)
    (
      K56 z1 z2)
    (
      k_b1 (fX3_isLocked n_ones n_twos n_tick z3) fun (z8 : Int32) =>
      k_if (z8 = 0)
      (
        k_b1 (fX3_kind n_ones n_twos n_settings n_tick z3) fun (z9 : Int32) =>
        k_if (z9 = 4)
        (
          K56 z3 z4)
        (
          K56 z1 z2))
      (
        K56 z1 z2))))
def fX4_worst (n_ones : Nat → Int32) (n_twos : Nat → Int32) (n_settings : Nat → Int32) (n_tick : Int32) : Option (Int32) :=
  k_l3 (fX4_worst_s6 n_ones n_twos n_tick n_settings) 5000 ((-1)) 0 0
theorem hdX4_worst : yX4_worst.cls = RX4 ∧ yX4_worst.cls ≠ "java/lang/invoke/MethodHandle" ∧ yX4_worst.cls ≠ "java/lang/invoke/VarHandle" ∧ (parseMethodDescriptor yX4_worst.desc).map (fun d => d.parameters.length) = some 0 := by decide +kernel
set_option maxRecDepth 100000 in
set_option maxHeartbeats 4000000 in
theorem mX4_worst (l : Launch) (dC : Nat → ClassId) (dI : Nat → Nat → Nat) (cyI cyC cyO : ClassId) (ob : Nat) (n0 : Nat) (n1 : Nat) (n2 : Nat) (n3 : Nat) (t0 : Nat) (t1 : Nat) (t2 : Nat) (t3 : Nat) (s0 : Nat) (aR : Nat) (ro : Nat → Nat) (r1 : Nat → Nat) (r2 : Nat → Nat) (r3 : Nat → Nat) (x0 : Nat) (x1 : Nat) (x2 : Nat) (x3 : Nat) (x4 : Nat) (n_ones : Nat → Int32) (n_twos : Nat → Int32) (n_settings : Nat → Int32) (n_tick : Int32) (n_energy : Int32) (n_valuesPut : Int32) (t_ones : Nat → Int32) (t_twos : Nat → Int32) (t_settings : Nat → Int32) (t_tick : Int32) (t_energy : Int32) (t_valuesPut : Int32) (s_ring : Nat → SV) (s_oldest : Int32) (s_count : Int32) (x_signs : Nat → Int32) (x_length : Int32) (x_position : Int32) (x_complete : Int32) (x_orders : Int32) (x_kinds : Nat → Int32) (x_numbers : Nat → Int32) (x_values : Nat → Int32)  {r : Int32} (hf : fX4_worst n_ones n_twos n_settings n_tick = some r) : MetRI l yX4_worst cX4_worst 5 (some .int) 3 69 [.ref ob] (dC, dI) (tyS cyI cyC cyO) (wAll cyI cyC cyO ob n0 n1 n2 n3 t0 t1 t2 t3 s0 aR ro r1 r2 r3 x0 x1 x2 x3 x4 n_ones n_twos n_settings n_tick n_energy n_valuesPut t_ones t_twos t_settings t_tick t_energy t_valuesPut s_ring s_oldest s_count x_signs x_length x_position x_complete x_orders x_kinds x_numbers x_values) r := by
  refine metRI_of (by decide) (Nat.le_of_ble_eq_true rfl) ?_
  intro p e s m below meth c ls hC hr hlk hP hK hl
  have hC : CallFix p m c cX4_worst 5 s [.ref ob].toArray wA RX4 := hC
  obtain ⟨hx, hb, hml, hown, hts⟩ := id hC
  have hS : va_S kF s.heap s.heap [] := va_S.rf
  have hl : lv_has ls 5 [(0, .ref ob)] := hl
  have h := hf
  unfold fX4_worst at h
  obtain ⟨H, hH⟩ : ∃ H, H = s.heap := ⟨_, rfl⟩
  obtain ⟨locs, hlo⟩ : ∃ locs : List Loc, locs = [] := ⟨_, rfl⟩
  rw [← hH] at hP
  rw [← hlo] at hS
  have hS : va_S kF s.heap H locs := by rw [hH]; exact hS
  show W p l e (k_rm 3 69) s m [.ref ob].toArray below meth c s.heap [] 0 0 _ _
  rw [← hlo, ← hH]
  refine lv_iconst (v := (-1)) hx hb dX4_worst_0 (by decide) ?_
  refine lv_istore_n (lv' := [(1, .int ((-1))), (0, .ref ob)]) hx hb dX4_worst_1 rfl hl (by decide) rfl (fun ls hl => ?_)
  refine lv_iconst (v := 0) hx hb dX4_worst_2 (by decide) ?_
  refine lv_istore_n (lv' := [(2, .int 0), (1, .int ((-1))), (0, .ref ob)]) hx hb dX4_worst_3 rfl hl (by decide) rfl (fun ls hl => ?_)
  refine lv_iconst (v := 0) hx hb dX4_worst_4 (by decide) ?_
  refine lv_istore_n (lv' := [(3, .int 0), (2, .int 0), (1, .int ((-1))), (0, .ref ob)]) hx hb dX4_worst_5 rfl hl (by decide) rfl (fun ls hl => ?_)
  obtain ⟨S6, hS6⟩ : ∃ z, z = (fX4_worst_s6 n_ones n_twos n_tick n_settings) := ⟨_, rfl⟩
  rw [← hS6] at h
  have L6 : ∀ (n : Nat) (z1 : Int32) (z2 : Int32) (z3 : Int32) (H : Heap) (locs : List Loc) (ls : Array Slot), k_l3 S6 n z1 z2 z3 = some r → va_P (dC, dI) vwCl (wAll cyI cyC cyO ob n0 n1 n2 n3 t0 t1 t2 t3 s0 aR ro r1 r2 r3 x0 x1 x2 x3 x4 n_ones n_twos n_settings n_tick n_energy n_valuesPut t_ones t_twos t_settings t_tick t_energy t_valuesPut s_ring s_oldest s_count x_signs x_length x_position x_complete x_orders x_kinds x_numbers x_values) H → va_S kF s.heap H locs → lv_has ls 5 [(0, .ref ob), (1, .int z1), (2, .int z2), (3, .int z3)] → W p l e (k_rm 3 69) s m [.ref ob].toArray below meth c H locs 0 0 (MQ below (qRI r) [.ref ob].toArray s 0 0 kF) (F0 m 6 ls []) := by
    intro n
    induction n with
    | zero =>
      intro z1 z2 z3 H locs ls h
      exact (k_l3_0 h).elim
    | succ n ih6 =>
      intro z1 z2 z3 H locs ls h hP hS hl
      have h := k_l3_s h
      have h := k_a4 hS6 h
      unfold fX4_worst_s6 at h
      refine lv_iload_n hx hb dX4_worst_6 rfl (lv_at hl 3 rfl) ?_
      refine lv_bipush (v := 20) hx hb dX4_worst_7 (by decide) ?_
      refine g_icmp_ge (tgt := 62) hx hb dX4_worst_9 (by decide) h (fun h => ?_) (fun h => ?_)
      · refine lv_iload_n hx hb dX4_worst_62 rfl (lv_at hl 1 rfl) ?_
        exact g_retRI hx hb hr hlk hS h dX4_worst_63
      · refine lv_aload_n hx hb dX4_worst_12 rfl (lv_at hl 0 rfl) ?_
        refine va_get (D := (dC, dI)) (ci := 3) (v := .ref n0) (C := RX4) (T := TX4) (N := 4) hx hb hts iaX4 hown hK hP 0 rfl rfl 0 (by decide) (hts _ q72) (fun _ h9 => h9) rfl dX4_worst_13 ?_
        refine lv_iload_n hx hb dX4_worst_16 rfl (lv_at hl 3 rfl) ?_
        obtain ⟨z4, hc17, h⟩ := k_b1_e h
        refine g_callRI_V (As := [.int z3]) (rest := []) hC (mX3_doubtfulFuses l dC dI cyI cyC cyO n0 n1 n2 n3 n_ones n_twos n_settings n_tick n_energy n_valuesPut z3 hc17) q248 q249 q250 q9 q251 1 hdX3_doubtfulFuses ⟨Nat.le_of_ble_eq_true rfl, Nat.le_of_ble_eq_true rfl⟩ ⟨Nat.le_of_ble_eq_true rfl, Nat.le_of_ble_eq_true rfl⟩ rfl rfl hl.1 (Nat.le_of_ble_eq_true rfl) (hP.sub (ws' := (wX3 cyI cyC n0 n1 n2 n3 n_ones n_twos n_settings n_tick n_energy n_valuesPut)) [1, 2, 3, 4] rfl) hK (va_recv hK hP (ci := 2) (q0 := 1) rfl rfl) hS dX4_worst_17 (fun H locs hk hS => ?_)
        have hP := k_kept hP hk
        refine lv_istore (lv' := [(4, .int z4), (0, .ref ob), (1, .int z1), (2, .int z2), (3, .int z3)]) hx hb dX4_worst_20 hl (by decide) rfl (fun ls hl => ?_)
        refine lv_iload hx hb dX4_worst_22 (lv_at hl 0 rfl) ?_
        refine lv_iload_n hx hb dX4_worst_24 rfl (lv_at hl 3 rfl) ?_
        obtain ⟨K56, hK56, h⟩ := k_j2_e h
        have J56 : ∀ (z5 : Int32) (z6 : Int32) (H : Heap) (locs : List Loc) (ls : Array Slot), K56 z5 z6 = some r → va_P (dC, dI) vwCl (wAll cyI cyC cyO ob n0 n1 n2 n3 t0 t1 t2 t3 s0 aR ro r1 r2 r3 x0 x1 x2 x3 x4 n_ones n_twos n_settings n_tick n_energy n_valuesPut t_ones t_twos t_settings t_tick t_energy t_valuesPut s_ring s_oldest s_count x_signs x_length x_position x_complete x_orders x_kinds x_numbers x_values) H → va_S kF s.heap H locs → lv_has ls 5 [(0, .ref ob), (1, .int z5), (2, .int z6), (3, .int z3)] → W p l e (k_rm 3 69) s m [.ref ob].toArray below meth c H locs 0 0 (MQ below (qRI r) [.ref ob].toArray s 0 0 kF) (F0 m 56 ls []) := by
          intro z5 z6 H locs ls h hP hS hl
          have h := k_a2 hK56 h
          refine g_iinc (dv := 1) hx hb dX4_worst_56 hl (j := 3) rfl (by decide) (by decide) h (fun z7 ls h hl => ?_)
          have hl : lv_has ls 5 [(3, .int z7), (0, .ref ob), (1, .int z5), (2, .int z6)] := hl
          refine lv_goto (tgt := 6) hx hb dX4_worst_59 (by decide) ?_
          exact ih6 z5 z6 z7 _ _ _ h hP hS (lv_sub hl [1, 2, 3, 0] rfl)
        refine g_icmp_le (tgt := 56) hx hb dX4_worst_25 (by decide) h (fun h => ?_) (fun h => ?_)
        · exact J56 z1 z2 _ _ _ h hP hS (lv_sub hl [1, 2, 3, 4] rfl)
        · refine lv_aload_n hx hb dX4_worst_28 rfl (lv_at hl 1 rfl) ?_
          refine va_get (D := (dC, dI)) (ci := 3) (v := .ref n0) (C := RX4) (T := TX4) (N := 4) hx hb hts iaX4 hown hK hP 0 rfl rfl 0 (by decide) (hts _ q72) (fun _ h9 => h9) rfl dX4_worst_29 ?_
          refine lv_iload_n hx hb dX4_worst_32 rfl (lv_at hl 4 rfl) ?_
          obtain ⟨z8, hc33, h⟩ := k_b1_e h
          refine g_callRI_V (As := [.int z3]) (rest := []) hC (mX3_isLocked l dC dI cyI cyC cyO n0 n1 n2 n3 n_ones n_twos n_settings n_tick n_energy n_valuesPut z3 hc33) q199 q155 q156 q9 q157 1 hdX3_isLocked ⟨Nat.le_of_ble_eq_true rfl, Nat.le_of_ble_eq_true rfl⟩ ⟨Nat.le_of_ble_eq_true rfl, Nat.le_of_ble_eq_true rfl⟩ rfl rfl hl.1 (Nat.le_of_ble_eq_true rfl) (hP.sub (ws' := (wX3 cyI cyC n0 n1 n2 n3 n_ones n_twos n_settings n_tick n_energy n_valuesPut)) [1, 2, 3, 4] rfl) hK (va_recv hK hP (ci := 2) (q0 := 1) rfl rfl) hS dX4_worst_33 (fun H locs hk hS => ?_)
          have hP := k_kept hP hk
          refine g_if_ne (tgt := 56) hx hb dX4_worst_36 (by decide) h (fun h => ?_) (fun h => ?_)
          · exact J56 z1 z2 _ _ _ h hP hS (lv_sub hl [1, 2, 3, 4] rfl)
          · refine lv_aload_n hx hb dX4_worst_39 rfl (lv_at hl 1 rfl) ?_
            refine va_get (D := (dC, dI)) (ci := 3) (v := .ref n0) (C := RX4) (T := TX4) (N := 4) hx hb hts iaX4 hown hK hP 0 rfl rfl 0 (by decide) (hts _ q72) (fun _ h9 => h9) rfl dX4_worst_40 ?_
            refine lv_iload_n hx hb dX4_worst_43 rfl (lv_at hl 4 rfl) ?_
            obtain ⟨z9, hc44, h⟩ := k_b1_e h
            refine g_callRI_V (As := [.int z3]) (rest := []) hC (mX3_kind l dC dI cyI cyC cyO n0 n1 n2 n3 n_ones n_twos n_settings n_tick n_energy n_valuesPut z3 hc44) q364 q320 q321 q9 q322 1 hdX3_kind ⟨Nat.le_of_ble_eq_true rfl, Nat.le_of_ble_eq_true rfl⟩ ⟨Nat.le_of_ble_eq_true rfl, Nat.le_of_ble_eq_true rfl⟩ rfl rfl hl.1 (Nat.le_of_ble_eq_true rfl) (hP.sub (ws' := (wX3 cyI cyC n0 n1 n2 n3 n_ones n_twos n_settings n_tick n_energy n_valuesPut)) [1, 2, 3, 4] rfl) hK (va_recv hK hP (ci := 2) (q0 := 1) rfl rfl) hS dX4_worst_44 (fun H locs hk hS => ?_)
            have hP := k_kept hP hk
            refine lv_iconst (v := 4) hx hb dX4_worst_47 (by decide) ?_
            refine g_icmp_ne (tgt := 56) hx hb dX4_worst_48 (by decide) h (fun h => ?_) (fun h => ?_)
            · exact J56 z1 z2 _ _ _ h hP hS (lv_sub hl [1, 2, 3, 4] rfl)
            · refine lv_iload_n hx hb dX4_worst_51 rfl (lv_at hl 4 rfl) ?_
              refine lv_istore_n (lv' := [(1, .int z3), (4, .int z4), (0, .ref ob), (2, .int z2), (3, .int z3)]) hx hb dX4_worst_52 rfl hl (by decide) rfl (fun ls hl => ?_)
              refine lv_iload hx hb dX4_worst_53 (lv_at hl 1 rfl) ?_
              refine lv_istore_n (lv' := [(2, .int z4), (1, .int z3), (4, .int z4), (0, .ref ob), (3, .int z3)]) hx hb dX4_worst_55 rfl hl (by decide) rfl (fun ls hl => ?_)
              exact J56 z3 z4 _ _ _ h hP hS (lv_sub hl [3, 1, 0, 4] rfl)
  exact L6 5000 ((-1)) 0 0 _ _ _ h hP hS (lv_sub hl [3, 2, 1, 0] rfl)
