def fX4_clearBuffer (x_length : Int32) : Option (Int32 × Int32) :=
  k_b1 (fX1_empty x_length) fun (c1 : Int32) =>
  some (x_length, c1)
theorem hdX4_clearBuffer : yX4_clearBuffer.cls = RX4 ∧ yX4_clearBuffer.cls ≠ "java/lang/invoke/MethodHandle" ∧ yX4_clearBuffer.cls ≠ "java/lang/invoke/VarHandle" ∧ (parseMethodDescriptor yX4_clearBuffer.desc).map (fun d => d.parameters.length) = some 0 := by decide +kernel
set_option maxRecDepth 100000 in
set_option maxHeartbeats 4000000 in
theorem mX4_clearBuffer (l : Launch) (dC : Nat → ClassId) (dI : Nat → Nat → Nat) (cyI cyC cyO : ClassId) (ob : Nat) (n0 : Nat) (n1 : Nat) (n2 : Nat) (n3 : Nat) (t0 : Nat) (t1 : Nat) (t2 : Nat) (t3 : Nat) (s0 : Nat) (aR : Nat) (ro : Nat → Nat) (r1 : Nat → Nat) (r2 : Nat → Nat) (r3 : Nat → Nat) (x0 : Nat) (x1 : Nat) (x2 : Nat) (x3 : Nat) (x4 : Nat) (n_ones : Nat → Int32) (n_twos : Nat → Int32) (n_settings : Nat → Int32) (n_tick : Int32) (n_energy : Int32) (n_valuesPut : Int32) (t_ones : Nat → Int32) (t_twos : Nat → Int32) (t_settings : Nat → Int32) (t_tick : Int32) (t_energy : Int32) (t_valuesPut : Int32) (s_ring : Nat → SV) (s_oldest : Int32) (s_count : Int32) (x_signs : Nat → Int32) (x_length : Int32) (x_position : Int32) (x_complete : Int32) (x_orders : Int32) (x_kinds : Nat → Int32) (x_numbers : Nat → Int32) (x_values : Nat → Int32)  {r : Int32} {r_x_length : Int32} (hf : fX4_clearBuffer x_length = some (r, r_x_length)) : MetMI l yX4_clearBuffer cX4_clearBuffer 2 (some .int) 1 20 [.ref ob] (dC, dI) (tyS cyI cyC cyO) (wAll cyI cyC cyO ob n0 n1 n2 n3 t0 t1 t2 t3 s0 aR ro r1 r2 r3 x0 x1 x2 x3 x4 n_ones n_twos n_settings n_tick n_energy n_valuesPut t_ones t_twos t_settings t_tick t_energy t_valuesPut s_ring s_oldest s_count x_signs x_length x_position x_complete x_orders x_kinds x_numbers x_values) (wAll cyI cyC cyO ob n0 n1 n2 n3 t0 t1 t2 t3 s0 aR ro r1 r2 r3 x0 x1 x2 x3 x4 n_ones n_twos n_settings n_tick n_energy n_valuesPut t_ones t_twos t_settings t_tick t_energy t_valuesPut s_ring s_oldest s_count x_signs r_x_length x_position x_complete x_orders x_kinds x_numbers x_values) r := by
  refine metMI_of (by decide) (Nat.le_of_ble_eq_true rfl) ?_
  intro p e s m below meth c ls hC hr hlk hP hK hD hl
  have hC : CallFix p m c cX4_clearBuffer 2 s [.ref ob].toArray wA RX4 := hC
  obtain ⟨hx, hb, hml, hown, hts⟩ := id hC
  have hS : va_S (k_A (wAll cyI cyC cyO ob n0 n1 n2 n3 t0 t1 t2 t3 s0 aR ro r1 r2 r3 x0 x1 x2 x3 x4 n_ones n_twos n_settings n_tick n_energy n_valuesPut t_ones t_twos t_settings t_tick t_energy t_valuesPut s_ring s_oldest s_count x_signs x_length x_position x_complete x_orders x_kinds x_numbers x_values)) s.heap s.heap [] := va_S.rf
  have hl : lv_has ls 2 [(0, .ref ob)] := hl
  have h := hf
  unfold fX4_clearBuffer at h
  obtain ⟨H, hH⟩ : ∃ H, H = s.heap := ⟨_, rfl⟩
  obtain ⟨locs, hlo⟩ : ∃ locs : List Loc, locs = [] := ⟨_, rfl⟩
  rw [← hH] at hP
  rw [← hlo] at hS
  have hS : va_S (k_A (wAll cyI cyC cyO ob n0 n1 n2 n3 t0 t1 t2 t3 s0 aR ro r1 r2 r3 x0 x1 x2 x3 x4 n_ones n_twos n_settings n_tick n_energy n_valuesPut t_ones t_twos t_settings t_tick t_energy t_valuesPut s_ring s_oldest s_count x_signs x_length x_position x_complete x_orders x_kinds x_numbers x_values)) s.heap H locs := by rw [hH]; exact hS
  show W p l e (k_rm 1 20) s m [.ref ob].toArray below meth c s.heap [] 0 0 _ _
  rw [← hlo, ← hH]
  refine lv_aload_n hx hb dX4_clearBuffer_0 rfl (lv_at hl 0 rfl) ?_
  refine va_get (D := (dC, dI)) (ci := 3) (v := .ref x0) (C := RX4) (T := TX4) (N := 4) hx hb hts iaX4 hown hK hP 0 rfl rfl 3 (by decide) (hts _ q155) (fun _ h9 => h9) rfl dX4_clearBuffer_1 ?_
  refine va_get (D := (dC, dI)) (ci := 0) (v := .int x_length) (C := RX1) (T := TX1) (N := 8) hx hb hts iaX1 hown hK hP 35 rfl rfl 1 (by decide) (hts _ q138) (fun _ h9 => h9) rfl dX4_clearBuffer_4 ?_
  refine lv_istore_n (lv' := [(1, .int x_length), (0, .ref ob)]) hx hb dX4_clearBuffer_7 rfl hl (by decide) rfl (fun ls hl => ?_)
  refine lv_aload_n hx hb dX4_clearBuffer_8 rfl (lv_at hl 1 rfl) ?_
  refine va_get (D := (dC, dI)) (ci := 3) (v := .ref x0) (C := RX4) (T := TX4) (N := 4) hx hb hts iaX4 hown hK hP 0 rfl rfl 3 (by decide) (hts _ q155) (fun _ h9 => h9) rfl dX4_clearBuffer_9 ?_
  obtain ⟨c1, hc12, h⟩ := k_b1_e h
  refine g_callMV_V (As := []) (rest := []) hC (mX1_empty l dC dI cyI cyC cyO x0 x1 x2 x3 x4 x_signs x_length x_position x_complete x_orders x_kinds x_numbers x_values hc12) q160 q161 q162 q74 q163 0 hdX1_empty ⟨Nat.le_of_ble_eq_true rfl, Nat.le_of_ble_eq_true rfl⟩ ⟨Nat.le_of_ble_eq_true rfl, Nat.le_of_ble_eq_true rfl⟩ rfl rfl hl.1 (Nat.le_of_ble_eq_true rfl) (hP.sub (ws' := (wX1 cyI cyC x0 x1 x2 x3 x4 x_signs x_length x_position x_complete x_orders x_kinds x_numbers x_values)) [35, 36, 37, 38, 39] rfl) hK (hD.sub (ws' := (wX1 cyI cyC x0 x1 x2 x3 x4 x_signs x_length x_position x_complete x_orders x_kinds x_numbers x_values)) [35, 36, 37, 38, 39] (by decide) rfl) (va_recv hK hP (ci := 0) (q0 := 35) rfl rfl) hS dX4_clearBuffer_12 (fun H locs hPn hk hS => ?_)
  have hP : va_P (dC, dI) vwCl (wAll cyI cyC cyO ob n0 n1 n2 n3 t0 t1 t2 t3 s0 aR ro r1 r2 r3 x0 x1 x2 x3 x4 n_ones n_twos n_settings n_tick n_energy n_valuesPut t_ones t_twos t_settings t_tick t_energy t_valuesPut s_ring s_oldest s_count x_signs c1 x_position x_complete x_orders x_kinds x_numbers x_values) H := k_repl hP hD [35, 36, 37, 38, 39] rfl hk hPn [.inl 0, .inl 1, .inl 2, .inl 3, .inl 4, .inl 5, .inl 6, .inl 7, .inl 8, .inl 9, .inl 10, .inl 11, .inl 12, .inl 13, .inl 14, .inl 15, .inl 16, .inl 17, .inl 18, .inl 19, .inl 20, .inl 21, .inl 22, .inl 23, .inl 24, .inl 25, .inl 26, .inl 27, .inl 28, .inl 29, .inl 30, .inl 31, .inl 32, .inl 33, .inl 34, .inr 0, .inr 1, .inr 2, .inr 3, .inr 4] rfl (by decide)
  have hD : va_D (k_A (wAll cyI cyC cyO ob n0 n1 n2 n3 t0 t1 t2 t3 s0 aR ro r1 r2 r3 x0 x1 x2 x3 x4 n_ones n_twos n_settings n_tick n_energy n_valuesPut t_ones t_twos t_settings t_tick t_energy t_valuesPut s_ring s_oldest s_count x_signs x_length x_position x_complete x_orders x_kinds x_numbers x_values)) (wAll cyI cyC cyO ob n0 n1 n2 n3 t0 t1 t2 t3 s0 aR ro r1 r2 r3 x0 x1 x2 x3 x4 n_ones n_twos n_settings n_tick n_energy n_valuesPut t_ones t_twos t_settings t_tick t_energy t_valuesPut s_ring s_oldest s_count x_signs c1 x_position x_complete x_orders x_kinds x_numbers x_values) := k_Dm hD rfl
  refine lv_iload_n hx hb dX4_clearBuffer_15 rfl (lv_at hl 0 rfl) ?_
  obtain ⟨e0, e1⟩ := k_t2 h
  exact g_retMI hx hb hr hlk hS e0 (by rw [← e1]; exact hP) dX4_clearBuffer_16
def fX4_firstError (x_signs : Nat → Int32) (x_length : Int32) (x_position : Int32) (x_complete : Int32) (x_orders : Int32) (x_kinds : Nat → Int32) (x_numbers : Nat → Int32) (x_values : Nat → Int32) : Option (Int32 × Int32 × Int32 × Int32 × (Nat → Int32) × (Nat → Int32) × (Nat → Int32)) :=
  k_b6 (fX1_scan x_signs x_length x_position x_complete x_orders x_kinds x_numbers x_values) fun (c1 : Int32) (c2 : Int32) (c3 : Int32) (c4 : Nat → Int32) (c5 : Nat → Int32) (c6 : Nat → Int32) =>
  some (c1, c1, c2, c3, c4, c5, c6)
theorem hdX4_firstError : yX4_firstError.cls = RX4 ∧ yX4_firstError.cls ≠ "java/lang/invoke/MethodHandle" ∧ yX4_firstError.cls ≠ "java/lang/invoke/VarHandle" ∧ (parseMethodDescriptor yX4_firstError.desc).map (fun d => d.parameters.length) = some 0 := by decide +kernel
set_option maxRecDepth 100000 in
set_option maxHeartbeats 4000000 in
theorem mX4_firstError (l : Launch) (dC : Nat → ClassId) (dI : Nat → Nat → Nat) (cyI cyC cyO : ClassId) (ad : Nat → Nat) (ob : Nat) (n0 : Nat) (n1 : Nat) (n2 : Nat) (n3 : Nat) (t0 : Nat) (t1 : Nat) (t2 : Nat) (t3 : Nat) (s0 : Nat) (aR : Nat) (ro : Nat → Nat) (r1 : Nat → Nat) (r2 : Nat → Nat) (r3 : Nat → Nat) (x0 : Nat) (x1 : Nat) (x2 : Nat) (x3 : Nat) (x4 : Nat) (n_ones : Nat → Int32) (n_twos : Nat → Int32) (n_settings : Nat → Int32) (n_tick : Int32) (n_energy : Int32) (n_valuesPut : Int32) (t_ones : Nat → Int32) (t_twos : Nat → Int32) (t_settings : Nat → Int32) (t_tick : Int32) (t_energy : Int32) (t_valuesPut : Int32) (s_ring : Nat → SV) (s_oldest : Int32) (s_count : Int32) (x_signs : Nat → Int32) (x_length : Int32) (x_position : Int32) (x_complete : Int32) (x_orders : Int32) (x_kinds : Nat → Int32) (x_numbers : Nat → Int32) (x_values : Nat → Int32)  {r : Int32} {r_x_position : Int32} {r_x_complete : Int32} {r_x_orders : Int32} {r_x_kinds : Nat → Int32} {r_x_numbers : Nat → Int32} {r_x_values : Nat → Int32} (hf : fX4_firstError x_signs x_length x_position x_complete x_orders x_kinds x_numbers x_values = some (r, r_x_position, r_x_complete, r_x_orders, r_x_kinds, r_x_numbers, r_x_values)) : MetMIe l yX4_firstError cX4_firstError 1 (some .int) 8 177 [.ref ob] (dC, dI) (tyS cyI cyC cyO) (wAll cyI cyC cyO ob n0 n1 n2 n3 t0 t1 t2 t3 s0 aR ro r1 r2 r3 x0 x1 x2 x3 x4 n_ones n_twos n_settings n_tick n_energy n_valuesPut t_ones t_twos t_settings t_tick t_energy t_valuesPut s_ring s_oldest s_count x_signs x_length x_position x_complete x_orders x_kinds x_numbers x_values) (wAll cyI cyC cyO ob n0 n1 n2 n3 t0 t1 t2 t3 s0 aR ro r1 r2 r3 x0 x1 x2 x3 x4 n_ones n_twos n_settings n_tick n_energy n_valuesPut t_ones t_twos t_settings t_tick t_energy t_valuesPut s_ring s_oldest s_count x_signs x_length r_x_position r_x_complete r_x_orders r_x_kinds r_x_numbers r_x_values) ad r := by
  refine metMIe_of (by decide) (Nat.le_of_ble_eq_true rfl) ?_
  intro p e s m below meth c ls hC hr hlk hP hK hD hE hl
  have hC : CallFix p m c cX4_firstError 1 s [.ref ob].toArray wA RX4 := hC
  obtain ⟨hx, hb, hml, hown, hts⟩ := id hC
  have hS : va_S (k_A (wAll cyI cyC cyO ob n0 n1 n2 n3 t0 t1 t2 t3 s0 aR ro r1 r2 r3 x0 x1 x2 x3 x4 n_ones n_twos n_settings n_tick n_energy n_valuesPut t_ones t_twos t_settings t_tick t_energy t_valuesPut s_ring s_oldest s_count x_signs x_length x_position x_complete x_orders x_kinds x_numbers x_values)) s.heap s.heap [] := va_S.rf
  have hl : lv_has ls 1 [(0, .ref ob)] := hl
  have h := hf
  unfold fX4_firstError at h
  obtain ⟨H, hH⟩ : ∃ H, H = s.heap := ⟨_, rfl⟩
  obtain ⟨locs, hlo⟩ : ∃ locs : List Loc, locs = [] := ⟨_, rfl⟩
  rw [← hH] at hP
  rw [← hlo] at hS
  have hS : va_S (k_A (wAll cyI cyC cyO ob n0 n1 n2 n3 t0 t1 t2 t3 s0 aR ro r1 r2 r3 x0 x1 x2 x3 x4 n_ones n_twos n_settings n_tick n_energy n_valuesPut t_ones t_twos t_settings t_tick t_energy t_valuesPut s_ring s_oldest s_count x_signs x_length x_position x_complete x_orders x_kinds x_numbers x_values)) s.heap H locs := by rw [hH]; exact hS
  show W p l e (k_rm 8 177) s m [.ref ob].toArray below meth c s.heap [] 0 0 _ _
  rw [← hlo, ← hH]
  refine lv_aload_n hx hb dX4_firstError_0 rfl (lv_at hl 0 rfl) ?_
  refine va_get (D := (dC, dI)) (ci := 3) (v := .ref x0) (C := RX4) (T := TX4) (N := 4) hx hb hts iaX4 hown hK hP 0 rfl rfl 3 (by decide) (hts _ q155) (fun _ h9 => h9) rfl dX4_firstError_1 ?_
  obtain ⟨c1, c2, c3, c4, c5, c6, hc4, h⟩ := k_b6_e h
  refine g_callMVe_V (As := []) (rest := []) hC (mX1_scan l dC dI cyI cyC cyO ad x0 x1 x2 x3 x4 x_signs x_length x_position x_complete x_orders x_kinds x_numbers x_values hc4) q168 q169 q170 q74 q171 0 hdX1_scan ⟨Nat.le_of_ble_eq_true rfl, Nat.le_of_ble_eq_true rfl⟩ ⟨Nat.le_of_ble_eq_true rfl, Nat.le_of_ble_eq_true rfl⟩ rfl rfl hl.1 (Nat.le_of_ble_eq_true rfl) (hP.sub (ws' := (wX1 cyI cyC x0 x1 x2 x3 x4 x_signs x_length x_position x_complete x_orders x_kinds x_numbers x_values)) [35, 36, 37, 38, 39] rfl) hK (hD.sub (ws' := (wX1 cyI cyC x0 x1 x2 x3 x4 x_signs x_length x_position x_complete x_orders x_kinds x_numbers x_values)) [35, 36, 37, 38, 39] (by decide) rfl) (va_recv hK hP (ci := 0) (q0 := 35) rfl rfl) hS dX4_firstError_4 hE (fun H locs hPn hk hS => ?_)
  have hP : va_P (dC, dI) vwCl (wAll cyI cyC cyO ob n0 n1 n2 n3 t0 t1 t2 t3 s0 aR ro r1 r2 r3 x0 x1 x2 x3 x4 n_ones n_twos n_settings n_tick n_energy n_valuesPut t_ones t_twos t_settings t_tick t_energy t_valuesPut s_ring s_oldest s_count x_signs x_length c1 c2 c3 c4 c5 c6) H := k_repl hP hD [35, 36, 37, 38, 39] rfl hk hPn [.inl 0, .inl 1, .inl 2, .inl 3, .inl 4, .inl 5, .inl 6, .inl 7, .inl 8, .inl 9, .inl 10, .inl 11, .inl 12, .inl 13, .inl 14, .inl 15, .inl 16, .inl 17, .inl 18, .inl 19, .inl 20, .inl 21, .inl 22, .inl 23, .inl 24, .inl 25, .inl 26, .inl 27, .inl 28, .inl 29, .inl 30, .inl 31, .inl 32, .inl 33, .inl 34, .inr 0, .inr 1, .inr 2, .inr 3, .inr 4] rfl (by decide)
  have hD : va_D (k_A (wAll cyI cyC cyO ob n0 n1 n2 n3 t0 t1 t2 t3 s0 aR ro r1 r2 r3 x0 x1 x2 x3 x4 n_ones n_twos n_settings n_tick n_energy n_valuesPut t_ones t_twos t_settings t_tick t_energy t_valuesPut s_ring s_oldest s_count x_signs x_length x_position x_complete x_orders x_kinds x_numbers x_values)) (wAll cyI cyC cyO ob n0 n1 n2 n3 t0 t1 t2 t3 s0 aR ro r1 r2 r3 x0 x1 x2 x3 x4 n_ones n_twos n_settings n_tick n_energy n_valuesPut t_ones t_twos t_settings t_tick t_energy t_valuesPut s_ring s_oldest s_count x_signs x_length c1 c2 c3 c4 c5 c6) := k_Dm hD rfl
  refine lv_aload_n hx hb dX4_firstError_7 rfl (lv_at hl 0 rfl) ?_
  refine va_get (D := (dC, dI)) (ci := 3) (v := .ref x0) (C := RX4) (T := TX4) (N := 4) hx hb hts iaX4 hown hK hP 0 rfl rfl 3 (by decide) (hts _ q155) (fun _ h9 => h9) rfl dX4_firstError_8 ?_
  refine va_get (D := (dC, dI)) (ci := 0) (v := .int c1) (C := RX1) (T := TX1) (N := 8) hx hb hts iaX1 hown hK hP 35 rfl rfl 2 (by decide) (hts _ q140) (fun _ h9 => h9) rfl dX4_firstError_11 ?_
  obtain ⟨e0, e1, e2, e3, e4, e5, e6⟩ := k_t7 h
  exact g_retMI hx hb hr hlk hS e0 (by rw [← e1, ← e2, ← e3, ← e4, ← e5, ← e6]; exact hP) dX4_firstError_14
def fX4_isRefused (n_ones : Nat → Int32) (n_twos : Nat → Int32) (n_settings : Nat → Int32) (n_tick : Int32) (p1 : Int32) (p2 : Int32) : Option (Int32) :=
  k_if (p1 = 0)
  (
    k_b1 (fX3_nextRow n_ones n_twos n_settings n_tick) fun (z1 : Int32) =>
    k_if (z1 = ((-1)))
    (
      some 1)
    (
      some 0))
  (
    k_if (p1 = 1)
    (
      k_b1 (fX3_isLocked n_ones n_twos n_tick p2) fun (z2 : Int32) =>
      k_bz z2 <| some z2)
    (
      k_if (p1 = 2)
      (
        some 0)
      (
        k_if (p1 = 3)
        (
          k_let (n_tick + p2) fun (z3 : Int32) =>
          k_if (z3 ≤ 9999)
          (
            some 0)
          (
            some 1))
        (
          k_b1 (fX3_isLocked n_ones n_twos n_tick p2) fun (z4 : Int32) =>
          k_bz z4 <| some z4))))
theorem hdX4_isRefused : yX4_isRefused.cls = RX4 ∧ yX4_isRefused.cls ≠ "java/lang/invoke/MethodHandle" ∧ yX4_isRefused.cls ≠ "java/lang/invoke/VarHandle" ∧ (parseMethodDescriptor yX4_isRefused.desc).map (fun d => d.parameters.length) = some 2 := by decide +kernel
set_option maxRecDepth 100000 in
set_option maxHeartbeats 4000000 in
theorem mX4_isRefused (l : Launch) (dC : Nat → ClassId) (dI : Nat → Nat → Nat) (cyI cyC cyO : ClassId) (ob : Nat) (n0 : Nat) (n1 : Nat) (n2 : Nat) (n3 : Nat) (t0 : Nat) (t1 : Nat) (t2 : Nat) (t3 : Nat) (s0 : Nat) (aR : Nat) (ro : Nat → Nat) (r1 : Nat → Nat) (r2 : Nat → Nat) (r3 : Nat → Nat) (x0 : Nat) (x1 : Nat) (x2 : Nat) (x3 : Nat) (x4 : Nat) (n_ones : Nat → Int32) (n_twos : Nat → Int32) (n_settings : Nat → Int32) (n_tick : Int32) (n_energy : Int32) (n_valuesPut : Int32) (t_ones : Nat → Int32) (t_twos : Nat → Int32) (t_settings : Nat → Int32) (t_tick : Int32) (t_energy : Int32) (t_valuesPut : Int32) (s_ring : Nat → SV) (s_oldest : Int32) (s_count : Int32) (x_signs : Nat → Int32) (x_length : Int32) (x_position : Int32) (x_complete : Int32) (x_orders : Int32) (x_kinds : Nat → Int32) (x_numbers : Nat → Int32) (x_values : Nat → Int32) (p1 : Int32) (p2 : Int32) {r : Int32} (hf : fX4_isRefused n_ones n_twos n_settings n_tick p1 p2 = some r) : MetRI l yX4_isRefused cX4_isRefused 3 (some .boolean) 4 90 [.ref ob, .int p1, .int p2] (dC, dI) (tyS cyI cyC cyO) (wAll cyI cyC cyO ob n0 n1 n2 n3 t0 t1 t2 t3 s0 aR ro r1 r2 r3 x0 x1 x2 x3 x4 n_ones n_twos n_settings n_tick n_energy n_valuesPut t_ones t_twos t_settings t_tick t_energy t_valuesPut s_ring s_oldest s_count x_signs x_length x_position x_complete x_orders x_kinds x_numbers x_values) r := by
  refine metRI_of (by decide) (Nat.le_of_ble_eq_true rfl) ?_
  intro p e s m below meth c ls hC hr hlk hP hK hl
  have hC : CallFix p m c cX4_isRefused 3 s [.ref ob, .int p1, .int p2].toArray wA RX4 := hC
  obtain ⟨hx, hb, hml, hown, hts⟩ := id hC
  have hS : va_S kF s.heap s.heap [] := va_S.rf
  have hl : lv_has ls 3 [(0, .ref ob), (1, .int p1), (2, .int p2)] := hl
  have h := hf
  unfold fX4_isRefused at h
  obtain ⟨H, hH⟩ : ∃ H, H = s.heap := ⟨_, rfl⟩
  obtain ⟨locs, hlo⟩ : ∃ locs : List Loc, locs = [] := ⟨_, rfl⟩
  rw [← hH] at hP
  rw [← hlo] at hS
  have hS : va_S kF s.heap H locs := by rw [hH]; exact hS
  show W p l e (k_rm 4 90) s m [.ref ob, .int p1, .int p2].toArray below meth c s.heap [] 0 0 _ _
  rw [← hlo, ← hH]
  refine lv_iload_n hx hb dX4_isRefused_0 rfl (lv_at hl 1 rfl) ?_
  refine g_arm (v := 0) (off := 31) (tgt := 32) hx hb dX4_isRefused_1 (by decide) (by decide) (by decide +kernel) (by decide) h (fun _ h => ?_) (fun nq0 h => ?_)
  · refine lv_aload_n hx hb dX4_isRefused_32 rfl (lv_at hl 0 rfl) ?_
    refine va_get (D := (dC, dI)) (ci := 3) (v := .ref n0) (C := RX4) (T := TX4) (N := 4) hx hb hts iaX4 hown hK hP 0 rfl rfl 0 (by decide) (hts _ q152) (fun _ h9 => h9) rfl dX4_isRefused_33 ?_
    obtain ⟨z1, hc36, h⟩ := k_b1_e h
    refine g_callRI_V (As := []) (rest := []) hC (mX3_nextRow l dC dI cyI cyC cyO n0 n1 n2 n3 n_ones n_twos n_settings n_tick n_energy n_valuesPut hc36) q328 q329 q330 q72 q331 0 hdX3_nextRow ⟨Nat.le_of_ble_eq_true rfl, Nat.le_of_ble_eq_true rfl⟩ ⟨Nat.le_of_ble_eq_true rfl, Nat.le_of_ble_eq_true rfl⟩ rfl rfl hl.1 (Nat.le_of_ble_eq_true rfl) (hP.sub (ws' := (wX3 cyI cyC n0 n1 n2 n3 n_ones n_twos n_settings n_tick n_energy n_valuesPut)) [1, 2, 3, 4] rfl) hK (va_recv hK hP (ci := 2) (q0 := 1) rfl rfl) hS dX4_isRefused_36 (fun H locs hk hS => ?_)
    have hP := k_kept hP hk
    refine lv_iconst (v := (-1)) hx hb dX4_isRefused_39 (by decide) ?_
    refine g_icmp_ne (tgt := 47) hx hb dX4_isRefused_40 (by decide) h (fun h => ?_) (fun h => ?_)
    · refine lv_iconst (v := 0) hx hb dX4_isRefused_47 (by decide) ?_
      exact g_retRZ hx hb hr (by decide +kernel) hlk hS h dX4_isRefused_48
    · refine lv_iconst (v := 1) hx hb dX4_isRefused_43 (by decide) ?_
      refine lv_goto (tgt := 48) hx hb dX4_isRefused_44 (by decide) ?_
      exact g_retRZ hx hb hr (by decide +kernel) hlk hS h dX4_isRefused_48
  · skip
    refine g_arm (v := 1) (off := 71) (tgt := 72) hx hb dX4_isRefused_1 (by decide) (by decide) (by decide +kernel) (by decide) h (fun _ h => ?_) (fun nq1 h => ?_)
    · refine lv_aload_n hx hb dX4_isRefused_72 rfl (lv_at hl 0 rfl) ?_
      refine va_get (D := (dC, dI)) (ci := 3) (v := .ref n0) (C := RX4) (T := TX4) (N := 4) hx hb hts iaX4 hown hK hP 0 rfl rfl 0 (by decide) (hts _ q152) (fun _ h9 => h9) rfl dX4_isRefused_73 ?_
      refine lv_iload_n hx hb dX4_isRefused_76 rfl (lv_at hl 2 rfl) ?_
      obtain ⟨z2, hc77, h⟩ := k_b1_e h
      refine g_callRI_V (As := [.int p2]) (rest := []) hC (mX3_isLocked l dC dI cyI cyC cyO n0 n1 n2 n3 n_ones n_twos n_settings n_tick n_energy n_valuesPut p2 hc77) q263 q264 q265 q72 q266 1 hdX3_isLocked ⟨Nat.le_of_ble_eq_true rfl, Nat.le_of_ble_eq_true rfl⟩ ⟨Nat.le_of_ble_eq_true rfl, Nat.le_of_ble_eq_true rfl⟩ rfl rfl hl.1 (Nat.le_of_ble_eq_true rfl) (hP.sub (ws' := (wX3 cyI cyC n0 n1 n2 n3 n_ones n_twos n_settings n_tick n_energy n_valuesPut)) [1, 2, 3, 4] rfl) hK (va_recv hK hP (ci := 2) (q0 := 1) rfl rfl) hS dX4_isRefused_77 (fun H locs hk hS => ?_)
      have hP := k_kept hP hk
      obtain ⟨hz, h⟩ := k_bz_e h
      exact g_retRZ hx hb hr (k_bool hz).1 hlk hS h dX4_isRefused_80
    · skip
      refine g_arm (v := 2) (off := 48) (tgt := 49) hx hb dX4_isRefused_1 (by decide) (by decide) (by decide +kernel) (by decide) h (fun _ h => ?_) (fun nq2 h => ?_)
      · refine lv_iconst (v := 0) hx hb dX4_isRefused_49 (by decide) ?_
        exact g_retRZ hx hb hr (by decide +kernel) hlk hS h dX4_isRefused_50
      · skip
        refine g_arm (v := 3) (off := 50) (tgt := 51) hx hb dX4_isRefused_1 (by decide) (by decide) (by decide +kernel) (by decide) h (fun _ h => ?_) (fun nq3 h => ?_)
        · refine lv_aload_n hx hb dX4_isRefused_51 rfl (lv_at hl 0 rfl) ?_
          refine va_get (D := (dC, dI)) (ci := 3) (v := .ref n0) (C := RX4) (T := TX4) (N := 4) hx hb hts iaX4 hown hK hP 0 rfl rfl 0 (by decide) (hts _ q152) (fun _ h9 => h9) rfl dX4_isRefused_52 ?_
          refine va_get (D := (dC, dI)) (ci := 2) (v := .int n_tick) (C := RX3) (T := TX3) (N := 6) hx hb hts iaX3 hown hK hP 1 rfl rfl 3 (by decide) (hts _ q111) (fun _ h9 => h9) rfl dX4_isRefused_55 ?_
          refine lv_iload_n hx hb dX4_isRefused_58 rfl (lv_at hl 2 rfl) ?_
          refine g_iadd hx hb dX4_isRefused_59 h (fun z3 h => ?_)
          refine lv_sipush (v := 9999) hx hb dX4_isRefused_60 (by decide) ?_
          refine g_icmp_le (tgt := 70) hx hb dX4_isRefused_63 (by decide) h (fun h => ?_) (fun h => ?_)
          · refine lv_iconst (v := 0) hx hb dX4_isRefused_70 (by decide) ?_
            exact g_retRZ hx hb hr (by decide +kernel) hlk hS h dX4_isRefused_71
          · refine lv_iconst (v := 1) hx hb dX4_isRefused_66 (by decide) ?_
            refine lv_goto (tgt := 71) hx hb dX4_isRefused_67 (by decide) ?_
            exact g_retRZ hx hb hr (by decide +kernel) hlk hS h dX4_isRefused_71
        · skip
          refine lv_tableOut (tgt := 72) hx hb dX4_isRefused_1 (by have zq0 := g_ne (z := 0) (by decide) nq0; have zq1 := g_ne (z := 1) (by decide) nq1; have zq2 := g_ne (z := 2) (by decide) nq2; have zq3 := g_ne (z := 3) (by decide) nq3; omega) (by decide) ?_
          refine lv_aload_n hx hb dX4_isRefused_72 rfl (lv_at hl 0 rfl) ?_
          refine va_get (D := (dC, dI)) (ci := 3) (v := .ref n0) (C := RX4) (T := TX4) (N := 4) hx hb hts iaX4 hown hK hP 0 rfl rfl 0 (by decide) (hts _ q152) (fun _ h9 => h9) rfl dX4_isRefused_73 ?_
          refine lv_iload_n hx hb dX4_isRefused_76 rfl (lv_at hl 2 rfl) ?_
          obtain ⟨z4, hc77, h⟩ := k_b1_e h
          refine g_callRI_V (As := [.int p2]) (rest := []) hC (mX3_isLocked l dC dI cyI cyC cyO n0 n1 n2 n3 n_ones n_twos n_settings n_tick n_energy n_valuesPut p2 hc77) q263 q264 q265 q72 q266 1 hdX3_isLocked ⟨Nat.le_of_ble_eq_true rfl, Nat.le_of_ble_eq_true rfl⟩ ⟨Nat.le_of_ble_eq_true rfl, Nat.le_of_ble_eq_true rfl⟩ rfl rfl hl.1 (Nat.le_of_ble_eq_true rfl) (hP.sub (ws' := (wX3 cyI cyC n0 n1 n2 n3 n_ones n_twos n_settings n_tick n_energy n_valuesPut)) [1, 2, 3, 4] rfl) hK (va_recv hK hP (ci := 2) (q0 := 1) rfl rfl) hS dX4_isRefused_77 (fun H locs hk hS => ?_)
          have hP := k_kept hP hk
          obtain ⟨hz, h⟩ := k_bz_e h
          exact g_retRZ hx hb hr (k_bool hz).1 hlk hS h dX4_isRefused_80
def fX4_carryOut (n_ones : Nat → Int32) (n_twos : Nat → Int32) (n_settings : Nat → Int32) (n_tick : Int32) (n_energy : Int32) (n_valuesPut : Int32) (x_orders : Int32) (x_kinds : Nat → Int32) (x_numbers : Nat → Int32) (x_values : Nat → Int32) (p1 : Int32) : Option (Int32 × (Nat → Int32) × (Nat → Int32) × Int32 × Int32 × Int32) :=
  k_b1 (fX4_isIndex p1 x_orders) fun (z1 : Int32) =>
  k_if (z1 = 0)
  (
    some (0, n_ones, n_twos, n_tick, n_energy, n_valuesPut))
  (
    k_ck p1 10 <| k_let (x_kinds p1.toNatClampNeg) fun (z2 : Int32) =>
    k_ck p1 10 <| k_let (x_numbers p1.toNatClampNeg) fun (z3 : Int32) =>
    k_b1 (fX4_isRefused n_ones n_twos n_settings n_tick z2 z3) fun (z4 : Int32) =>
    k_if (z4 = 0)
    (
      k_ck p1 10 <| k_let (x_numbers p1.toNatClampNeg) fun (z5 : Int32) =>
      k_ck p1 10 <| k_let (x_kinds p1.toNatClampNeg) fun (z6 : Int32) =>
      k_if (z6 = 0)
      (
        k_ck p1 10 <| k_let (x_values p1.toNatClampNeg) fun (z7 : Int32) =>
        k_b5 (fX3_putNext n_ones n_twos n_settings n_tick n_energy n_valuesPut z5 z7) fun (z8 : Int32) (c9 : Nat → Int32) (c10 : Nat → Int32) (c11 : Int32) (c12 : Int32) =>
        some (1, c9, c10, n_tick, c11, c12))
      (
        k_if (z6 = 1)
        (
          k_b3 (fX3_blowFuse n_ones n_twos n_energy z5 15 3) fun (c13 : Nat → Int32) (c14 : Nat → Int32) (c15 : Int32) =>
          some (1, c13, c14, n_tick, c15, n_valuesPut))
        (
          k_if (z6 = 2)
          (
            k_b3 (fX3_heatRows n_ones n_twos z5) fun (z16 : Int32) (c17 : Nat → Int32) (c18 : Nat → Int32) =>
            some (1, c17, c18, n_tick, n_energy, n_valuesPut))
          (
            k_if (z6 = 3)
            (
              k_let (n_tick + z5) fun (z19 : Int32) =>
              some (1, n_ones, n_twos, z19, n_energy, n_valuesPut))
            (
              k_b4 (fX3_refreshRow n_ones n_twos n_tick n_energy z5) fun (z20 : Int32) (c21 : Nat → Int32) (c22 : Nat → Int32) (c23 : Int32) =>
              some (1, c21, c22, n_tick, c23, n_valuesPut))))))
    (
      some (0, n_ones, n_twos, n_tick, n_energy, n_valuesPut)))
theorem hdX4_carryOut : yX4_carryOut.cls = RX4 ∧ yX4_carryOut.cls ≠ "java/lang/invoke/MethodHandle" ∧ yX4_carryOut.cls ≠ "java/lang/invoke/VarHandle" ∧ (parseMethodDescriptor yX4_carryOut.desc).map (fun d => d.parameters.length) = some 1 := by decide +kernel
set_option maxRecDepth 100000 in
set_option maxHeartbeats 4000000 in
theorem mX4_carryOut (l : Launch) (dC : Nat → ClassId) (dI : Nat → Nat → Nat) (cyI cyC cyO : ClassId) (ob : Nat) (n0 : Nat) (n1 : Nat) (n2 : Nat) (n3 : Nat) (t0 : Nat) (t1 : Nat) (t2 : Nat) (t3 : Nat) (s0 : Nat) (aR : Nat) (ro : Nat → Nat) (r1 : Nat → Nat) (r2 : Nat → Nat) (r3 : Nat → Nat) (x0 : Nat) (x1 : Nat) (x2 : Nat) (x3 : Nat) (x4 : Nat) (n_ones : Nat → Int32) (n_twos : Nat → Int32) (n_settings : Nat → Int32) (n_tick : Int32) (n_energy : Int32) (n_valuesPut : Int32) (t_ones : Nat → Int32) (t_twos : Nat → Int32) (t_settings : Nat → Int32) (t_tick : Int32) (t_energy : Int32) (t_valuesPut : Int32) (s_ring : Nat → SV) (s_oldest : Int32) (s_count : Int32) (x_signs : Nat → Int32) (x_length : Int32) (x_position : Int32) (x_complete : Int32) (x_orders : Int32) (x_kinds : Nat → Int32) (x_numbers : Nat → Int32) (x_values : Nat → Int32) (p1 : Int32) {r : Int32} {r_n_ones : Nat → Int32} {r_n_twos : Nat → Int32} {r_n_tick : Int32} {r_n_energy : Int32} {r_n_valuesPut : Int32} (hf : fX4_carryOut n_ones n_twos n_settings n_tick n_energy n_valuesPut x_orders x_kinds x_numbers x_values p1 = some (r, r_n_ones, r_n_twos, r_n_tick, r_n_energy, r_n_valuesPut)) : MetMI l yX4_carryOut cX4_carryOut 3 (some .boolean) 5 121 [.ref ob, .int p1] (dC, dI) (tyS cyI cyC cyO) (wAll cyI cyC cyO ob n0 n1 n2 n3 t0 t1 t2 t3 s0 aR ro r1 r2 r3 x0 x1 x2 x3 x4 n_ones n_twos n_settings n_tick n_energy n_valuesPut t_ones t_twos t_settings t_tick t_energy t_valuesPut s_ring s_oldest s_count x_signs x_length x_position x_complete x_orders x_kinds x_numbers x_values) (wAll cyI cyC cyO ob n0 n1 n2 n3 t0 t1 t2 t3 s0 aR ro r1 r2 r3 x0 x1 x2 x3 x4 r_n_ones r_n_twos n_settings r_n_tick r_n_energy r_n_valuesPut t_ones t_twos t_settings t_tick t_energy t_valuesPut s_ring s_oldest s_count x_signs x_length x_position x_complete x_orders x_kinds x_numbers x_values) r := by
  refine metMI_of (by decide) (Nat.le_of_ble_eq_true rfl) ?_
  intro p e s m below meth c ls hC hr hlk hP hK hD hl
  have hC : CallFix p m c cX4_carryOut 3 s [.ref ob, .int p1].toArray wA RX4 := hC
  obtain ⟨hx, hb, hml, hown, hts⟩ := id hC
  have hS : va_S (k_A (wAll cyI cyC cyO ob n0 n1 n2 n3 t0 t1 t2 t3 s0 aR ro r1 r2 r3 x0 x1 x2 x3 x4 n_ones n_twos n_settings n_tick n_energy n_valuesPut t_ones t_twos t_settings t_tick t_energy t_valuesPut s_ring s_oldest s_count x_signs x_length x_position x_complete x_orders x_kinds x_numbers x_values)) s.heap s.heap [] := va_S.rf
  have hl : lv_has ls 3 [(0, .ref ob), (1, .int p1)] := hl
  have h := hf
  unfold fX4_carryOut at h
  obtain ⟨H, hH⟩ : ∃ H, H = s.heap := ⟨_, rfl⟩
  obtain ⟨locs, hlo⟩ : ∃ locs : List Loc, locs = [] := ⟨_, rfl⟩
  rw [← hH] at hP
  rw [← hlo] at hS
  have hS : va_S (k_A (wAll cyI cyC cyO ob n0 n1 n2 n3 t0 t1 t2 t3 s0 aR ro r1 r2 r3 x0 x1 x2 x3 x4 n_ones n_twos n_settings n_tick n_energy n_valuesPut t_ones t_twos t_settings t_tick t_energy t_valuesPut s_ring s_oldest s_count x_signs x_length x_position x_complete x_orders x_kinds x_numbers x_values)) s.heap H locs := by rw [hH]; exact hS
  show W p l e (k_rm 5 121) s m [.ref ob, .int p1].toArray below meth c s.heap [] 0 0 _ _
  rw [← hlo, ← hH]
  refine lv_iload_n hx hb dX4_carryOut_0 rfl (lv_at hl 1 rfl) ?_
  refine lv_aload_n hx hb dX4_carryOut_1 rfl (lv_at hl 0 rfl) ?_
  refine va_get (D := (dC, dI)) (ci := 3) (v := .ref x0) (C := RX4) (T := TX4) (N := 4) hx hb hts iaX4 hown hK hP 0 rfl rfl 3 (by decide) (hts _ q155) (fun _ h9 => h9) rfl dX4_carryOut_2 ?_
  refine va_get (D := (dC, dI)) (ci := 0) (v := .int x_orders) (C := RX1) (T := TX1) (N := 8) hx hb hts iaX1 hown hK hP 35 rfl rfl 4 (by decide) (hts _ q144) (fun _ h9 => h9) rfl dX4_carryOut_5 ?_
  obtain ⟨z1, hc8, h⟩ := k_b1_e h
  refine g_callRI_S (As := [.int p1, .int x_orders]) (rest := []) hC (mX4_isIndex l dC dI cyI cyC cyO p1 x_orders hc8) q469 q470 q71 q471 2 hdX4_isIndex ⟨Nat.le_of_ble_eq_true rfl, Nat.le_of_ble_eq_true rfl⟩ ⟨Nat.le_of_ble_eq_true rfl, Nat.le_of_ble_eq_true rfl⟩ rfl rfl hl.1 (Nat.le_of_ble_eq_true rfl) va_P_nil hK hS dX4_carryOut_8 (fun H locs hk hS => ?_)
  have hP := k_kept hP hk
  refine g_if_eq (tgt := 39) hx hb dX4_carryOut_11 (by decide) h (fun h => ?_) (fun h => ?_)
  · refine lv_iconst (v := 0) hx hb dX4_carryOut_39 (by decide) ?_
    obtain ⟨e0, e1, e2, e3, e4, e5⟩ := k_t6 h
    exact g_retMZ hx hb hr (by decide +kernel) hlk hS e0 (by rw [← e1, ← e2, ← e3, ← e4, ← e5]; exact hP) dX4_carryOut_40
  · refine lv_aload_n hx hb dX4_carryOut_14 rfl (lv_at hl 0 rfl) ?_
    refine lv_aload_n hx hb dX4_carryOut_15 rfl (lv_at hl 0 rfl) ?_
    refine va_get (D := (dC, dI)) (ci := 3) (v := .ref x0) (C := RX4) (T := TX4) (N := 4) hx hb hts iaX4 hown hK hP 0 rfl rfl 3 (by decide) (hts _ q155) (fun _ h9 => h9) rfl dX4_carryOut_16 ?_
    refine va_get (D := (dC, dI)) (ci := 0) (v := .ref x2) (C := RX1) (T := TX1) (N := 8) hx hb hts iaX1 hown hK hP 35 rfl rfl 5 (by decide) (hts _ q146) (fun _ h9 => h9) rfl dX4_carryOut_19 ?_
    refine lv_iload_n hx hb dX4_carryOut_22 rfl (lv_at hl 1 rfl) ?_
    refine g_iald hx hb hK hP 37 0 rfl rfl dX4_carryOut_23 h (fun z2 h => ?_)
    refine lv_aload_n hx hb dX4_carryOut_24 rfl (lv_at hl 0 rfl) ?_
    refine va_get (D := (dC, dI)) (ci := 3) (v := .ref x0) (C := RX4) (T := TX4) (N := 4) hx hb hts iaX4 hown hK hP 0 rfl rfl 3 (by decide) (hts _ q155) (fun _ h9 => h9) rfl dX4_carryOut_25 ?_
    refine va_get (D := (dC, dI)) (ci := 0) (v := .ref x3) (C := RX1) (T := TX1) (N := 8) hx hb hts iaX1 hown hK hP 35 rfl rfl 6 (by decide) (hts _ q148) (fun _ h9 => h9) rfl dX4_carryOut_28 ?_
    refine lv_iload_n hx hb dX4_carryOut_31 rfl (lv_at hl 1 rfl) ?_
    refine g_iald hx hb hK hP 38 0 rfl rfl dX4_carryOut_32 h (fun z3 h => ?_)
    obtain ⟨z4, hc33, h⟩ := k_b1_e h
    refine g_callRI_V (As := [.int z2, .int z3]) (rest := []) hC (mX4_isRefused l dC dI cyI cyC cyO ob n0 n1 n2 n3 t0 t1 t2 t3 s0 aR ro r1 r2 r3 x0 x1 x2 x3 x4 n_ones n_twos n_settings n_tick n_energy n_valuesPut t_ones t_twos t_settings t_tick t_energy t_valuesPut s_ring s_oldest s_count x_signs x_length x_position x_complete x_orders x_kinds x_numbers x_values z2 z3 hc33) q632 q633 q13 q71 q634 2 hdX4_isRefused ⟨Nat.le_of_ble_eq_true rfl, Nat.le_of_ble_eq_true rfl⟩ ⟨Nat.le_of_ble_eq_true rfl, Nat.le_of_ble_eq_true rfl⟩ rfl rfl hl.1 (Nat.le_of_ble_eq_true rfl) hP hK (va_recv hK hP (ci := 3) (q0 := 0) rfl rfl) hS dX4_carryOut_33 (fun H locs hk hS => ?_)
    have hP := k_kept hP hk
    refine g_if_eq (tgt := 41) hx hb dX4_carryOut_36 (by decide) h (fun h => ?_) (fun h => ?_)
    · refine lv_aload_n hx hb dX4_carryOut_41 rfl (lv_at hl 0 rfl) ?_
      refine va_get (D := (dC, dI)) (ci := 3) (v := .ref x0) (C := RX4) (T := TX4) (N := 4) hx hb hts iaX4 hown hK hP 0 rfl rfl 3 (by decide) (hts _ q155) (fun _ h9 => h9) rfl dX4_carryOut_42 ?_
      refine va_get (D := (dC, dI)) (ci := 0) (v := .ref x3) (C := RX1) (T := TX1) (N := 8) hx hb hts iaX1 hown hK hP 35 rfl rfl 6 (by decide) (hts _ q148) (fun _ h9 => h9) rfl dX4_carryOut_45 ?_
      refine lv_iload_n hx hb dX4_carryOut_48 rfl (lv_at hl 1 rfl) ?_
      refine g_iald hx hb hK hP 38 0 rfl rfl dX4_carryOut_49 h (fun z5 h => ?_)
      refine lv_istore_n (lv' := [(2, .int z5), (0, .ref ob), (1, .int p1)]) hx hb dX4_carryOut_50 rfl hl (by decide) rfl (fun ls hl => ?_)
      refine lv_aload_n hx hb dX4_carryOut_51 rfl (lv_at hl 1 rfl) ?_
      refine va_get (D := (dC, dI)) (ci := 3) (v := .ref x0) (C := RX4) (T := TX4) (N := 4) hx hb hts iaX4 hown hK hP 0 rfl rfl 3 (by decide) (hts _ q155) (fun _ h9 => h9) rfl dX4_carryOut_52 ?_
      refine va_get (D := (dC, dI)) (ci := 0) (v := .ref x2) (C := RX1) (T := TX1) (N := 8) hx hb hts iaX1 hown hK hP 35 rfl rfl 5 (by decide) (hts _ q146) (fun _ h9 => h9) rfl dX4_carryOut_55 ?_
      refine lv_iload_n hx hb dX4_carryOut_58 rfl (lv_at hl 2 rfl) ?_
      refine g_iald hx hb hK hP 37 0 rfl rfl dX4_carryOut_59 h (fun z6 h => ?_)
      refine g_arm (v := 0) (off := 32) (tgt := 92) hx hb dX4_carryOut_60 (by decide) (by decide) (by decide +kernel) (by decide) h (fun _ h => ?_) (fun nq0 h => ?_)
      · refine lv_aload_n hx hb dX4_carryOut_92 rfl (lv_at hl 1 rfl) ?_
        refine va_get (D := (dC, dI)) (ci := 3) (v := .ref n0) (C := RX4) (T := TX4) (N := 4) hx hb hts iaX4 hown hK hP 0 rfl rfl 0 (by decide) (hts _ q152) (fun _ h9 => h9) rfl dX4_carryOut_93 ?_
        refine lv_iload_n hx hb dX4_carryOut_96 rfl (lv_at hl 0 rfl) ?_
        refine lv_aload_n hx hb dX4_carryOut_97 rfl (lv_at hl 1 rfl) ?_
        refine va_get (D := (dC, dI)) (ci := 3) (v := .ref x0) (C := RX4) (T := TX4) (N := 4) hx hb hts iaX4 hown hK hP 0 rfl rfl 3 (by decide) (hts _ q155) (fun _ h9 => h9) rfl dX4_carryOut_98 ?_
        refine va_get (D := (dC, dI)) (ci := 0) (v := .ref x4) (C := RX1) (T := TX1) (N := 8) hx hb hts iaX1 hown hK hP 35 rfl rfl 7 (by decide) (hts _ q150) (fun _ h9 => h9) rfl dX4_carryOut_101 ?_
        refine lv_iload_n hx hb dX4_carryOut_104 rfl (lv_at hl 2 rfl) ?_
        refine g_iald hx hb hK hP 39 0 rfl rfl dX4_carryOut_105 h (fun z7 h => ?_)
        obtain ⟨z8, c9, c10, c11, c12, hc106, h⟩ := k_b5_e h
        refine g_callMI_V (As := [.int z5, .int z7]) (rest := []) hC (mX3_putNext l dC dI cyI cyC cyO n0 n1 n2 n3 n_ones n_twos n_settings n_tick n_energy n_valuesPut z5 z7 hc106) q548 q549 q550 q72 q551 2 hdX3_putNext ⟨Nat.le_of_ble_eq_true rfl, Nat.le_of_ble_eq_true rfl⟩ ⟨Nat.le_of_ble_eq_true rfl, Nat.le_of_ble_eq_true rfl⟩ rfl rfl hl.1 (Nat.le_of_ble_eq_true rfl) (hP.sub (ws' := (wX3 cyI cyC n0 n1 n2 n3 n_ones n_twos n_settings n_tick n_energy n_valuesPut)) [1, 2, 3, 4] rfl) hK (hD.sub (ws' := (wX3 cyI cyC n0 n1 n2 n3 n_ones n_twos n_settings n_tick n_energy n_valuesPut)) [1, 2, 3, 4] (by decide) rfl) (va_recv hK hP (ci := 2) (q0 := 1) rfl rfl) hS dX4_carryOut_106 (fun H locs hPn hk hS => ?_)
        have hP : va_P (dC, dI) vwCl (wAll cyI cyC cyO ob n0 n1 n2 n3 t0 t1 t2 t3 s0 aR ro r1 r2 r3 x0 x1 x2 x3 x4 c9 c10 n_settings n_tick c11 c12 t_ones t_twos t_settings t_tick t_energy t_valuesPut s_ring s_oldest s_count x_signs x_length x_position x_complete x_orders x_kinds x_numbers x_values) H := k_repl hP hD [1, 2, 3, 4] rfl hk hPn [.inl 0, .inr 0, .inr 1, .inr 2, .inr 3, .inl 5, .inl 6, .inl 7, .inl 8, .inl 9, .inl 10, .inl 11, .inl 12, .inl 13, .inl 14, .inl 15, .inl 16, .inl 17, .inl 18, .inl 19, .inl 20, .inl 21, .inl 22, .inl 23, .inl 24, .inl 25, .inl 26, .inl 27, .inl 28, .inl 29, .inl 30, .inl 31, .inl 32, .inl 33, .inl 34, .inl 35, .inl 36, .inl 37, .inl 38, .inl 39] rfl (by decide)
        have hD : va_D (k_A (wAll cyI cyC cyO ob n0 n1 n2 n3 t0 t1 t2 t3 s0 aR ro r1 r2 r3 x0 x1 x2 x3 x4 n_ones n_twos n_settings n_tick n_energy n_valuesPut t_ones t_twos t_settings t_tick t_energy t_valuesPut s_ring s_oldest s_count x_signs x_length x_position x_complete x_orders x_kinds x_numbers x_values)) (wAll cyI cyC cyO ob n0 n1 n2 n3 t0 t1 t2 t3 s0 aR ro r1 r2 r3 x0 x1 x2 x3 x4 c9 c10 n_settings n_tick c11 c12 t_ones t_twos t_settings t_tick t_energy t_valuesPut s_ring s_oldest s_count x_signs x_length x_position x_complete x_orders x_kinds x_numbers x_values) := k_Dm hD rfl
        refine lv_pop hx hb dX4_carryOut_109 rfl ?_
        refine lv_goto (tgt := 164) hx hb dX4_carryOut_110 (by decide) ?_
        refine lv_iconst (v := 1) hx hb dX4_carryOut_164 (by decide) ?_
        obtain ⟨e0, e1, e2, e3, e4, e5⟩ := k_t6 h
        exact g_retMZ hx hb hr (by decide +kernel) hlk hS e0 (by rw [← e1, ← e2, ← e3, ← e4, ← e5]; exact hP) dX4_carryOut_165
      · skip
        refine g_arm (v := 1) (off := 53) (tgt := 113) hx hb dX4_carryOut_60 (by decide) (by decide) (by decide +kernel) (by decide) h (fun _ h => ?_) (fun nq1 h => ?_)
        · refine lv_aload_n hx hb dX4_carryOut_113 rfl (lv_at hl 1 rfl) ?_
          refine va_get (D := (dC, dI)) (ci := 3) (v := .ref n0) (C := RX4) (T := TX4) (N := 4) hx hb hts iaX4 hown hK hP 0 rfl rfl 0 (by decide) (hts _ q152) (fun _ h9 => h9) rfl dX4_carryOut_114 ?_
          refine lv_iload_n hx hb dX4_carryOut_117 rfl (lv_at hl 0 rfl) ?_
          refine lv_bipush (v := 15) hx hb dX4_carryOut_118 (by decide) ?_
          refine lv_iconst (v := 3) hx hb dX4_carryOut_120 (by decide) ?_
          obtain ⟨c13, c14, c15, hc121, h⟩ := k_b3_e h
          refine g_callMV_V (As := [.int z5, .int 15, .int 3]) (rest := []) hC (mX3_blowFuse l dC dI cyI cyC cyO n0 n1 n2 n3 n_ones n_twos n_settings n_tick n_energy n_valuesPut z5 15 3 hc121) q540 q420 q421 q72 q422 3 hdX3_blowFuse ⟨Nat.le_of_ble_eq_true rfl, Nat.le_of_ble_eq_true rfl⟩ ⟨Nat.le_of_ble_eq_true rfl, Nat.le_of_ble_eq_true rfl⟩ rfl rfl hl.1 (Nat.le_of_ble_eq_true rfl) (hP.sub (ws' := (wX3 cyI cyC n0 n1 n2 n3 n_ones n_twos n_settings n_tick n_energy n_valuesPut)) [1, 2, 3, 4] rfl) hK (hD.sub (ws' := (wX3 cyI cyC n0 n1 n2 n3 n_ones n_twos n_settings n_tick n_energy n_valuesPut)) [1, 2, 3, 4] (by decide) rfl) (va_recv hK hP (ci := 2) (q0 := 1) rfl rfl) hS dX4_carryOut_121 (fun H locs hPn hk hS => ?_)
          have hP : va_P (dC, dI) vwCl (wAll cyI cyC cyO ob n0 n1 n2 n3 t0 t1 t2 t3 s0 aR ro r1 r2 r3 x0 x1 x2 x3 x4 c13 c14 n_settings n_tick c15 n_valuesPut t_ones t_twos t_settings t_tick t_energy t_valuesPut s_ring s_oldest s_count x_signs x_length x_position x_complete x_orders x_kinds x_numbers x_values) H := k_repl hP hD [1, 2, 3, 4] rfl hk hPn [.inl 0, .inr 0, .inr 1, .inr 2, .inr 3, .inl 5, .inl 6, .inl 7, .inl 8, .inl 9, .inl 10, .inl 11, .inl 12, .inl 13, .inl 14, .inl 15, .inl 16, .inl 17, .inl 18, .inl 19, .inl 20, .inl 21, .inl 22, .inl 23, .inl 24, .inl 25, .inl 26, .inl 27, .inl 28, .inl 29, .inl 30, .inl 31, .inl 32, .inl 33, .inl 34, .inl 35, .inl 36, .inl 37, .inl 38, .inl 39] rfl (by decide)
          have hD : va_D (k_A (wAll cyI cyC cyO ob n0 n1 n2 n3 t0 t1 t2 t3 s0 aR ro r1 r2 r3 x0 x1 x2 x3 x4 n_ones n_twos n_settings n_tick n_energy n_valuesPut t_ones t_twos t_settings t_tick t_energy t_valuesPut s_ring s_oldest s_count x_signs x_length x_position x_complete x_orders x_kinds x_numbers x_values)) (wAll cyI cyC cyO ob n0 n1 n2 n3 t0 t1 t2 t3 s0 aR ro r1 r2 r3 x0 x1 x2 x3 x4 c13 c14 n_settings n_tick c15 n_valuesPut t_ones t_twos t_settings t_tick t_energy t_valuesPut s_ring s_oldest s_count x_signs x_length x_position x_complete x_orders x_kinds x_numbers x_values) := k_Dm hD rfl
          refine lv_goto (tgt := 164) hx hb dX4_carryOut_124 (by decide) ?_
          refine lv_iconst (v := 1) hx hb dX4_carryOut_164 (by decide) ?_
          obtain ⟨e0, e1, e2, e3, e4, e5⟩ := k_t6 h
          exact g_retMZ hx hb hr (by decide +kernel) hlk hS e0 (by rw [← e1, ← e2, ← e3, ← e4, ← e5]; exact hP) dX4_carryOut_165
        · skip
          refine g_arm (v := 2) (off := 67) (tgt := 127) hx hb dX4_carryOut_60 (by decide) (by decide) (by decide +kernel) (by decide) h (fun _ h => ?_) (fun nq2 h => ?_)
          · refine lv_aload_n hx hb dX4_carryOut_127 rfl (lv_at hl 1 rfl) ?_
            refine va_get (D := (dC, dI)) (ci := 3) (v := .ref n0) (C := RX4) (T := TX4) (N := 4) hx hb hts iaX4 hown hK hP 0 rfl rfl 0 (by decide) (hts _ q152) (fun _ h9 => h9) rfl dX4_carryOut_128 ?_
            refine lv_iload_n hx hb dX4_carryOut_131 rfl (lv_at hl 0 rfl) ?_
            obtain ⟨z16, c17, c18, hc132, h⟩ := k_b3_e h
            refine g_callMI_V (As := [.int z5]) (rest := []) hC (mX3_heatRows l dC dI cyI cyC cyO n0 n1 n2 n3 n_ones n_twos n_settings n_tick n_energy n_valuesPut z5 hc132) q443 q444 q445 q72 q446 1 hdX3_heatRows ⟨Nat.le_of_ble_eq_true rfl, Nat.le_of_ble_eq_true rfl⟩ ⟨Nat.le_of_ble_eq_true rfl, Nat.le_of_ble_eq_true rfl⟩ rfl rfl hl.1 (Nat.le_of_ble_eq_true rfl) (hP.sub (ws' := (wX3 cyI cyC n0 n1 n2 n3 n_ones n_twos n_settings n_tick n_energy n_valuesPut)) [1, 2, 3, 4] rfl) hK (hD.sub (ws' := (wX3 cyI cyC n0 n1 n2 n3 n_ones n_twos n_settings n_tick n_energy n_valuesPut)) [1, 2, 3, 4] (by decide) rfl) (va_recv hK hP (ci := 2) (q0 := 1) rfl rfl) hS dX4_carryOut_132 (fun H locs hPn hk hS => ?_)
            have hP : va_P (dC, dI) vwCl (wAll cyI cyC cyO ob n0 n1 n2 n3 t0 t1 t2 t3 s0 aR ro r1 r2 r3 x0 x1 x2 x3 x4 c17 c18 n_settings n_tick n_energy n_valuesPut t_ones t_twos t_settings t_tick t_energy t_valuesPut s_ring s_oldest s_count x_signs x_length x_position x_complete x_orders x_kinds x_numbers x_values) H := k_repl hP hD [1, 2, 3, 4] rfl hk hPn [.inl 0, .inr 0, .inr 1, .inr 2, .inr 3, .inl 5, .inl 6, .inl 7, .inl 8, .inl 9, .inl 10, .inl 11, .inl 12, .inl 13, .inl 14, .inl 15, .inl 16, .inl 17, .inl 18, .inl 19, .inl 20, .inl 21, .inl 22, .inl 23, .inl 24, .inl 25, .inl 26, .inl 27, .inl 28, .inl 29, .inl 30, .inl 31, .inl 32, .inl 33, .inl 34, .inl 35, .inl 36, .inl 37, .inl 38, .inl 39] rfl (by decide)
            have hD : va_D (k_A (wAll cyI cyC cyO ob n0 n1 n2 n3 t0 t1 t2 t3 s0 aR ro r1 r2 r3 x0 x1 x2 x3 x4 n_ones n_twos n_settings n_tick n_energy n_valuesPut t_ones t_twos t_settings t_tick t_energy t_valuesPut s_ring s_oldest s_count x_signs x_length x_position x_complete x_orders x_kinds x_numbers x_values)) (wAll cyI cyC cyO ob n0 n1 n2 n3 t0 t1 t2 t3 s0 aR ro r1 r2 r3 x0 x1 x2 x3 x4 c17 c18 n_settings n_tick n_energy n_valuesPut t_ones t_twos t_settings t_tick t_energy t_valuesPut s_ring s_oldest s_count x_signs x_length x_position x_complete x_orders x_kinds x_numbers x_values) := k_Dm hD rfl
            refine lv_pop hx hb dX4_carryOut_135 rfl ?_
            refine lv_goto (tgt := 164) hx hb dX4_carryOut_136 (by decide) ?_
            refine lv_iconst (v := 1) hx hb dX4_carryOut_164 (by decide) ?_
            obtain ⟨e0, e1, e2, e3, e4, e5⟩ := k_t6 h
            exact g_retMZ hx hb hr (by decide +kernel) hlk hS e0 (by rw [← e1, ← e2, ← e3, ← e4, ← e5]; exact hP) dX4_carryOut_165
          · skip
            refine g_arm (v := 3) (off := 79) (tgt := 139) hx hb dX4_carryOut_60 (by decide) (by decide) (by decide +kernel) (by decide) h (fun _ h => ?_) (fun nq3 h => ?_)
            · refine lv_aload_n hx hb dX4_carryOut_139 rfl (lv_at hl 1 rfl) ?_
              refine va_get (D := (dC, dI)) (ci := 3) (v := .ref n0) (C := RX4) (T := TX4) (N := 4) hx hb hts iaX4 hown hK hP 0 rfl rfl 0 (by decide) (hts _ q152) (fun _ h9 => h9) rfl dX4_carryOut_140 ?_
              refine lv_dup hx hb dX4_carryOut_143 rfl ?_
              refine va_get (D := (dC, dI)) (ci := 2) (v := .int n_tick) (C := RX3) (T := TX3) (N := 6) hx hb hts iaX3 hown hK hP 1 rfl rfl 3 (by decide) (hts _ q111) (fun _ h9 => h9) rfl dX4_carryOut_144 ?_
              refine lv_iload_n hx hb dX4_carryOut_147 rfl (lv_at hl 0 rfl) ?_
              refine g_iadd hx hb dX4_carryOut_148 h (fun z19 h => ?_)
              refine va_put (D := (dC, dI)) (ci := 2) (v := .int z19) (ty := .int) (C := RX3) (T := TX3) (N := 6) hx hb hts iaX3 tyX3 tyX3_ok nmX3 hown hK hP hD hS 1 rfl rfl 3 (by decide) (hts _ q111) (fun _ h9 => h9) rfl (by decide +kernel) rfl rfl (Nat.le_of_ble_eq_true rfl) dX4_carryOut_149 (fun H locs hP _ hS => ?_)
              have hP : va_P (dC, dI) vwCl (wAll cyI cyC cyO ob n0 n1 n2 n3 t0 t1 t2 t3 s0 aR ro r1 r2 r3 x0 x1 x2 x3 x4 n_ones n_twos n_settings z19 n_energy n_valuesPut t_ones t_twos t_settings t_tick t_energy t_valuesPut s_ring s_oldest s_count x_signs x_length x_position x_complete x_orders x_kinds x_numbers x_values) H := hP
              have hD : va_D (k_A (wAll cyI cyC cyO ob n0 n1 n2 n3 t0 t1 t2 t3 s0 aR ro r1 r2 r3 x0 x1 x2 x3 x4 n_ones n_twos n_settings n_tick n_energy n_valuesPut t_ones t_twos t_settings t_tick t_energy t_valuesPut s_ring s_oldest s_count x_signs x_length x_position x_complete x_orders x_kinds x_numbers x_values)) (wAll cyI cyC cyO ob n0 n1 n2 n3 t0 t1 t2 t3 s0 aR ro r1 r2 r3 x0 x1 x2 x3 x4 n_ones n_twos n_settings z19 n_energy n_valuesPut t_ones t_twos t_settings t_tick t_energy t_valuesPut s_ring s_oldest s_count x_signs x_length x_position x_complete x_orders x_kinds x_numbers x_values) := k_Dm hD rfl
              refine lv_goto (tgt := 164) hx hb dX4_carryOut_152 (by decide) ?_
              refine lv_iconst (v := 1) hx hb dX4_carryOut_164 (by decide) ?_
              obtain ⟨e0, e1, e2, e3, e4, e5⟩ := k_t6 h
              exact g_retMZ hx hb hr (by decide +kernel) hlk hS e0 (by rw [← e1, ← e2, ← e3, ← e4, ← e5]; exact hP) dX4_carryOut_165
            · skip
              refine lv_tableOut (tgt := 155) hx hb dX4_carryOut_60 (by have zq0 := g_ne (z := 0) (by decide) nq0; have zq1 := g_ne (z := 1) (by decide) nq1; have zq2 := g_ne (z := 2) (by decide) nq2; have zq3 := g_ne (z := 3) (by decide) nq3; omega) (by decide) ?_
              refine lv_aload_n hx hb dX4_carryOut_155 rfl (lv_at hl 1 rfl) ?_
              refine va_get (D := (dC, dI)) (ci := 3) (v := .ref n0) (C := RX4) (T := TX4) (N := 4) hx hb hts iaX4 hown hK hP 0 rfl rfl 0 (by decide) (hts _ q152) (fun _ h9 => h9) rfl dX4_carryOut_156 ?_
              refine lv_iload_n hx hb dX4_carryOut_159 rfl (lv_at hl 0 rfl) ?_
              obtain ⟨z20, c21, c22, c23, hc160, h⟩ := k_b4_e h
              refine g_callMI_V (As := [.int z5]) (rest := []) hC (mX3_refreshRow l dC dI cyI cyC cyO n0 n1 n2 n3 n_ones n_twos n_settings n_tick n_energy n_valuesPut z5 hc160) q577 q578 q579 q72 q580 1 hdX3_refreshRow ⟨Nat.le_of_ble_eq_true rfl, Nat.le_of_ble_eq_true rfl⟩ ⟨Nat.le_of_ble_eq_true rfl, Nat.le_of_ble_eq_true rfl⟩ rfl rfl hl.1 (Nat.le_of_ble_eq_true rfl) (hP.sub (ws' := (wX3 cyI cyC n0 n1 n2 n3 n_ones n_twos n_settings n_tick n_energy n_valuesPut)) [1, 2, 3, 4] rfl) hK (hD.sub (ws' := (wX3 cyI cyC n0 n1 n2 n3 n_ones n_twos n_settings n_tick n_energy n_valuesPut)) [1, 2, 3, 4] (by decide) rfl) (va_recv hK hP (ci := 2) (q0 := 1) rfl rfl) hS dX4_carryOut_160 (fun H locs hPn hk hS => ?_)
              have hP : va_P (dC, dI) vwCl (wAll cyI cyC cyO ob n0 n1 n2 n3 t0 t1 t2 t3 s0 aR ro r1 r2 r3 x0 x1 x2 x3 x4 c21 c22 n_settings n_tick c23 n_valuesPut t_ones t_twos t_settings t_tick t_energy t_valuesPut s_ring s_oldest s_count x_signs x_length x_position x_complete x_orders x_kinds x_numbers x_values) H := k_repl hP hD [1, 2, 3, 4] rfl hk hPn [.inl 0, .inr 0, .inr 1, .inr 2, .inr 3, .inl 5, .inl 6, .inl 7, .inl 8, .inl 9, .inl 10, .inl 11, .inl 12, .inl 13, .inl 14, .inl 15, .inl 16, .inl 17, .inl 18, .inl 19, .inl 20, .inl 21, .inl 22, .inl 23, .inl 24, .inl 25, .inl 26, .inl 27, .inl 28, .inl 29, .inl 30, .inl 31, .inl 32, .inl 33, .inl 34, .inl 35, .inl 36, .inl 37, .inl 38, .inl 39] rfl (by decide)
              have hD : va_D (k_A (wAll cyI cyC cyO ob n0 n1 n2 n3 t0 t1 t2 t3 s0 aR ro r1 r2 r3 x0 x1 x2 x3 x4 n_ones n_twos n_settings n_tick n_energy n_valuesPut t_ones t_twos t_settings t_tick t_energy t_valuesPut s_ring s_oldest s_count x_signs x_length x_position x_complete x_orders x_kinds x_numbers x_values)) (wAll cyI cyC cyO ob n0 n1 n2 n3 t0 t1 t2 t3 s0 aR ro r1 r2 r3 x0 x1 x2 x3 x4 c21 c22 n_settings n_tick c23 n_valuesPut t_ones t_twos t_settings t_tick t_energy t_valuesPut s_ring s_oldest s_count x_signs x_length x_position x_complete x_orders x_kinds x_numbers x_values) := k_Dm hD rfl
              refine lv_pop hx hb dX4_carryOut_163 rfl ?_
              refine lv_iconst (v := 1) hx hb dX4_carryOut_164 (by decide) ?_
              obtain ⟨e0, e1, e2, e3, e4, e5⟩ := k_t6 h
              exact g_retMZ hx hb hr (by decide +kernel) hlk hS e0 (by rw [← e1, ← e2, ← e3, ← e4, ← e5]; exact hP) dX4_carryOut_165
    · refine lv_iconst (v := 0) hx hb dX4_carryOut_39 (by decide) ?_
      obtain ⟨e0, e1, e2, e3, e4, e5⟩ := k_t6 h
      exact g_retMZ hx hb hr (by decide +kernel) hlk hS e0 (by rw [← e1, ← e2, ← e3, ← e4, ← e5]; exact hP) dX4_carryOut_40
def fX4_run_s30 (c3 : Int32) (K55 : Int32 → (Nat → Int32) → (Nat → Int32) → Int32 → Int32 → Int32 → Option (Nat × Int32 × (Nat → Int32) × (Nat → Int32) × Int32 × Int32 × Int32 × (Nat → SV) × Int32 × Int32 × Int32 × Int32 × Int32 × Int32 × (Nat → Int32) × (Nat → Int32) × (Nat → Int32))) (n_settings : Nat → Int32) (c4 : Nat → Int32) (c5 : Nat → Int32) (c6 : Nat → Int32) (rec30 : Int32 → (Nat → Int32) → (Nat → Int32) → Int32 → Int32 → Int32 → Option (Nat × Int32 × (Nat → Int32) × (Nat → Int32) × Int32 × Int32 × Int32 × (Nat → SV) × Int32 × Int32 × Int32 × Int32 × Int32 × Int32 × (Nat → Int32) × (Nat → Int32) × (Nat → Int32))) (z17 : Int32) (c18 : Nat → Int32) (c19 : Nat → Int32) (c20 : Int32) (c21 : Int32) (c22 : Int32) : Option (Nat × Int32 × (Nat → Int32) × (Nat → Int32) × Int32 × Int32 × Int32 × (Nat → SV) × Int32 × Int32 × Int32 × Int32 × Int32 × Int32 × (Nat → Int32) × (Nat → Int32) × (Nat → Int32)) :=
  k_if (c3 ≤ z17)
  (
    K55 z17 c18 c19 c20 c21 c22)
  (
    k_b6 (fX4_carryOut c18 c19 n_settings c20 c21 c22 c3 c4 c5 c6 z17) fun (z23 : Int32) (c24 : Nat → Int32) (c25 : Nat → Int32) (c26 : Int32) (c27 : Int32) (c28 : Int32) =>
    k_if (z23 = 0)
    (
      K55 z17 c24 c25 c26 c27 c28)
    (
      k_let (z17 + 1) fun (z29 : Int32) =>
      rec30 z29 c24 c25 c26 c27 c28))
def fX4_run (n_ones : Nat → Int32) (n_twos : Nat → Int32) (n_settings : Nat → Int32) (n_tick : Int32) (n_energy : Int32) (n_valuesPut : Int32) (s_ring : Nat → SV) (s_oldest : Int32) (s_count : Int32) (x_signs : Nat → Int32) (x_length : Int32) (x_position : Int32) (x_complete : Int32) (x_orders : Int32) (x_kinds : Nat → Int32) (x_numbers : Nat → Int32) (x_values : Nat → Int32) : Option (Nat × Int32 × (Nat → Int32) × (Nat → Int32) × Int32 × Int32 × Int32 × (Nat → SV) × Int32 × Int32 × Int32 × Int32 × Int32 × Int32 × (Nat → Int32) × (Nat → Int32) × (Nat → Int32)) :=
  k_b6 (fX1_scan x_signs x_length x_position x_complete x_orders x_kinds x_numbers x_values) fun (c1 : Int32) (c2 : Int32) (c3 : Int32) (c4 : Nat → Int32) (c5 : Nat → Int32) (c6 : Nat → Int32) =>
  k_if (c2 = 0) (some (2, 0, n_ones, n_twos, n_tick, n_energy, n_valuesPut, s_ring, s_oldest, s_count, x_length, c1, c2, c3, c4, c5, c6)) <|
  k_b3 (fX2_save s_ring s_oldest s_count n_ones n_twos n_settings n_tick n_energy n_valuesPut) fun (c7 : Nat → SV) (c8 : Int32) (c9 : Int32) =>
  k_j6
  (fun (z10 : Int32) (c11 : Nat → Int32) (c12 : Nat → Int32) (c13 : Int32) (c14 : Int32) (c15 : Int32) =>
    k_b1 (fX1_empty x_length) fun (c16 : Int32) =>
    some (0, z10, c11, c12, c13, c14, c15, c7, c8, c9, c16, c1, c2, c3, c4, c5, c6))
  (fun K55 =>
  k_l6 (fX4_run_s30 c3 K55 n_settings c4 c5 c6) 5000 0 n_ones n_twos n_tick n_energy n_valuesPut)
theorem hdX4_run : yX4_run.cls = RX4 ∧ yX4_run.cls ≠ "java/lang/invoke/MethodHandle" ∧ yX4_run.cls ≠ "java/lang/invoke/VarHandle" ∧ (parseMethodDescriptor yX4_run.desc).map (fun d => d.parameters.length) = some 0 := by decide +kernel
set_option maxRecDepth 100000 in
set_option maxHeartbeats 4000000 in
theorem mX4_run (l : Launch) (dC : Nat → ClassId) (dI : Nat → Nat → Nat) (cyI cyC cyO : ClassId) (hl9 : l.stackTraces = false) (ad : Nat → Nat) (ob : Nat) (n0 : Nat) (n1 : Nat) (n2 : Nat) (n3 : Nat) (t0 : Nat) (t1 : Nat) (t2 : Nat) (t3 : Nat) (s0 : Nat) (aR : Nat) (ro : Nat → Nat) (r1 : Nat → Nat) (r2 : Nat → Nat) (r3 : Nat → Nat) (x0 : Nat) (x1 : Nat) (x2 : Nat) (x3 : Nat) (x4 : Nat) (n_ones : Nat → Int32) (n_twos : Nat → Int32) (n_settings : Nat → Int32) (n_tick : Int32) (n_energy : Int32) (n_valuesPut : Int32) (t_ones : Nat → Int32) (t_twos : Nat → Int32) (t_settings : Nat → Int32) (t_tick : Int32) (t_energy : Int32) (t_valuesPut : Int32) (s_ring : Nat → SV) (s_oldest : Int32) (s_count : Int32) (x_signs : Nat → Int32) (x_length : Int32) (x_position : Int32) (x_complete : Int32) (x_orders : Int32) (x_kinds : Nat → Int32) (x_numbers : Nat → Int32) (x_values : Nat → Int32)  {k : Nat} {r : Int32} {r_n_ones : Nat → Int32} {r_n_twos : Nat → Int32} {r_n_tick : Int32} {r_n_energy : Int32} {r_n_valuesPut : Int32} {r_s_ring : Nat → SV} {r_s_oldest : Int32} {r_s_count : Int32} {r_x_length : Int32} {r_x_position : Int32} {r_x_complete : Int32} {r_x_orders : Int32} {r_x_kinds : Nat → Int32} {r_x_numbers : Nat → Int32} {r_x_values : Nat → Int32} (hf : fX4_run n_ones n_twos n_settings n_tick n_energy n_valuesPut s_ring s_oldest s_count x_signs x_length x_position x_complete x_orders x_kinds x_numbers x_values = some (k, r, r_n_ones, r_n_twos, r_n_tick, r_n_energy, r_n_valuesPut, r_s_ring, r_s_oldest, r_s_count, r_x_length, r_x_position, r_x_complete, r_x_orders, r_x_kinds, r_x_numbers, r_x_values)) : MetT l yX4_run cX4_run 2 (some .int) 8 177 1 6 [.ref ob] (dC, dI) (tyS cyI cyC cyO) (wAll cyI cyC cyO ob n0 n1 n2 n3 t0 t1 t2 t3 s0 aR ro r1 r2 r3 x0 x1 x2 x3 x4 n_ones n_twos n_settings n_tick n_energy n_valuesPut t_ones t_twos t_settings t_tick t_energy t_valuesPut s_ring s_oldest s_count x_signs x_length x_position x_complete x_orders x_kinds x_numbers x_values) (wAll cyI cyC cyO ob n0 n1 n2 n3 t0 t1 t2 t3 s0 aR ro r1 r2 r3 x0 x1 x2 x3 x4 r_n_ones r_n_twos n_settings r_n_tick r_n_energy r_n_valuesPut t_ones t_twos t_settings t_tick t_energy t_valuesPut r_s_ring r_s_oldest r_s_count x_signs r_x_length r_x_position r_x_complete r_x_orders r_x_kinds r_x_numbers r_x_values) ad k r := by
  refine metT_of (by decide) (Nat.le_of_ble_eq_true rfl) ?_
  intro p e s m below meth c ls hC hr hlk hex hP hK hD hE hl
  have hC : CallFix p m c cX4_run 2 s [.ref ob].toArray wA RX4 := hC
  obtain ⟨hx, hb, hml, hown, hts⟩ := id hC
  have hS : va_S (k_A (wAll cyI cyC cyO ob n0 n1 n2 n3 t0 t1 t2 t3 s0 aR ro r1 r2 r3 x0 x1 x2 x3 x4 n_ones n_twos n_settings n_tick n_energy n_valuesPut t_ones t_twos t_settings t_tick t_energy t_valuesPut s_ring s_oldest s_count x_signs x_length x_position x_complete x_orders x_kinds x_numbers x_values)) s.heap s.heap [] := va_S.rf
  have hl : lv_has ls 2 [(0, .ref ob)] := hl
  have h := hf
  unfold fX4_run at h
  obtain ⟨H, hH⟩ : ∃ H, H = s.heap := ⟨_, rfl⟩
  obtain ⟨locs, hlo⟩ : ∃ locs : List Loc, locs = [] := ⟨_, rfl⟩
  rw [← hH] at hP
  rw [← hlo] at hS
  have hS : va_S (k_A (wAll cyI cyC cyO ob n0 n1 n2 n3 t0 t1 t2 t3 s0 aR ro r1 r2 r3 x0 x1 x2 x3 x4 n_ones n_twos n_settings n_tick n_energy n_valuesPut t_ones t_twos t_settings t_tick t_energy t_valuesPut s_ring s_oldest s_count x_signs x_length x_position x_complete x_orders x_kinds x_numbers x_values)) s.heap H locs := by rw [hH]; exact hS
  show W p l e (k_rmx 8 177 1 6) s m [.ref ob].toArray below meth c s.heap [] 0 0 _ _
  rw [← hlo, ← hH]
  refine lv_aload_n hx hb dX4_run_0 rfl (lv_at hl 0 rfl) ?_
  refine va_get (D := (dC, dI)) (ci := 3) (v := .ref x0) (C := RX4) (T := TX4) (N := 4) hx hb hts iaX4 hown hK hP 0 rfl rfl 3 (by decide) (hts _ q155) (fun _ h9 => h9) rfl dX4_run_1 ?_
  obtain ⟨c1, c2, c3, c4, c5, c6, hc4, h⟩ := k_b6_e h
  refine g_callMVe_V (As := []) (rest := []) hC (mX1_scan l dC dI cyI cyC cyO ad x0 x1 x2 x3 x4 x_signs x_length x_position x_complete x_orders x_kinds x_numbers x_values hc4) q168 q169 q170 q74 q171 0 hdX1_scan ⟨Nat.le_of_ble_eq_true rfl, Nat.le_of_ble_eq_true rfl⟩ ⟨Nat.le_of_ble_eq_true rfl, Nat.le_of_ble_eq_true rfl⟩ rfl rfl hl.1 (Nat.le_of_ble_eq_true rfl) (hP.sub (ws' := (wX1 cyI cyC x0 x1 x2 x3 x4 x_signs x_length x_position x_complete x_orders x_kinds x_numbers x_values)) [35, 36, 37, 38, 39] rfl) hK (hD.sub (ws' := (wX1 cyI cyC x0 x1 x2 x3 x4 x_signs x_length x_position x_complete x_orders x_kinds x_numbers x_values)) [35, 36, 37, 38, 39] (by decide) rfl) (va_recv hK hP (ci := 0) (q0 := 35) rfl rfl) hS dX4_run_4 hE (fun H locs hPn hk hS => ?_)
  have hP : va_P (dC, dI) vwCl (wAll cyI cyC cyO ob n0 n1 n2 n3 t0 t1 t2 t3 s0 aR ro r1 r2 r3 x0 x1 x2 x3 x4 n_ones n_twos n_settings n_tick n_energy n_valuesPut t_ones t_twos t_settings t_tick t_energy t_valuesPut s_ring s_oldest s_count x_signs x_length c1 c2 c3 c4 c5 c6) H := k_repl hP hD [35, 36, 37, 38, 39] rfl hk hPn [.inl 0, .inl 1, .inl 2, .inl 3, .inl 4, .inl 5, .inl 6, .inl 7, .inl 8, .inl 9, .inl 10, .inl 11, .inl 12, .inl 13, .inl 14, .inl 15, .inl 16, .inl 17, .inl 18, .inl 19, .inl 20, .inl 21, .inl 22, .inl 23, .inl 24, .inl 25, .inl 26, .inl 27, .inl 28, .inl 29, .inl 30, .inl 31, .inl 32, .inl 33, .inl 34, .inr 0, .inr 1, .inr 2, .inr 3, .inr 4] rfl (by decide)
  have hD : va_D (k_A (wAll cyI cyC cyO ob n0 n1 n2 n3 t0 t1 t2 t3 s0 aR ro r1 r2 r3 x0 x1 x2 x3 x4 n_ones n_twos n_settings n_tick n_energy n_valuesPut t_ones t_twos t_settings t_tick t_energy t_valuesPut s_ring s_oldest s_count x_signs x_length x_position x_complete x_orders x_kinds x_numbers x_values)) (wAll cyI cyC cyO ob n0 n1 n2 n3 t0 t1 t2 t3 s0 aR ro r1 r2 r3 x0 x1 x2 x3 x4 n_ones n_twos n_settings n_tick n_energy n_valuesPut t_ones t_twos t_settings t_tick t_energy t_valuesPut s_ring s_oldest s_count x_signs x_length c1 c2 c3 c4 c5 c6) := k_Dm hD rfl
  refine lv_aload_n hx hb dX4_run_7 rfl (lv_at hl 0 rfl) ?_
  refine va_get (D := (dC, dI)) (ci := 3) (v := .ref x0) (C := RX4) (T := TX4) (N := 4) hx hb hts iaX4 hown hK hP 0 rfl rfl 3 (by decide) (hts _ q155) (fun _ h9 => h9) rfl dX4_run_8 ?_
  refine va_get (D := (dC, dI)) (ci := 0) (v := .int c2) (C := RX1) (T := TX1) (N := 8) hx hb hts iaX1 hown hK hP 35 rfl rfl 3 (by decide) (hts _ q142) (fun _ h9 => h9) rfl dX4_run_11 ?_
  refine g_req hC hlk hex (mX4_requireArgument l hl9 ad c2) q513 q514 q71 q515 hdX4_requireArgument ⟨Nat.le_of_ble_eq_true rfl, Nat.le_of_ble_eq_true rfl⟩ ⟨Nat.le_of_ble_eq_true rfl, Nat.le_of_ble_eq_true rfl⟩ ⟨Nat.le_of_ble_eq_true rfl, Nat.le_of_ble_eq_true rfl⟩ hl.1 (Nat.le_of_ble_eq_true rfl) hS hE hP dX4_run_14 h (fun h => (k_t17 h).1) (fun H locs h hk hS => ?_) (fun h => by obtain ⟨e0, e1, e2, e3, e4, e5, e6, e7, e8, e9, e10, e11, e12, e13, e14, e15, e16⟩ := k_t17 h; rw [← e2, ← e3, ← e4, ← e5, ← e6, ← e7, ← e8, ← e9, ← e10, ← e11, ← e12, ← e13, ← e14, ← e15, ← e16]; exact hP)
  have hP := k_kept hP hk
  refine lv_aload_n hx hb dX4_run_17 rfl (lv_at hl 0 rfl) ?_
  refine va_get (D := (dC, dI)) (ci := 3) (v := .ref s0) (C := RX4) (T := TX4) (N := 4) hx hb hts iaX4 hown hK hP 0 rfl rfl 2 (by decide) (hts _ q154) (fun _ h9 => h9) rfl dX4_run_18 ?_
  refine lv_aload_n hx hb dX4_run_21 rfl (lv_at hl 0 rfl) ?_
  refine va_get (D := (dC, dI)) (ci := 3) (v := .ref n0) (C := RX4) (T := TX4) (N := 4) hx hb hts iaX4 hown hK hP 0 rfl rfl 0 (by decide) (hts _ q152) (fun _ h9 => h9) rfl dX4_run_22 ?_
  obtain ⟨c7, c8, c9, hc25, h⟩ := k_b3_e h
  refine g_callMV_V (As := [.ref n0]) (rest := []) hC (mX2_save l dC dI cyI cyC cyO s0 aR ro r1 r2 r3 n0 n1 n2 n3 s_ring s_oldest s_count n_ones n_twos n_settings n_tick n_energy n_valuesPut hc25) q535 q536 q537 q73 q538 1 hdX2_save ⟨Nat.le_of_ble_eq_true rfl, Nat.le_of_ble_eq_true rfl⟩ ⟨Nat.le_of_ble_eq_true rfl, Nat.le_of_ble_eq_true rfl⟩ rfl rfl hl.1 (Nat.le_of_ble_eq_true rfl) (hP.sub (ws' := (wX2 cyI cyC cyO s0 aR ro r1 r2 r3 s_ring s_oldest s_count) ++ (wX3 cyI cyC n0 n1 n2 n3 n_ones n_twos n_settings n_tick n_energy n_valuesPut)) [9, 10, 11, 12, 13, 14, 15, 16, 17, 18, 19, 20, 21, 22, 23, 24, 25, 26, 27, 28, 29, 30, 31, 32, 33, 34, 1, 2, 3, 4] rfl) hK (hD.sub (ws' := (wX2 cyI cyC cyO s0 aR ro r1 r2 r3 s_ring s_oldest s_count) ++ (wX3 cyI cyC n0 n1 n2 n3 n_ones n_twos n_settings n_tick n_energy n_valuesPut)) [9, 10, 11, 12, 13, 14, 15, 16, 17, 18, 19, 20, 21, 22, 23, 24, 25, 26, 27, 28, 29, 30, 31, 32, 33, 34, 1, 2, 3, 4] (by decide) rfl) (va_recv hK hP (ci := 1) (q0 := 9) rfl rfl) hS dX4_run_25 (fun H locs hPn hk hS => ?_)
  have hP : va_P (dC, dI) vwCl (wAll cyI cyC cyO ob n0 n1 n2 n3 t0 t1 t2 t3 s0 aR ro r1 r2 r3 x0 x1 x2 x3 x4 n_ones n_twos n_settings n_tick n_energy n_valuesPut t_ones t_twos t_settings t_tick t_energy t_valuesPut c7 c8 c9 x_signs x_length c1 c2 c3 c4 c5 c6) H := k_repl hP hD [9, 10, 11, 12, 13, 14, 15, 16, 17, 18, 19, 20, 21, 22, 23, 24, 25, 26, 27, 28, 29, 30, 31, 32, 33, 34, 1, 2, 3, 4] rfl hk hPn [.inl 0, .inr 26, .inr 27, .inr 28, .inr 29, .inl 5, .inl 6, .inl 7, .inl 8, .inr 0, .inr 1, .inr 2, .inr 3, .inr 4, .inr 5, .inr 6, .inr 7, .inr 8, .inr 9, .inr 10, .inr 11, .inr 12, .inr 13, .inr 14, .inr 15, .inr 16, .inr 17, .inr 18, .inr 19, .inr 20, .inr 21, .inr 22, .inr 23, .inr 24, .inr 25, .inl 35, .inl 36, .inl 37, .inl 38, .inl 39] rfl (by decide)
  have hD : va_D (k_A (wAll cyI cyC cyO ob n0 n1 n2 n3 t0 t1 t2 t3 s0 aR ro r1 r2 r3 x0 x1 x2 x3 x4 n_ones n_twos n_settings n_tick n_energy n_valuesPut t_ones t_twos t_settings t_tick t_energy t_valuesPut s_ring s_oldest s_count x_signs x_length x_position x_complete x_orders x_kinds x_numbers x_values)) (wAll cyI cyC cyO ob n0 n1 n2 n3 t0 t1 t2 t3 s0 aR ro r1 r2 r3 x0 x1 x2 x3 x4 n_ones n_twos n_settings n_tick n_energy n_valuesPut t_ones t_twos t_settings t_tick t_energy t_valuesPut c7 c8 c9 x_signs x_length c1 c2 c3 c4 c5 c6) := k_Dm hD rfl
  refine lv_iconst (v := 0) hx hb dX4_run_28 (by decide) ?_
  refine lv_istore_n (lv' := [(1, .int 0), (0, .ref ob)]) hx hb dX4_run_29 rfl hl (by decide) rfl (fun ls hl => ?_)
  obtain ⟨K55, hK55, h⟩ := k_j6_e h
  have J55 : ∀ (z10 : Int32) (c11 : Nat → Int32) (c12 : Nat → Int32) (c13 : Int32) (c14 : Int32) (c15 : Int32) (H : Heap) (locs : List Loc) (ls : Array Slot), K55 z10 c11 c12 c13 c14 c15 = some (k, r, r_n_ones, r_n_twos, r_n_tick, r_n_energy, r_n_valuesPut, r_s_ring, r_s_oldest, r_s_count, r_x_length, r_x_position, r_x_complete, r_x_orders, r_x_kinds, r_x_numbers, r_x_values) → va_P (dC, dI) vwCl (wAll cyI cyC cyO ob n0 n1 n2 n3 t0 t1 t2 t3 s0 aR ro r1 r2 r3 x0 x1 x2 x3 x4 c11 c12 n_settings c13 c14 c15 t_ones t_twos t_settings t_tick t_energy t_valuesPut c7 c8 c9 x_signs x_length c1 c2 c3 c4 c5 c6) H → va_S (k_A (wAll cyI cyC cyO ob n0 n1 n2 n3 t0 t1 t2 t3 s0 aR ro r1 r2 r3 x0 x1 x2 x3 x4 n_ones n_twos n_settings n_tick n_energy n_valuesPut t_ones t_twos t_settings t_tick t_energy t_valuesPut s_ring s_oldest s_count x_signs x_length x_position x_complete x_orders x_kinds x_numbers x_values)) s.heap H locs → lv_has ls 2 [(0, .ref ob), (1, .int z10)] → W p l e (k_rmx 8 177 1 6) s m [.ref ob].toArray below meth c H locs 1 6 (vx_MQ below (qTI k r (dC, dI) (wAll cyI cyC cyO ob n0 n1 n2 n3 t0 t1 t2 t3 s0 aR ro r1 r2 r3 x0 x1 x2 x3 x4 n_ones n_twos n_settings n_tick n_energy n_valuesPut t_ones t_twos t_settings t_tick t_energy t_valuesPut s_ring s_oldest s_count x_signs x_length x_position x_complete x_orders x_kinds x_numbers x_values) (wAll cyI cyC cyO ob n0 n1 n2 n3 t0 t1 t2 t3 s0 aR ro r1 r2 r3 x0 x1 x2 x3 x4 r_n_ones r_n_twos n_settings r_n_tick r_n_energy r_n_valuesPut t_ones t_twos t_settings t_tick t_energy t_valuesPut r_s_ring r_s_oldest r_s_count x_signs r_x_length r_x_position r_x_complete r_x_orders r_x_kinds r_x_numbers r_x_values)) (qTX k (dC, dI) (wAll cyI cyC cyO ob n0 n1 n2 n3 t0 t1 t2 t3 s0 aR ro r1 r2 r3 x0 x1 x2 x3 x4 n_ones n_twos n_settings n_tick n_energy n_valuesPut t_ones t_twos t_settings t_tick t_energy t_valuesPut s_ring s_oldest s_count x_signs x_length x_position x_complete x_orders x_kinds x_numbers x_values) (wAll cyI cyC cyO ob n0 n1 n2 n3 t0 t1 t2 t3 s0 aR ro r1 r2 r3 x0 x1 x2 x3 x4 r_n_ones r_n_twos n_settings r_n_tick r_n_energy r_n_valuesPut t_ones t_twos t_settings t_tick t_energy t_valuesPut r_s_ring r_s_oldest r_s_count x_signs r_x_length r_x_position r_x_complete r_x_orders r_x_kinds r_x_numbers r_x_values)) [.ref ob].toArray s 1 6 (k_A (wAll cyI cyC cyO ob n0 n1 n2 n3 t0 t1 t2 t3 s0 aR ro r1 r2 r3 x0 x1 x2 x3 x4 n_ones n_twos n_settings n_tick n_energy n_valuesPut t_ones t_twos t_settings t_tick t_energy t_valuesPut s_ring s_oldest s_count x_signs x_length x_position x_complete x_orders x_kinds x_numbers x_values))) (F0 m 55 ls []) := by
    intro z10 c11 c12 c13 c14 c15 H locs ls h hP hS hl
    have hD : va_D (k_A (wAll cyI cyC cyO ob n0 n1 n2 n3 t0 t1 t2 t3 s0 aR ro r1 r2 r3 x0 x1 x2 x3 x4 n_ones n_twos n_settings n_tick n_energy n_valuesPut t_ones t_twos t_settings t_tick t_energy t_valuesPut s_ring s_oldest s_count x_signs x_length x_position x_complete x_orders x_kinds x_numbers x_values)) (wAll cyI cyC cyO ob n0 n1 n2 n3 t0 t1 t2 t3 s0 aR ro r1 r2 r3 x0 x1 x2 x3 x4 c11 c12 n_settings c13 c14 c15 t_ones t_twos t_settings t_tick t_energy t_valuesPut c7 c8 c9 x_signs x_length c1 c2 c3 c4 c5 c6) := k_Dm hD rfl
    have h := k_a6 hK55 h
    refine lv_aload_n hx hb dX4_run_55 rfl (lv_at hl 0 rfl) ?_
    refine va_get (D := (dC, dI)) (ci := 3) (v := .ref x0) (C := RX4) (T := TX4) (N := 4) hx hb hts iaX4 hown hK hP 0 rfl rfl 3 (by decide) (hts _ q155) (fun _ h9 => h9) rfl dX4_run_56 ?_
    obtain ⟨c16, hc59, h⟩ := k_b1_e h
    refine g_callMV_V (As := []) (rest := []) hC (mX1_empty l dC dI cyI cyC cyO x0 x1 x2 x3 x4 x_signs x_length c1 c2 c3 c4 c5 c6 hc59) q160 q161 q162 q74 q163 0 hdX1_empty ⟨Nat.le_of_ble_eq_true rfl, Nat.le_of_ble_eq_true rfl⟩ ⟨Nat.le_of_ble_eq_true rfl, Nat.le_of_ble_eq_true rfl⟩ rfl rfl hl.1 (Nat.le_of_ble_eq_true rfl) (hP.sub (ws' := (wX1 cyI cyC x0 x1 x2 x3 x4 x_signs x_length c1 c2 c3 c4 c5 c6)) [35, 36, 37, 38, 39] rfl) hK (hD.sub (ws' := (wX1 cyI cyC x0 x1 x2 x3 x4 x_signs x_length c1 c2 c3 c4 c5 c6)) [35, 36, 37, 38, 39] (by decide) rfl) (va_recv hK hP (ci := 0) (q0 := 35) rfl rfl) hS dX4_run_59 (fun H locs hPn hk hS => ?_)
    have hP : va_P (dC, dI) vwCl (wAll cyI cyC cyO ob n0 n1 n2 n3 t0 t1 t2 t3 s0 aR ro r1 r2 r3 x0 x1 x2 x3 x4 c11 c12 n_settings c13 c14 c15 t_ones t_twos t_settings t_tick t_energy t_valuesPut c7 c8 c9 x_signs c16 c1 c2 c3 c4 c5 c6) H := k_repl hP hD [35, 36, 37, 38, 39] rfl hk hPn [.inl 0, .inl 1, .inl 2, .inl 3, .inl 4, .inl 5, .inl 6, .inl 7, .inl 8, .inl 9, .inl 10, .inl 11, .inl 12, .inl 13, .inl 14, .inl 15, .inl 16, .inl 17, .inl 18, .inl 19, .inl 20, .inl 21, .inl 22, .inl 23, .inl 24, .inl 25, .inl 26, .inl 27, .inl 28, .inl 29, .inl 30, .inl 31, .inl 32, .inl 33, .inl 34, .inr 0, .inr 1, .inr 2, .inr 3, .inr 4] rfl (by decide)
    have hD : va_D (k_A (wAll cyI cyC cyO ob n0 n1 n2 n3 t0 t1 t2 t3 s0 aR ro r1 r2 r3 x0 x1 x2 x3 x4 n_ones n_twos n_settings n_tick n_energy n_valuesPut t_ones t_twos t_settings t_tick t_energy t_valuesPut s_ring s_oldest s_count x_signs x_length x_position x_complete x_orders x_kinds x_numbers x_values)) (wAll cyI cyC cyO ob n0 n1 n2 n3 t0 t1 t2 t3 s0 aR ro r1 r2 r3 x0 x1 x2 x3 x4 c11 c12 n_settings c13 c14 c15 t_ones t_twos t_settings t_tick t_energy t_valuesPut c7 c8 c9 x_signs c16 c1 c2 c3 c4 c5 c6) := k_Dm hD rfl
    refine lv_iload_n hx hb dX4_run_62 rfl (lv_at hl 1 rfl) ?_
    obtain ⟨e0, e1, e2, e3, e4, e5, e6, e7, e8, e9, e10, e11, e12, e13, e14, e15, e16⟩ := k_t17 h
    exact g_retT hx hb hr hlk (Nat.le_of_ble_eq_true rfl) (Nat.le_of_ble_eq_true rfl) hS e0 e1 (by rw [← e2, ← e3, ← e4, ← e5, ← e6, ← e7, ← e8, ← e9, ← e10, ← e11, ← e12, ← e13, ← e14, ← e15, ← e16]; exact hP) dX4_run_63
  obtain ⟨S30, hS30⟩ : ∃ z, z = (fX4_run_s30 c3 K55 n_settings c4 c5 c6) := ⟨_, rfl⟩
  rw [← hS30] at h
  have L30 : ∀ (n : Nat) (z17 : Int32) (c18 : Nat → Int32) (c19 : Nat → Int32) (c20 : Int32) (c21 : Int32) (c22 : Int32) (H : Heap) (locs : List Loc) (ls : Array Slot), k_l6 S30 n z17 c18 c19 c20 c21 c22 = some (k, r, r_n_ones, r_n_twos, r_n_tick, r_n_energy, r_n_valuesPut, r_s_ring, r_s_oldest, r_s_count, r_x_length, r_x_position, r_x_complete, r_x_orders, r_x_kinds, r_x_numbers, r_x_values) → va_P (dC, dI) vwCl (wAll cyI cyC cyO ob n0 n1 n2 n3 t0 t1 t2 t3 s0 aR ro r1 r2 r3 x0 x1 x2 x3 x4 c18 c19 n_settings c20 c21 c22 t_ones t_twos t_settings t_tick t_energy t_valuesPut c7 c8 c9 x_signs x_length c1 c2 c3 c4 c5 c6) H → va_S (k_A (wAll cyI cyC cyO ob n0 n1 n2 n3 t0 t1 t2 t3 s0 aR ro r1 r2 r3 x0 x1 x2 x3 x4 n_ones n_twos n_settings n_tick n_energy n_valuesPut t_ones t_twos t_settings t_tick t_energy t_valuesPut s_ring s_oldest s_count x_signs x_length x_position x_complete x_orders x_kinds x_numbers x_values)) s.heap H locs → lv_has ls 2 [(0, .ref ob), (1, .int z17)] → W p l e (k_rmx 8 177 1 6) s m [.ref ob].toArray below meth c H locs 1 6 (vx_MQ below (qTI k r (dC, dI) (wAll cyI cyC cyO ob n0 n1 n2 n3 t0 t1 t2 t3 s0 aR ro r1 r2 r3 x0 x1 x2 x3 x4 n_ones n_twos n_settings n_tick n_energy n_valuesPut t_ones t_twos t_settings t_tick t_energy t_valuesPut s_ring s_oldest s_count x_signs x_length x_position x_complete x_orders x_kinds x_numbers x_values) (wAll cyI cyC cyO ob n0 n1 n2 n3 t0 t1 t2 t3 s0 aR ro r1 r2 r3 x0 x1 x2 x3 x4 r_n_ones r_n_twos n_settings r_n_tick r_n_energy r_n_valuesPut t_ones t_twos t_settings t_tick t_energy t_valuesPut r_s_ring r_s_oldest r_s_count x_signs r_x_length r_x_position r_x_complete r_x_orders r_x_kinds r_x_numbers r_x_values)) (qTX k (dC, dI) (wAll cyI cyC cyO ob n0 n1 n2 n3 t0 t1 t2 t3 s0 aR ro r1 r2 r3 x0 x1 x2 x3 x4 n_ones n_twos n_settings n_tick n_energy n_valuesPut t_ones t_twos t_settings t_tick t_energy t_valuesPut s_ring s_oldest s_count x_signs x_length x_position x_complete x_orders x_kinds x_numbers x_values) (wAll cyI cyC cyO ob n0 n1 n2 n3 t0 t1 t2 t3 s0 aR ro r1 r2 r3 x0 x1 x2 x3 x4 r_n_ones r_n_twos n_settings r_n_tick r_n_energy r_n_valuesPut t_ones t_twos t_settings t_tick t_energy t_valuesPut r_s_ring r_s_oldest r_s_count x_signs r_x_length r_x_position r_x_complete r_x_orders r_x_kinds r_x_numbers r_x_values)) [.ref ob].toArray s 1 6 (k_A (wAll cyI cyC cyO ob n0 n1 n2 n3 t0 t1 t2 t3 s0 aR ro r1 r2 r3 x0 x1 x2 x3 x4 n_ones n_twos n_settings n_tick n_energy n_valuesPut t_ones t_twos t_settings t_tick t_energy t_valuesPut s_ring s_oldest s_count x_signs x_length x_position x_complete x_orders x_kinds x_numbers x_values))) (F0 m 30 ls []) := by
    intro n
    induction n with
    | zero =>
      intro z17 c18 c19 c20 c21 c22 H locs ls h
      exact (k_l6_0 h).elim
    | succ n ih30 =>
      intro z17 c18 c19 c20 c21 c22 H locs ls h hP hS hl
      have hD : va_D (k_A (wAll cyI cyC cyO ob n0 n1 n2 n3 t0 t1 t2 t3 s0 aR ro r1 r2 r3 x0 x1 x2 x3 x4 n_ones n_twos n_settings n_tick n_energy n_valuesPut t_ones t_twos t_settings t_tick t_energy t_valuesPut s_ring s_oldest s_count x_signs x_length x_position x_complete x_orders x_kinds x_numbers x_values)) (wAll cyI cyC cyO ob n0 n1 n2 n3 t0 t1 t2 t3 s0 aR ro r1 r2 r3 x0 x1 x2 x3 x4 c18 c19 n_settings c20 c21 c22 t_ones t_twos t_settings t_tick t_energy t_valuesPut c7 c8 c9 x_signs x_length c1 c2 c3 c4 c5 c6) := k_Dm hD rfl
      have h := k_l6_s h
      have h := k_a7 hS30 h
      unfold fX4_run_s30 at h
      refine lv_iload_n hx hb dX4_run_30 rfl (lv_at hl 1 rfl) ?_
      refine lv_aload_n hx hb dX4_run_31 rfl (lv_at hl 0 rfl) ?_
      refine va_get (D := (dC, dI)) (ci := 3) (v := .ref x0) (C := RX4) (T := TX4) (N := 4) hx hb hts iaX4 hown hK hP 0 rfl rfl 3 (by decide) (hts _ q155) (fun _ h9 => h9) rfl dX4_run_32 ?_
      refine va_get (D := (dC, dI)) (ci := 0) (v := .int c3) (C := RX1) (T := TX1) (N := 8) hx hb hts iaX1 hown hK hP 35 rfl rfl 4 (by decide) (hts _ q144) (fun _ h9 => h9) rfl dX4_run_35 ?_
      refine g_icmp_ge (tgt := 55) hx hb dX4_run_38 (by decide) h (fun h => ?_) (fun h => ?_)
      · exact J55 z17 c18 c19 c20 c21 c22 _ _ _ h hP hS (lv_sub hl [0, 1] rfl)
      · refine lv_aload_n hx hb dX4_run_41 rfl (lv_at hl 0 rfl) ?_
        refine lv_iload_n hx hb dX4_run_42 rfl (lv_at hl 1 rfl) ?_
        obtain ⟨z23, c24, c25, c26, c27, c28, hc43, h⟩ := k_b6_e h
        refine g_callMI_V (As := [.int z17]) (rest := []) hC (mX4_carryOut l dC dI cyI cyC cyO ob n0 n1 n2 n3 t0 t1 t2 t3 s0 aR ro r1 r2 r3 x0 x1 x2 x3 x4 c18 c19 n_settings c20 c21 c22 t_ones t_twos t_settings t_tick t_energy t_valuesPut c7 c8 c9 x_signs x_length c1 c2 c3 c4 c5 c6 z17 hc43) q629 q630 q12 q71 q631 1 hdX4_carryOut ⟨Nat.le_of_ble_eq_true rfl, Nat.le_of_ble_eq_true rfl⟩ ⟨Nat.le_of_ble_eq_true rfl, Nat.le_of_ble_eq_true rfl⟩ rfl rfl hl.1 (Nat.le_of_ble_eq_true rfl) hP hK hD (va_recv hK hP (ci := 3) (q0 := 0) rfl rfl) hS dX4_run_43 (fun H locs hPn hk hS => ?_)
        have hP : va_P (dC, dI) vwCl (wAll cyI cyC cyO ob n0 n1 n2 n3 t0 t1 t2 t3 s0 aR ro r1 r2 r3 x0 x1 x2 x3 x4 c24 c25 n_settings c26 c27 c28 t_ones t_twos t_settings t_tick t_energy t_valuesPut c7 c8 c9 x_signs x_length c1 c2 c3 c4 c5 c6) H := hPn
        have hD : va_D (k_A (wAll cyI cyC cyO ob n0 n1 n2 n3 t0 t1 t2 t3 s0 aR ro r1 r2 r3 x0 x1 x2 x3 x4 n_ones n_twos n_settings n_tick n_energy n_valuesPut t_ones t_twos t_settings t_tick t_energy t_valuesPut s_ring s_oldest s_count x_signs x_length x_position x_complete x_orders x_kinds x_numbers x_values)) (wAll cyI cyC cyO ob n0 n1 n2 n3 t0 t1 t2 t3 s0 aR ro r1 r2 r3 x0 x1 x2 x3 x4 c24 c25 n_settings c26 c27 c28 t_ones t_twos t_settings t_tick t_energy t_valuesPut c7 c8 c9 x_signs x_length c1 c2 c3 c4 c5 c6) := k_Dm hD rfl
        refine g_if_eq (tgt := 55) hx hb dX4_run_46 (by decide) h (fun h => ?_) (fun h => ?_)
        · exact J55 z17 c24 c25 c26 c27 c28 _ _ _ h hP hS (lv_sub hl [0, 1] rfl)
        · refine g_iinc (dv := 1) hx hb dX4_run_49 hl (j := 1) rfl (by decide) (by decide) h (fun z29 ls h hl => ?_)
          have hl : lv_has ls 2 [(1, .int z29), (0, .ref ob)] := hl
          refine lv_goto (tgt := 30) hx hb dX4_run_52 (by decide) ?_
          exact ih30 z29 c24 c25 c26 c27 c28 _ _ _ h hP hS (lv_sub hl [1, 0] rfl)
  exact L30 5000 0 n_ones n_twos n_tick n_energy n_valuesPut _ _ _ h hP hS (lv_sub hl [1, 0] rfl)
def fX4_undo (n_ones : Nat → Int32) (n_twos : Nat → Int32) (n_settings : Nat → Int32) (n_tick : Int32) (n_energy : Int32) (n_valuesPut : Int32) (s_ring : Nat → SV) (s_oldest : Int32) (s_count : Int32) : Option (Nat × Int32 × (Nat → Int32) × (Nat → Int32) × (Nat → Int32) × Int32 × Int32 × Int32 × Int32) :=
  k_j1
  (fun (z1 : Int32) =>
    k_if (z1 = 0) (some (3, 0, n_ones, n_twos, n_settings, n_tick, n_energy, n_valuesPut, s_count)) <|
    k_b7 (fX2_restore s_ring s_oldest s_count n_ones n_twos n_settings n_tick n_energy n_valuesPut) fun (c2 : Int32) (c3 : Nat → Int32) (c4 : Nat → Int32) (c5 : Nat → Int32) (c6 : Int32) (c7 : Int32) (c8 : Int32) =>
    some (0, c2, c3, c4, c5, c6, c7, c8, c2))
  (fun K15 =>
  k_if (s_count ≤ 0)
  (
    K15 0)
  (
    K15 1))
theorem hdX4_undo : yX4_undo.cls = RX4 ∧ yX4_undo.cls ≠ "java/lang/invoke/MethodHandle" ∧ yX4_undo.cls ≠ "java/lang/invoke/VarHandle" ∧ (parseMethodDescriptor yX4_undo.desc).map (fun d => d.parameters.length) = some 0 := by decide +kernel
set_option maxRecDepth 100000 in
set_option maxHeartbeats 4000000 in
theorem mX4_undo (l : Launch) (dC : Nat → ClassId) (dI : Nat → Nat → Nat) (cyI cyC cyO : ClassId) (hl9 : l.stackTraces = false) (ad : Nat → Nat) (ob : Nat) (n0 : Nat) (n1 : Nat) (n2 : Nat) (n3 : Nat) (t0 : Nat) (t1 : Nat) (t2 : Nat) (t3 : Nat) (s0 : Nat) (aR : Nat) (ro : Nat → Nat) (r1 : Nat → Nat) (r2 : Nat → Nat) (r3 : Nat → Nat) (x0 : Nat) (x1 : Nat) (x2 : Nat) (x3 : Nat) (x4 : Nat) (n_ones : Nat → Int32) (n_twos : Nat → Int32) (n_settings : Nat → Int32) (n_tick : Int32) (n_energy : Int32) (n_valuesPut : Int32) (t_ones : Nat → Int32) (t_twos : Nat → Int32) (t_settings : Nat → Int32) (t_tick : Int32) (t_energy : Int32) (t_valuesPut : Int32) (s_ring : Nat → SV) (s_oldest : Int32) (s_count : Int32) (x_signs : Nat → Int32) (x_length : Int32) (x_position : Int32) (x_complete : Int32) (x_orders : Int32) (x_kinds : Nat → Int32) (x_numbers : Nat → Int32) (x_values : Nat → Int32)  {k : Nat} {r : Int32} {r_n_ones : Nat → Int32} {r_n_twos : Nat → Int32} {r_n_settings : Nat → Int32} {r_n_tick : Int32} {r_n_energy : Int32} {r_n_valuesPut : Int32} {r_s_count : Int32} (hf : fX4_undo n_ones n_twos n_settings n_tick n_energy n_valuesPut s_ring s_oldest s_count = some (k, r, r_n_ones, r_n_twos, r_n_settings, r_n_tick, r_n_energy, r_n_valuesPut, r_s_count)) : MetT l yX4_undo cX4_undo 1 (some .int) 7 102 1 6 [.ref ob] (dC, dI) (tyS cyI cyC cyO) (wAll cyI cyC cyO ob n0 n1 n2 n3 t0 t1 t2 t3 s0 aR ro r1 r2 r3 x0 x1 x2 x3 x4 n_ones n_twos n_settings n_tick n_energy n_valuesPut t_ones t_twos t_settings t_tick t_energy t_valuesPut s_ring s_oldest s_count x_signs x_length x_position x_complete x_orders x_kinds x_numbers x_values) (wAll cyI cyC cyO ob n0 n1 n2 n3 t0 t1 t2 t3 s0 aR ro r1 r2 r3 x0 x1 x2 x3 x4 r_n_ones r_n_twos r_n_settings r_n_tick r_n_energy r_n_valuesPut t_ones t_twos t_settings t_tick t_energy t_valuesPut s_ring s_oldest r_s_count x_signs x_length x_position x_complete x_orders x_kinds x_numbers x_values) ad k r := by
  refine metT_of (by decide) (Nat.le_of_ble_eq_true rfl) ?_
  intro p e s m below meth c ls hC hr hlk hex hP hK hD hE hl
  have hC : CallFix p m c cX4_undo 1 s [.ref ob].toArray wA RX4 := hC
  obtain ⟨hx, hb, hml, hown, hts⟩ := id hC
  have hS : va_S (k_A (wAll cyI cyC cyO ob n0 n1 n2 n3 t0 t1 t2 t3 s0 aR ro r1 r2 r3 x0 x1 x2 x3 x4 n_ones n_twos n_settings n_tick n_energy n_valuesPut t_ones t_twos t_settings t_tick t_energy t_valuesPut s_ring s_oldest s_count x_signs x_length x_position x_complete x_orders x_kinds x_numbers x_values)) s.heap s.heap [] := va_S.rf
  have hl : lv_has ls 1 [(0, .ref ob)] := hl
  have h := hf
  unfold fX4_undo at h
  obtain ⟨H, hH⟩ : ∃ H, H = s.heap := ⟨_, rfl⟩
  obtain ⟨locs, hlo⟩ : ∃ locs : List Loc, locs = [] := ⟨_, rfl⟩
  rw [← hH] at hP
  rw [← hlo] at hS
  have hS : va_S (k_A (wAll cyI cyC cyO ob n0 n1 n2 n3 t0 t1 t2 t3 s0 aR ro r1 r2 r3 x0 x1 x2 x3 x4 n_ones n_twos n_settings n_tick n_energy n_valuesPut t_ones t_twos t_settings t_tick t_energy t_valuesPut s_ring s_oldest s_count x_signs x_length x_position x_complete x_orders x_kinds x_numbers x_values)) s.heap H locs := by rw [hH]; exact hS
  show W p l e (k_rmx 7 102 1 6) s m [.ref ob].toArray below meth c s.heap [] 0 0 _ _
  rw [← hlo, ← hH]
  refine lv_aload_n hx hb dX4_undo_0 rfl (lv_at hl 0 rfl) ?_
  refine va_get (D := (dC, dI)) (ci := 3) (v := .ref s0) (C := RX4) (T := TX4) (N := 4) hx hb hts iaX4 hown hK hP 0 rfl rfl 2 (by decide) (hts _ q154) (fun _ h9 => h9) rfl dX4_undo_1 ?_
  refine va_get (D := (dC, dI)) (ci := 1) (v := .int s_count) (C := RX2) (T := TX2) (N := 3) hx hb hts iaX2 hown hK hP 9 rfl rfl 2 (by decide) (hts _ q128) (fun _ h9 => h9) rfl dX4_undo_4 ?_
  obtain ⟨K15, hK15, h⟩ := k_j1_e h
  have J15 : ∀ (z1 : Int32) (H : Heap) (locs : List Loc) (ls : Array Slot), K15 z1 = some (k, r, r_n_ones, r_n_twos, r_n_settings, r_n_tick, r_n_energy, r_n_valuesPut, r_s_count) → va_P (dC, dI) vwCl (wAll cyI cyC cyO ob n0 n1 n2 n3 t0 t1 t2 t3 s0 aR ro r1 r2 r3 x0 x1 x2 x3 x4 n_ones n_twos n_settings n_tick n_energy n_valuesPut t_ones t_twos t_settings t_tick t_energy t_valuesPut s_ring s_oldest s_count x_signs x_length x_position x_complete x_orders x_kinds x_numbers x_values) H → va_S (k_A (wAll cyI cyC cyO ob n0 n1 n2 n3 t0 t1 t2 t3 s0 aR ro r1 r2 r3 x0 x1 x2 x3 x4 n_ones n_twos n_settings n_tick n_energy n_valuesPut t_ones t_twos t_settings t_tick t_energy t_valuesPut s_ring s_oldest s_count x_signs x_length x_position x_complete x_orders x_kinds x_numbers x_values)) s.heap H locs → lv_has ls 1 [(0, .ref ob)] → W p l e (k_rmx 7 102 1 6) s m [.ref ob].toArray below meth c H locs 0 0 (vx_MQ below (qTI k r (dC, dI) (wAll cyI cyC cyO ob n0 n1 n2 n3 t0 t1 t2 t3 s0 aR ro r1 r2 r3 x0 x1 x2 x3 x4 n_ones n_twos n_settings n_tick n_energy n_valuesPut t_ones t_twos t_settings t_tick t_energy t_valuesPut s_ring s_oldest s_count x_signs x_length x_position x_complete x_orders x_kinds x_numbers x_values) (wAll cyI cyC cyO ob n0 n1 n2 n3 t0 t1 t2 t3 s0 aR ro r1 r2 r3 x0 x1 x2 x3 x4 r_n_ones r_n_twos r_n_settings r_n_tick r_n_energy r_n_valuesPut t_ones t_twos t_settings t_tick t_energy t_valuesPut s_ring s_oldest r_s_count x_signs x_length x_position x_complete x_orders x_kinds x_numbers x_values)) (qTX k (dC, dI) (wAll cyI cyC cyO ob n0 n1 n2 n3 t0 t1 t2 t3 s0 aR ro r1 r2 r3 x0 x1 x2 x3 x4 n_ones n_twos n_settings n_tick n_energy n_valuesPut t_ones t_twos t_settings t_tick t_energy t_valuesPut s_ring s_oldest s_count x_signs x_length x_position x_complete x_orders x_kinds x_numbers x_values) (wAll cyI cyC cyO ob n0 n1 n2 n3 t0 t1 t2 t3 s0 aR ro r1 r2 r3 x0 x1 x2 x3 x4 r_n_ones r_n_twos r_n_settings r_n_tick r_n_energy r_n_valuesPut t_ones t_twos t_settings t_tick t_energy t_valuesPut s_ring s_oldest r_s_count x_signs x_length x_position x_complete x_orders x_kinds x_numbers x_values)) [.ref ob].toArray s 1 6 (k_A (wAll cyI cyC cyO ob n0 n1 n2 n3 t0 t1 t2 t3 s0 aR ro r1 r2 r3 x0 x1 x2 x3 x4 n_ones n_twos n_settings n_tick n_energy n_valuesPut t_ones t_twos t_settings t_tick t_energy t_valuesPut s_ring s_oldest s_count x_signs x_length x_position x_complete x_orders x_kinds x_numbers x_values))) (F0 m 15 ls [.int z1]) := by
    intro z1 H locs ls h hP hS hl
    have h := k_a1 hK15 h
    refine g_req hC hlk hex (mX4_requireState l hl9 ad z1) q524 q525 q71 q526 hdX4_requireState ⟨Nat.le_of_ble_eq_true rfl, Nat.le_of_ble_eq_true rfl⟩ ⟨Nat.le_of_ble_eq_true rfl, Nat.le_of_ble_eq_true rfl⟩ ⟨Nat.le_of_ble_eq_true rfl, Nat.le_of_ble_eq_true rfl⟩ hl.1 (Nat.le_of_ble_eq_true rfl) hS hE hP dX4_undo_15 h (fun h => (k_t9 h).1) (fun H locs h hk hS => ?_) (fun h => by obtain ⟨e0, e1, e2, e3, e4, e5, e6, e7, e8⟩ := k_t9 h; rw [← e2, ← e3, ← e4, ← e5, ← e6, ← e7, ← e8]; exact hP)
    have hP := k_kept hP hk
    refine lv_aload_n hx hb dX4_undo_18 rfl (lv_at hl 0 rfl) ?_
    refine va_get (D := (dC, dI)) (ci := 3) (v := .ref s0) (C := RX4) (T := TX4) (N := 4) hx hb hts iaX4 hown hK hP 0 rfl rfl 2 (by decide) (hts _ q154) (fun _ h9 => h9) rfl dX4_undo_19 ?_
    refine lv_aload_n hx hb dX4_undo_22 rfl (lv_at hl 0 rfl) ?_
    refine va_get (D := (dC, dI)) (ci := 3) (v := .ref n0) (C := RX4) (T := TX4) (N := 4) hx hb hts iaX4 hown hK hP 0 rfl rfl 0 (by decide) (hts _ q152) (fun _ h9 => h9) rfl dX4_undo_23 ?_
    obtain ⟨c2, c3, c4, c5, c6, c7, c8, hc26, h⟩ := k_b7_e h
    refine g_callMV_V (As := [.ref n0]) (rest := []) hC (mX2_restore l dC dI cyI cyC cyO s0 aR ro r1 r2 r3 n0 n1 n2 n3 s_ring s_oldest s_count n_ones n_twos n_settings n_tick n_energy n_valuesPut hc26) q642 q643 q644 q73 q645 1 hdX2_restore ⟨Nat.le_of_ble_eq_true rfl, Nat.le_of_ble_eq_true rfl⟩ ⟨Nat.le_of_ble_eq_true rfl, Nat.le_of_ble_eq_true rfl⟩ rfl rfl hl.1 (Nat.le_of_ble_eq_true rfl) (hP.sub (ws' := (wX2 cyI cyC cyO s0 aR ro r1 r2 r3 s_ring s_oldest s_count) ++ (wX3 cyI cyC n0 n1 n2 n3 n_ones n_twos n_settings n_tick n_energy n_valuesPut)) [9, 10, 11, 12, 13, 14, 15, 16, 17, 18, 19, 20, 21, 22, 23, 24, 25, 26, 27, 28, 29, 30, 31, 32, 33, 34, 1, 2, 3, 4] rfl) hK (hD.sub (ws' := (wX2 cyI cyC cyO s0 aR ro r1 r2 r3 s_ring s_oldest s_count) ++ (wX3 cyI cyC n0 n1 n2 n3 n_ones n_twos n_settings n_tick n_energy n_valuesPut)) [9, 10, 11, 12, 13, 14, 15, 16, 17, 18, 19, 20, 21, 22, 23, 24, 25, 26, 27, 28, 29, 30, 31, 32, 33, 34, 1, 2, 3, 4] (by decide) rfl) (va_recv hK hP (ci := 1) (q0 := 9) rfl rfl) hS dX4_undo_26 (fun H locs hPn hk hS => ?_)
    have hP : va_P (dC, dI) vwCl (wAll cyI cyC cyO ob n0 n1 n2 n3 t0 t1 t2 t3 s0 aR ro r1 r2 r3 x0 x1 x2 x3 x4 c3 c4 c5 c6 c7 c8 t_ones t_twos t_settings t_tick t_energy t_valuesPut s_ring s_oldest c2 x_signs x_length x_position x_complete x_orders x_kinds x_numbers x_values) H := k_repl hP hD [9, 10, 11, 12, 13, 14, 15, 16, 17, 18, 19, 20, 21, 22, 23, 24, 25, 26, 27, 28, 29, 30, 31, 32, 33, 34, 1, 2, 3, 4] rfl hk hPn [.inl 0, .inr 26, .inr 27, .inr 28, .inr 29, .inl 5, .inl 6, .inl 7, .inl 8, .inr 0, .inr 1, .inr 2, .inr 3, .inr 4, .inr 5, .inr 6, .inr 7, .inr 8, .inr 9, .inr 10, .inr 11, .inr 12, .inr 13, .inr 14, .inr 15, .inr 16, .inr 17, .inr 18, .inr 19, .inr 20, .inr 21, .inr 22, .inr 23, .inr 24, .inr 25, .inl 35, .inl 36, .inl 37, .inl 38, .inl 39] rfl (by decide)
    have hD : va_D (k_A (wAll cyI cyC cyO ob n0 n1 n2 n3 t0 t1 t2 t3 s0 aR ro r1 r2 r3 x0 x1 x2 x3 x4 n_ones n_twos n_settings n_tick n_energy n_valuesPut t_ones t_twos t_settings t_tick t_energy t_valuesPut s_ring s_oldest s_count x_signs x_length x_position x_complete x_orders x_kinds x_numbers x_values)) (wAll cyI cyC cyO ob n0 n1 n2 n3 t0 t1 t2 t3 s0 aR ro r1 r2 r3 x0 x1 x2 x3 x4 c3 c4 c5 c6 c7 c8 t_ones t_twos t_settings t_tick t_energy t_valuesPut s_ring s_oldest c2 x_signs x_length x_position x_complete x_orders x_kinds x_numbers x_values) := k_Dm hD rfl
    refine lv_aload_n hx hb dX4_undo_29 rfl (lv_at hl 0 rfl) ?_
    refine va_get (D := (dC, dI)) (ci := 3) (v := .ref s0) (C := RX4) (T := TX4) (N := 4) hx hb hts iaX4 hown hK hP 0 rfl rfl 2 (by decide) (hts _ q154) (fun _ h9 => h9) rfl dX4_undo_30 ?_
    refine va_get (D := (dC, dI)) (ci := 1) (v := .int c2) (C := RX2) (T := TX2) (N := 3) hx hb hts iaX2 hown hK hP 9 rfl rfl 2 (by decide) (hts _ q128) (fun _ h9 => h9) rfl dX4_undo_33 ?_
    obtain ⟨e0, e1, e2, e3, e4, e5, e6, e7, e8⟩ := k_t9 h
    exact g_retT hx hb hr hlk (Nat.le_of_ble_eq_true rfl) (Nat.le_of_ble_eq_true rfl) hS e0 e1 (by rw [← e2, ← e3, ← e4, ← e5, ← e6, ← e7, ← e8]; exact hP) dX4_undo_36
  refine g_if_le (tgt := 14) hx hb dX4_undo_7 (by decide) h (fun h => ?_) (fun h => ?_)
  · refine lv_iconst (v := 0) hx hb dX4_undo_14 (by decide) ?_
    exact J15 0 _ _ _ h hP hS (lv_sub hl [0] rfl)
  · refine lv_iconst (v := 1) hx hb dX4_undo_10 (by decide) ?_
    refine lv_goto (tgt := 15) hx hb dX4_undo_11 (by decide) ?_
    exact J15 1 _ _ _ h hP hS (lv_sub hl [0] rfl)
def fX4_fuse (n_ones : Nat → Int32) (n_twos : Nat → Int32) (n_tick : Int32) (p1 : Int32) (p2 : Int32) (p3 : Int32) : Option (Nat × Int32) :=
  k_b1 (fX4_isIndex p1 20) fun (z1 : Int32) =>
  k_j1
  (fun (z2 : Int32) =>
    k_if (z2 = 0) (some (1, 0)) <|
    k_b1 (fX4_isIndex p3 3) fun (z3 : Int32) =>
    k_if (z3 = 0) (some (2, 0)) <|
    k_if (p3 = 0)
    (
      k_b1 (fX3_strength n_ones n_twos p1 p2) fun (z8 : Int32) =>
      some (0, z8))
    (
      k_j1
      (fun (z4 : Int32) =>
        k_b1 (fX3_readAt n_ones n_twos p1 n_tick z4) fun (z5 : Int32) =>
        k_let (z5 >>> (p2 &&& 31)) fun (z6 : Int32) =>
        k_let (z6 &&& 1) fun (z7 : Int32) =>
        some (0, z7))
      (fun K70 =>
      k_if (p3 = 2)
      (
        K70 1)
      (
        K70 0))))
  (fun K23 =>
  k_if (z1 = 0)
  (
    K23 0)
  (
    k_b1 (fX4_isIndex p2 16) fun (z9 : Int32) =>
    k_if (z9 = 0)
    (
      K23 0)
    (
      K23 1)))
theorem hdX4_fuse : yX4_fuse.cls = RX4 ∧ yX4_fuse.cls ≠ "java/lang/invoke/MethodHandle" ∧ yX4_fuse.cls ≠ "java/lang/invoke/VarHandle" ∧ (parseMethodDescriptor yX4_fuse.desc).map (fun d => d.parameters.length) = some 3 := by decide +kernel
set_option maxRecDepth 100000 in
set_option maxHeartbeats 4000000 in
theorem mX4_fuse (l : Launch) (dC : Nat → ClassId) (dI : Nat → Nat → Nat) (cyI cyC cyO : ClassId) (hl9 : l.stackTraces = false) (ad : Nat → Nat) (ob : Nat) (n0 : Nat) (n1 : Nat) (n2 : Nat) (n3 : Nat) (t0 : Nat) (t1 : Nat) (t2 : Nat) (t3 : Nat) (s0 : Nat) (aR : Nat) (ro : Nat → Nat) (r1 : Nat → Nat) (r2 : Nat → Nat) (r3 : Nat → Nat) (x0 : Nat) (x1 : Nat) (x2 : Nat) (x3 : Nat) (x4 : Nat) (n_ones : Nat → Int32) (n_twos : Nat → Int32) (n_settings : Nat → Int32) (n_tick : Int32) (n_energy : Int32) (n_valuesPut : Int32) (t_ones : Nat → Int32) (t_twos : Nat → Int32) (t_settings : Nat → Int32) (t_tick : Int32) (t_energy : Int32) (t_valuesPut : Int32) (s_ring : Nat → SV) (s_oldest : Int32) (s_count : Int32) (x_signs : Nat → Int32) (x_length : Int32) (x_position : Int32) (x_complete : Int32) (x_orders : Int32) (x_kinds : Nat → Int32) (x_numbers : Nat → Int32) (x_values : Nat → Int32) (p1 : Int32) (p2 : Int32) (p3 : Int32) {k : Nat} {r : Int32} (hf : fX4_fuse n_ones n_twos n_tick p1 p2 p3 = some (k, r)) : MetT l yX4_fuse cX4_fuse 4 (some .int) 7 102 2 12 [.ref ob, .int p1, .int p2, .int p3] (dC, dI) (tyS cyI cyC cyO) (wAll cyI cyC cyO ob n0 n1 n2 n3 t0 t1 t2 t3 s0 aR ro r1 r2 r3 x0 x1 x2 x3 x4 n_ones n_twos n_settings n_tick n_energy n_valuesPut t_ones t_twos t_settings t_tick t_energy t_valuesPut s_ring s_oldest s_count x_signs x_length x_position x_complete x_orders x_kinds x_numbers x_values) (wAll cyI cyC cyO ob n0 n1 n2 n3 t0 t1 t2 t3 s0 aR ro r1 r2 r3 x0 x1 x2 x3 x4 n_ones n_twos n_settings n_tick n_energy n_valuesPut t_ones t_twos t_settings t_tick t_energy t_valuesPut s_ring s_oldest s_count x_signs x_length x_position x_complete x_orders x_kinds x_numbers x_values) ad k r := by
  refine metT_of (by decide) (Nat.le_of_ble_eq_true rfl) ?_
  intro p e s m below meth c ls hC hr hlk hex hP hK hD hE hl
  have hC : CallFix p m c cX4_fuse 4 s [.ref ob, .int p1, .int p2, .int p3].toArray wA RX4 := hC
  obtain ⟨hx, hb, hml, hown, hts⟩ := id hC
  have hS : va_S (k_A (wAll cyI cyC cyO ob n0 n1 n2 n3 t0 t1 t2 t3 s0 aR ro r1 r2 r3 x0 x1 x2 x3 x4 n_ones n_twos n_settings n_tick n_energy n_valuesPut t_ones t_twos t_settings t_tick t_energy t_valuesPut s_ring s_oldest s_count x_signs x_length x_position x_complete x_orders x_kinds x_numbers x_values)) s.heap s.heap [] := va_S.rf
  have hl : lv_has ls 4 [(0, .ref ob), (1, .int p1), (2, .int p2), (3, .int p3)] := hl
  have h := hf
  unfold fX4_fuse at h
  obtain ⟨H, hH⟩ : ∃ H, H = s.heap := ⟨_, rfl⟩
  obtain ⟨locs, hlo⟩ : ∃ locs : List Loc, locs = [] := ⟨_, rfl⟩
  rw [← hH] at hP
  rw [← hlo] at hS
  have hS : va_S (k_A (wAll cyI cyC cyO ob n0 n1 n2 n3 t0 t1 t2 t3 s0 aR ro r1 r2 r3 x0 x1 x2 x3 x4 n_ones n_twos n_settings n_tick n_energy n_valuesPut t_ones t_twos t_settings t_tick t_energy t_valuesPut s_ring s_oldest s_count x_signs x_length x_position x_complete x_orders x_kinds x_numbers x_values)) s.heap H locs := by rw [hH]; exact hS
  show W p l e (k_rmx 7 102 2 12) s m [.ref ob, .int p1, .int p2, .int p3].toArray below meth c s.heap [] 0 0 _ _
  rw [← hlo, ← hH]
  refine lv_iload_n hx hb dX4_fuse_0 rfl (lv_at hl 1 rfl) ?_
  refine lv_bipush (v := 20) hx hb dX4_fuse_1 (by decide) ?_
  obtain ⟨z1, hc3, h⟩ := k_b1_e h
  refine g_callRI_S (As := [.int p1, .int 20]) (rest := []) hC (mX4_isIndex l dC dI cyI cyC cyO p1 20 hc3) q469 q470 q71 q471 2 hdX4_isIndex ⟨Nat.le_of_ble_eq_true rfl, Nat.le_of_ble_eq_true rfl⟩ ⟨Nat.le_of_ble_eq_true rfl, Nat.le_of_ble_eq_true rfl⟩ rfl rfl hl.1 (Nat.le_of_ble_eq_true rfl) va_P_nil hK hS dX4_fuse_3 (fun H locs hk hS => ?_)
  have hP := k_kept hP hk
  obtain ⟨K23, hK23, h⟩ := k_j1_e h
  have J23 : ∀ (z2 : Int32) (H : Heap) (locs : List Loc) (ls : Array Slot), K23 z2 = some (k, r) → va_P (dC, dI) vwCl (wAll cyI cyC cyO ob n0 n1 n2 n3 t0 t1 t2 t3 s0 aR ro r1 r2 r3 x0 x1 x2 x3 x4 n_ones n_twos n_settings n_tick n_energy n_valuesPut t_ones t_twos t_settings t_tick t_energy t_valuesPut s_ring s_oldest s_count x_signs x_length x_position x_complete x_orders x_kinds x_numbers x_values) H → va_S (k_A (wAll cyI cyC cyO ob n0 n1 n2 n3 t0 t1 t2 t3 s0 aR ro r1 r2 r3 x0 x1 x2 x3 x4 n_ones n_twos n_settings n_tick n_energy n_valuesPut t_ones t_twos t_settings t_tick t_energy t_valuesPut s_ring s_oldest s_count x_signs x_length x_position x_complete x_orders x_kinds x_numbers x_values)) s.heap H locs → lv_has ls 4 [(0, .ref ob), (1, .int p1), (2, .int p2), (3, .int p3)] → W p l e (k_rmx 7 102 2 12) s m [.ref ob, .int p1, .int p2, .int p3].toArray below meth c H locs 0 0 (vx_MQ below (qTI k r (dC, dI) (wAll cyI cyC cyO ob n0 n1 n2 n3 t0 t1 t2 t3 s0 aR ro r1 r2 r3 x0 x1 x2 x3 x4 n_ones n_twos n_settings n_tick n_energy n_valuesPut t_ones t_twos t_settings t_tick t_energy t_valuesPut s_ring s_oldest s_count x_signs x_length x_position x_complete x_orders x_kinds x_numbers x_values) (wAll cyI cyC cyO ob n0 n1 n2 n3 t0 t1 t2 t3 s0 aR ro r1 r2 r3 x0 x1 x2 x3 x4 n_ones n_twos n_settings n_tick n_energy n_valuesPut t_ones t_twos t_settings t_tick t_energy t_valuesPut s_ring s_oldest s_count x_signs x_length x_position x_complete x_orders x_kinds x_numbers x_values)) (qTX k (dC, dI) (wAll cyI cyC cyO ob n0 n1 n2 n3 t0 t1 t2 t3 s0 aR ro r1 r2 r3 x0 x1 x2 x3 x4 n_ones n_twos n_settings n_tick n_energy n_valuesPut t_ones t_twos t_settings t_tick t_energy t_valuesPut s_ring s_oldest s_count x_signs x_length x_position x_complete x_orders x_kinds x_numbers x_values) (wAll cyI cyC cyO ob n0 n1 n2 n3 t0 t1 t2 t3 s0 aR ro r1 r2 r3 x0 x1 x2 x3 x4 n_ones n_twos n_settings n_tick n_energy n_valuesPut t_ones t_twos t_settings t_tick t_energy t_valuesPut s_ring s_oldest s_count x_signs x_length x_position x_complete x_orders x_kinds x_numbers x_values)) [.ref ob, .int p1, .int p2, .int p3].toArray s 2 12 (k_A (wAll cyI cyC cyO ob n0 n1 n2 n3 t0 t1 t2 t3 s0 aR ro r1 r2 r3 x0 x1 x2 x3 x4 n_ones n_twos n_settings n_tick n_energy n_valuesPut t_ones t_twos t_settings t_tick t_energy t_valuesPut s_ring s_oldest s_count x_signs x_length x_position x_complete x_orders x_kinds x_numbers x_values))) (F0 m 23 ls [.int z2]) := by
    intro z2 H locs ls h hP hS hl
    have h := k_a1 hK23 h
    refine g_req hC hlk hex (mX4_requireIndex l hl9 ad z2) q472 q473 q71 q474 hdX4_requireIndex ⟨Nat.le_of_ble_eq_true rfl, Nat.le_of_ble_eq_true rfl⟩ ⟨Nat.le_of_ble_eq_true rfl, Nat.le_of_ble_eq_true rfl⟩ ⟨Nat.le_of_ble_eq_true rfl, Nat.le_of_ble_eq_true rfl⟩ hl.1 (Nat.le_of_ble_eq_true rfl) hS hE hP dX4_fuse_23 h (fun h => (k_t2 h).1) (fun H locs h hk hS => ?_) (fun _ => hP)
    have hP := k_kept hP hk
    refine lv_iload_n hx hb dX4_fuse_26 rfl (lv_at hl 3 rfl) ?_
    refine lv_iconst (v := 3) hx hb dX4_fuse_27 (by decide) ?_
    obtain ⟨z3, hc28, h⟩ := k_b1_e h
    refine g_callRI_S (As := [.int p3, .int 3]) (rest := []) hC (mX4_isIndex l dC dI cyI cyC cyO p3 3 hc28) q469 q470 q71 q471 2 hdX4_isIndex ⟨Nat.le_of_ble_eq_true rfl, Nat.le_of_ble_eq_true rfl⟩ ⟨Nat.le_of_ble_eq_true rfl, Nat.le_of_ble_eq_true rfl⟩ rfl rfl hl.1 (Nat.le_of_ble_eq_true rfl) va_P_nil hK hS dX4_fuse_28 (fun H locs hk hS => ?_)
    have hP := k_kept hP hk
    refine g_req hC hlk hex (mX4_requireArgument l hl9 ad z3) q513 q514 q71 q515 hdX4_requireArgument ⟨Nat.le_of_ble_eq_true rfl, Nat.le_of_ble_eq_true rfl⟩ ⟨Nat.le_of_ble_eq_true rfl, Nat.le_of_ble_eq_true rfl⟩ ⟨Nat.le_of_ble_eq_true rfl, Nat.le_of_ble_eq_true rfl⟩ hl.1 (Nat.le_of_ble_eq_true rfl) hS hE hP dX4_fuse_31 h (fun h => (k_t2 h).1) (fun H locs h hk hS => ?_) (fun _ => hP)
    have hP := k_kept hP hk
    refine lv_iload_n hx hb dX4_fuse_34 rfl (lv_at hl 3 rfl) ?_
    refine g_if_ne (tgt := 48) hx hb dX4_fuse_35 (by decide) h (fun h => ?_) (fun h => ?_)
    · refine lv_aload_n hx hb dX4_fuse_48 rfl (lv_at hl 0 rfl) ?_
      refine va_get (D := (dC, dI)) (ci := 3) (v := .ref n0) (C := RX4) (T := TX4) (N := 4) hx hb hts iaX4 hown hK hP 0 rfl rfl 0 (by decide) (hts _ q152) (fun _ h9 => h9) rfl dX4_fuse_49 ?_
      refine lv_iload_n hx hb dX4_fuse_52 rfl (lv_at hl 1 rfl) ?_
      refine lv_aload_n hx hb dX4_fuse_53 rfl (lv_at hl 0 rfl) ?_
      refine va_get (D := (dC, dI)) (ci := 3) (v := .ref n0) (C := RX4) (T := TX4) (N := 4) hx hb hts iaX4 hown hK hP 0 rfl rfl 0 (by decide) (hts _ q152) (fun _ h9 => h9) rfl dX4_fuse_54 ?_
      refine va_get (D := (dC, dI)) (ci := 2) (v := .int n_tick) (C := RX3) (T := TX3) (N := 6) hx hb hts iaX3 hown hK hP 1 rfl rfl 3 (by decide) (hts _ q111) (fun _ h9 => h9) rfl dX4_fuse_57 ?_
      refine lv_iload_n hx hb dX4_fuse_60 rfl (lv_at hl 3 rfl) ?_
      refine lv_iconst (v := 2) hx hb dX4_fuse_61 (by decide) ?_
      obtain ⟨K70, hK70, h⟩ := k_j1_e h
      have J70 : ∀ (z4 : Int32) (H : Heap) (locs : List Loc) (ls : Array Slot), K70 z4 = some (k, r) → va_P (dC, dI) vwCl (wAll cyI cyC cyO ob n0 n1 n2 n3 t0 t1 t2 t3 s0 aR ro r1 r2 r3 x0 x1 x2 x3 x4 n_ones n_twos n_settings n_tick n_energy n_valuesPut t_ones t_twos t_settings t_tick t_energy t_valuesPut s_ring s_oldest s_count x_signs x_length x_position x_complete x_orders x_kinds x_numbers x_values) H → va_S (k_A (wAll cyI cyC cyO ob n0 n1 n2 n3 t0 t1 t2 t3 s0 aR ro r1 r2 r3 x0 x1 x2 x3 x4 n_ones n_twos n_settings n_tick n_energy n_valuesPut t_ones t_twos t_settings t_tick t_energy t_valuesPut s_ring s_oldest s_count x_signs x_length x_position x_complete x_orders x_kinds x_numbers x_values)) s.heap H locs → lv_has ls 4 [(2, .int p2)] → W p l e (k_rmx 7 102 2 12) s m [.ref ob, .int p1, .int p2, .int p3].toArray below meth c H locs 2 12 (vx_MQ below (qTI k r (dC, dI) (wAll cyI cyC cyO ob n0 n1 n2 n3 t0 t1 t2 t3 s0 aR ro r1 r2 r3 x0 x1 x2 x3 x4 n_ones n_twos n_settings n_tick n_energy n_valuesPut t_ones t_twos t_settings t_tick t_energy t_valuesPut s_ring s_oldest s_count x_signs x_length x_position x_complete x_orders x_kinds x_numbers x_values) (wAll cyI cyC cyO ob n0 n1 n2 n3 t0 t1 t2 t3 s0 aR ro r1 r2 r3 x0 x1 x2 x3 x4 n_ones n_twos n_settings n_tick n_energy n_valuesPut t_ones t_twos t_settings t_tick t_energy t_valuesPut s_ring s_oldest s_count x_signs x_length x_position x_complete x_orders x_kinds x_numbers x_values)) (qTX k (dC, dI) (wAll cyI cyC cyO ob n0 n1 n2 n3 t0 t1 t2 t3 s0 aR ro r1 r2 r3 x0 x1 x2 x3 x4 n_ones n_twos n_settings n_tick n_energy n_valuesPut t_ones t_twos t_settings t_tick t_energy t_valuesPut s_ring s_oldest s_count x_signs x_length x_position x_complete x_orders x_kinds x_numbers x_values) (wAll cyI cyC cyO ob n0 n1 n2 n3 t0 t1 t2 t3 s0 aR ro r1 r2 r3 x0 x1 x2 x3 x4 n_ones n_twos n_settings n_tick n_energy n_valuesPut t_ones t_twos t_settings t_tick t_energy t_valuesPut s_ring s_oldest s_count x_signs x_length x_position x_complete x_orders x_kinds x_numbers x_values)) [.ref ob, .int p1, .int p2, .int p3].toArray s 2 12 (k_A (wAll cyI cyC cyO ob n0 n1 n2 n3 t0 t1 t2 t3 s0 aR ro r1 r2 r3 x0 x1 x2 x3 x4 n_ones n_twos n_settings n_tick n_energy n_valuesPut t_ones t_twos t_settings t_tick t_energy t_valuesPut s_ring s_oldest s_count x_signs x_length x_position x_complete x_orders x_kinds x_numbers x_values))) (F0 m 70 ls [.int z4, .int n_tick, .int p1, .ref n0]) := by
        intro z4 H locs ls h hP hS hl
        have h := k_a1 hK70 h
        obtain ⟨z5, hc70, h⟩ := k_b1_e h
        refine g_callRI_V (As := [.int p1, .int n_tick, .int z4]) (rest := []) hC (mX3_readAt l dC dI cyI cyC cyO n0 n1 n2 n3 n_ones n_twos n_settings n_tick n_energy n_valuesPut p1 n_tick z4 hc70) q653 q268 q269 q72 q270 3 hdX3_readAt ⟨Nat.le_of_ble_eq_true rfl, Nat.le_of_ble_eq_true rfl⟩ ⟨Nat.le_of_ble_eq_true rfl, Nat.le_of_ble_eq_true rfl⟩ rfl rfl hl.1 (Nat.le_of_ble_eq_true rfl) (hP.sub (ws' := (wX3 cyI cyC n0 n1 n2 n3 n_ones n_twos n_settings n_tick n_energy n_valuesPut)) [1, 2, 3, 4] rfl) hK (va_recv hK hP (ci := 2) (q0 := 1) rfl rfl) hS dX4_fuse_70 (fun H locs hk hS => ?_)
        have hP := k_kept hP hk
        refine lv_iload_n hx hb dX4_fuse_73 rfl (lv_at hl 0 rfl) ?_
        refine g_ishr hx hb dX4_fuse_74 h (fun z6 h => ?_)
        refine lv_iconst (v := 1) hx hb dX4_fuse_75 (by decide) ?_
        refine g_iand hx hb dX4_fuse_76 h (fun z7 h => ?_)
        obtain ⟨e0, e1⟩ := k_t2 h
        exact g_retT hx hb hr hlk (Nat.le_of_ble_eq_true rfl) (Nat.le_of_ble_eq_true rfl) hS e0 e1 hP dX4_fuse_77
      refine g_icmp_ne (tgt := 69) hx hb dX4_fuse_62 (by decide) h (fun h => ?_) (fun h => ?_)
      · refine lv_iconst (v := 0) hx hb dX4_fuse_69 (by decide) ?_
        exact J70 0 _ _ _ h hP hS (lv_sub hl [2] rfl)
      · refine lv_iconst (v := 1) hx hb dX4_fuse_65 (by decide) ?_
        refine lv_goto (tgt := 70) hx hb dX4_fuse_66 (by decide) ?_
        exact J70 1 _ _ _ h hP hS (lv_sub hl [2] rfl)
    · refine lv_aload_n hx hb dX4_fuse_38 rfl (lv_at hl 0 rfl) ?_
      refine va_get (D := (dC, dI)) (ci := 3) (v := .ref n0) (C := RX4) (T := TX4) (N := 4) hx hb hts iaX4 hown hK hP 0 rfl rfl 0 (by decide) (hts _ q152) (fun _ h9 => h9) rfl dX4_fuse_39 ?_
      refine lv_iload_n hx hb dX4_fuse_42 rfl (lv_at hl 1 rfl) ?_
      refine lv_iload_n hx hb dX4_fuse_43 rfl (lv_at hl 2 rfl) ?_
      obtain ⟨z8, hc44, h⟩ := k_b1_e h
      refine g_callRI_V (As := [.int p1, .int p2]) (rest := []) hC (mX3_strength l dC dI cyI cyC cyO n0 n1 n2 n3 n_ones n_twos n_settings n_tick n_energy n_valuesPut p1 p2 hc44) q354 q355 q356 q72 q357 2 hdX3_strength ⟨Nat.le_of_ble_eq_true rfl, Nat.le_of_ble_eq_true rfl⟩ ⟨Nat.le_of_ble_eq_true rfl, Nat.le_of_ble_eq_true rfl⟩ rfl rfl hl.1 (Nat.le_of_ble_eq_true rfl) (hP.sub (ws' := (wX3 cyI cyC n0 n1 n2 n3 n_ones n_twos n_settings n_tick n_energy n_valuesPut)) [1, 2, 3, 4] rfl) hK (va_recv hK hP (ci := 2) (q0 := 1) rfl rfl) hS dX4_fuse_44 (fun H locs hk hS => ?_)
      have hP := k_kept hP hk
      obtain ⟨e0, e1⟩ := k_t2 h
      exact g_retT hx hb hr hlk (Nat.le_of_ble_eq_true rfl) (Nat.le_of_ble_eq_true rfl) hS e0 e1 hP dX4_fuse_47
  refine g_if_eq (tgt := 22) hx hb dX4_fuse_6 (by decide) h (fun h => ?_) (fun h => ?_)
  · refine lv_iconst (v := 0) hx hb dX4_fuse_22 (by decide) ?_
    exact J23 0 _ _ _ h hP hS (lv_sub hl [0, 1, 2, 3] rfl)
  · refine lv_iload_n hx hb dX4_fuse_9 rfl (lv_at hl 2 rfl) ?_
    refine lv_bipush (v := 16) hx hb dX4_fuse_10 (by decide) ?_
    obtain ⟨z9, hc12, h⟩ := k_b1_e h
    refine g_callRI_S (As := [.int p2, .int 16]) (rest := []) hC (mX4_isIndex l dC dI cyI cyC cyO p2 16 hc12) q469 q470 q71 q471 2 hdX4_isIndex ⟨Nat.le_of_ble_eq_true rfl, Nat.le_of_ble_eq_true rfl⟩ ⟨Nat.le_of_ble_eq_true rfl, Nat.le_of_ble_eq_true rfl⟩ rfl rfl hl.1 (Nat.le_of_ble_eq_true rfl) va_P_nil hK hS dX4_fuse_12 (fun H locs hk hS => ?_)
    have hP := k_kept hP hk
    refine g_if_eq (tgt := 22) hx hb dX4_fuse_15 (by decide) h (fun h => ?_) (fun h => ?_)
    · refine lv_iconst (v := 0) hx hb dX4_fuse_22 (by decide) ?_
      exact J23 0 _ _ _ h hP hS (lv_sub hl [0, 1, 2, 3] rfl)
    · refine lv_iconst (v := 1) hx hb dX4_fuse_18 (by decide) ?_
      refine lv_goto (tgt := 23) hx hb dX4_fuse_19 (by decide) ?_
      exact J23 1 _ _ _ h hP hS (lv_sub hl [0, 1, 2, 3] rfl)
def fX4_rowProperty (n_ones : Nat → Int32) (n_twos : Nat → Int32) (n_settings : Nat → Int32) (n_tick : Int32) (p1 : Int32) (p2 : Int32) : Option (Int32) :=
  k_b1 (fX3_read n_ones n_twos n_settings n_tick p1) fun (z1 : Int32) =>
  k_if (p2 = 0)
  (
    some z1)
  (
    k_if (p2 = 1)
    (
      k_b1 (fX0_kindOf z1) fun (z2 : Int32) =>
      some z2)
    (
      k_if (p2 = 2)
      (
        k_b1 (fX0_keyOf z1) fun (z3 : Int32) =>
        some z3)
      (
        k_if (p2 = 3)
        (
          k_b1 (fX0_valueOf z1) fun (z4 : Int32) =>
          some z4)
        (
          k_if (p2 = 4)
          (
            k_b1 (fX0_checkOf z1) fun (z5 : Int32) =>
            some z5)
          (
            k_if (p2 = 5)
            (
              k_b1 (fX0_zerosOf z1) fun (z6 : Int32) =>
              some z6)
            (
              k_if (p2 = 6)
              (
                k_b1 (fX3_doubtfulFuses n_ones n_twos p1) fun (z7 : Int32) =>
                some z7)
              (
                k_if (p2 = 7)
                (
                  k_b1 (fX3_isLocked n_ones n_twos n_tick p1) fun (z8 : Int32) =>
                  k_if (z8 = 0)
                  (
                    some 0)
                  (
                    some 1))
                (
                  k_b1 (fX3_strengthSum n_ones n_twos p1) fun (z9 : Int32) =>
                  some z9))))))))
theorem hdX4_rowProperty : yX4_rowProperty.cls = RX4 ∧ yX4_rowProperty.cls ≠ "java/lang/invoke/MethodHandle" ∧ yX4_rowProperty.cls ≠ "java/lang/invoke/VarHandle" ∧ (parseMethodDescriptor yX4_rowProperty.desc).map (fun d => d.parameters.length) = some 2 := by decide +kernel
set_option maxRecDepth 100000 in
set_option maxHeartbeats 4000000 in
theorem mX4_rowProperty (l : Launch) (dC : Nat → ClassId) (dI : Nat → Nat → Nat) (cyI cyC cyO : ClassId) (ob : Nat) (n0 : Nat) (n1 : Nat) (n2 : Nat) (n3 : Nat) (t0 : Nat) (t1 : Nat) (t2 : Nat) (t3 : Nat) (s0 : Nat) (aR : Nat) (ro : Nat → Nat) (r1 : Nat → Nat) (r2 : Nat → Nat) (r3 : Nat → Nat) (x0 : Nat) (x1 : Nat) (x2 : Nat) (x3 : Nat) (x4 : Nat) (n_ones : Nat → Int32) (n_twos : Nat → Int32) (n_settings : Nat → Int32) (n_tick : Int32) (n_energy : Int32) (n_valuesPut : Int32) (t_ones : Nat → Int32) (t_twos : Nat → Int32) (t_settings : Nat → Int32) (t_tick : Int32) (t_energy : Int32) (t_valuesPut : Int32) (s_ring : Nat → SV) (s_oldest : Int32) (s_count : Int32) (x_signs : Nat → Int32) (x_length : Int32) (x_position : Int32) (x_complete : Int32) (x_orders : Int32) (x_kinds : Nat → Int32) (x_numbers : Nat → Int32) (x_values : Nat → Int32) (p1 : Int32) (p2 : Int32) {r : Int32} (hf : fX4_rowProperty n_ones n_twos n_settings n_tick p1 p2 = some r) : MetRI l yX4_rowProperty cX4_rowProperty 4 (some .int) 2 48 [.ref ob, .int p1, .int p2] (dC, dI) (tyS cyI cyC cyO) (wAll cyI cyC cyO ob n0 n1 n2 n3 t0 t1 t2 t3 s0 aR ro r1 r2 r3 x0 x1 x2 x3 x4 n_ones n_twos n_settings n_tick n_energy n_valuesPut t_ones t_twos t_settings t_tick t_energy t_valuesPut s_ring s_oldest s_count x_signs x_length x_position x_complete x_orders x_kinds x_numbers x_values) r := by
  refine metRI_of (by decide) (Nat.le_of_ble_eq_true rfl) ?_
  intro p e s m below meth c ls hC hr hlk hP hK hl
  have hC : CallFix p m c cX4_rowProperty 4 s [.ref ob, .int p1, .int p2].toArray wA RX4 := hC
  obtain ⟨hx, hb, hml, hown, hts⟩ := id hC
  have hS : va_S kF s.heap s.heap [] := va_S.rf
  have hl : lv_has ls 4 [(0, .ref ob), (1, .int p1), (2, .int p2)] := hl
  have h := hf
  unfold fX4_rowProperty at h
  obtain ⟨H, hH⟩ : ∃ H, H = s.heap := ⟨_, rfl⟩
  obtain ⟨locs, hlo⟩ : ∃ locs : List Loc, locs = [] := ⟨_, rfl⟩
  rw [← hH] at hP
  rw [← hlo] at hS
  have hS : va_S kF s.heap H locs := by rw [hH]; exact hS
  show W p l e (k_rm 2 48) s m [.ref ob, .int p1, .int p2].toArray below meth c s.heap [] 0 0 _ _
  rw [← hlo, ← hH]
  refine lv_aload_n hx hb dX4_rowProperty_0 rfl (lv_at hl 0 rfl) ?_
  refine va_get (D := (dC, dI)) (ci := 3) (v := .ref n0) (C := RX4) (T := TX4) (N := 4) hx hb hts iaX4 hown hK hP 0 rfl rfl 0 (by decide) (hts _ q152) (fun _ h9 => h9) rfl dX4_rowProperty_1 ?_
  refine lv_iload_n hx hb dX4_rowProperty_4 rfl (lv_at hl 1 rfl) ?_
  obtain ⟨z1, hc5, h⟩ := k_b1_e h
  refine g_callRI_V (As := [.int p1]) (rest := []) hC (mX3_read l dC dI cyI cyC cyO n0 n1 n2 n3 n_ones n_twos n_settings n_tick n_energy n_valuesPut p1 hc5) q340 q279 q280 q72 q281 1 hdX3_read ⟨Nat.le_of_ble_eq_true rfl, Nat.le_of_ble_eq_true rfl⟩ ⟨Nat.le_of_ble_eq_true rfl, Nat.le_of_ble_eq_true rfl⟩ rfl rfl hl.1 (Nat.le_of_ble_eq_true rfl) (hP.sub (ws' := (wX3 cyI cyC n0 n1 n2 n3 n_ones n_twos n_settings n_tick n_energy n_valuesPut)) [1, 2, 3, 4] rfl) hK (va_recv hK hP (ci := 2) (q0 := 1) rfl rfl) hS dX4_rowProperty_5 (fun H locs hk hS => ?_)
  have hP := k_kept hP hk
  refine lv_istore_n (lv' := [(3, .int z1), (0, .ref ob), (1, .int p1), (2, .int p2)]) hx hb dX4_rowProperty_8 rfl hl (by decide) rfl (fun ls hl => ?_)
  refine lv_iload_n hx hb dX4_rowProperty_9 rfl (lv_at hl 3 rfl) ?_
  refine g_arm (v := 0) (off := 46) (tgt := 56) hx hb dX4_rowProperty_10 (by decide) (by decide) (by decide +kernel) (by decide) h (fun _ h => ?_) (fun nq0 h => ?_)
  · refine lv_iload_n hx hb dX4_rowProperty_56 rfl (lv_at hl 0 rfl) ?_
    exact g_retRI hx hb hr hlk hS h dX4_rowProperty_57
  · skip
    refine g_arm (v := 1) (off := 48) (tgt := 58) hx hb dX4_rowProperty_10 (by decide) (by decide) (by decide +kernel) (by decide) h (fun _ h => ?_) (fun nq1 h => ?_)
    · refine lv_iload_n hx hb dX4_rowProperty_58 rfl (lv_at hl 0 rfl) ?_
      obtain ⟨z2, hc59, h⟩ := k_b1_e h
      refine g_callRI_S (As := [.int z1]) (rest := []) hC (mX0_kindOf l dC dI cyI cyC cyO z1 hc59) q341 q287 q84 q288 1 hdX0_kindOf ⟨Nat.le_of_ble_eq_true rfl, Nat.le_of_ble_eq_true rfl⟩ ⟨Nat.le_of_ble_eq_true rfl, Nat.le_of_ble_eq_true rfl⟩ rfl rfl hl.1 (Nat.le_of_ble_eq_true rfl) va_P_nil hK hS dX4_rowProperty_59 (fun H locs hk hS => ?_)
      have hP := k_kept hP hk
      exact g_retRI hx hb hr hlk hS h dX4_rowProperty_62
    · skip
      refine g_arm (v := 2) (off := 53) (tgt := 63) hx hb dX4_rowProperty_10 (by decide) (by decide) (by decide +kernel) (by decide) h (fun _ h => ?_) (fun nq2 h => ?_)
      · refine lv_iload_n hx hb dX4_rowProperty_63 rfl (lv_at hl 0 rfl) ?_
        obtain ⟨z3, hc64, h⟩ := k_b1_e h
        refine g_callRI_S (As := [.int z1]) (rest := []) hC (mX0_keyOf l dC dI cyI cyC cyO z1 hc64) q342 q326 q84 q327 1 hdX0_keyOf ⟨Nat.le_of_ble_eq_true rfl, Nat.le_of_ble_eq_true rfl⟩ ⟨Nat.le_of_ble_eq_true rfl, Nat.le_of_ble_eq_true rfl⟩ rfl rfl hl.1 (Nat.le_of_ble_eq_true rfl) va_P_nil hK hS dX4_rowProperty_64 (fun H locs hk hS => ?_)
        have hP := k_kept hP hk
        exact g_retRI hx hb hr hlk hS h dX4_rowProperty_67
      · skip
        refine g_arm (v := 3) (off := 58) (tgt := 68) hx hb dX4_rowProperty_10 (by decide) (by decide) (by decide +kernel) (by decide) h (fun _ h => ?_) (fun nq3 h => ?_)
        · refine lv_iload_n hx hb dX4_rowProperty_68 rfl (lv_at hl 0 rfl) ?_
          obtain ⟨z4, hc69, h⟩ := k_b1_e h
          refine g_callRI_S (As := [.int z1]) (rest := []) hC (mX0_valueOf l dC dI cyI cyC cyO z1 hc69) q343 q344 q84 q345 1 hdX0_valueOf ⟨Nat.le_of_ble_eq_true rfl, Nat.le_of_ble_eq_true rfl⟩ ⟨Nat.le_of_ble_eq_true rfl, Nat.le_of_ble_eq_true rfl⟩ rfl rfl hl.1 (Nat.le_of_ble_eq_true rfl) va_P_nil hK hS dX4_rowProperty_69 (fun H locs hk hS => ?_)
          have hP := k_kept hP hk
          exact g_retRI hx hb hr hlk hS h dX4_rowProperty_72
        · skip
          refine g_arm (v := 4) (off := 63) (tgt := 73) hx hb dX4_rowProperty_10 (by decide) (by decide) (by decide +kernel) (by decide) h (fun _ h => ?_) (fun nq4 h => ?_)
          · refine lv_iload_n hx hb dX4_rowProperty_73 rfl (lv_at hl 0 rfl) ?_
            obtain ⟨z5, hc74, h⟩ := k_b1_e h
            refine g_callRI_S (As := [.int z1]) (rest := []) hC (mX0_checkOf l dC dI cyI cyC cyO z1 hc74) q346 q291 q84 q292 1 hdX0_checkOf ⟨Nat.le_of_ble_eq_true rfl, Nat.le_of_ble_eq_true rfl⟩ ⟨Nat.le_of_ble_eq_true rfl, Nat.le_of_ble_eq_true rfl⟩ rfl rfl hl.1 (Nat.le_of_ble_eq_true rfl) va_P_nil hK hS dX4_rowProperty_74 (fun H locs hk hS => ?_)
            have hP := k_kept hP hk
            exact g_retRI hx hb hr hlk hS h dX4_rowProperty_77
          · skip
            refine g_arm (v := 5) (off := 68) (tgt := 78) hx hb dX4_rowProperty_10 (by decide) (by decide) (by decide +kernel) (by decide) h (fun _ h => ?_) (fun nq5 h => ?_)
            · refine lv_iload_n hx hb dX4_rowProperty_78 rfl (lv_at hl 0 rfl) ?_
              obtain ⟨z6, hc79, h⟩ := k_b1_e h
              refine g_callRI_S (As := [.int z1]) (rest := []) hC (mX0_zerosOf l dC dI cyI cyC cyO z1 hc79) q347 q348 q84 q349 1 hdX0_zerosOf ⟨Nat.le_of_ble_eq_true rfl, Nat.le_of_ble_eq_true rfl⟩ ⟨Nat.le_of_ble_eq_true rfl, Nat.le_of_ble_eq_true rfl⟩ rfl rfl hl.1 (Nat.le_of_ble_eq_true rfl) va_P_nil hK hS dX4_rowProperty_79 (fun H locs hk hS => ?_)
              have hP := k_kept hP hk
              exact g_retRI hx hb hr hlk hS h dX4_rowProperty_82
            · skip
              refine g_arm (v := 6) (off := 73) (tgt := 83) hx hb dX4_rowProperty_10 (by decide) (by decide) (by decide +kernel) (by decide) h (fun _ h => ?_) (fun nq6 h => ?_)
              · refine lv_aload_n hx hb dX4_rowProperty_83 rfl (lv_at hl 1 rfl) ?_
                refine va_get (D := (dC, dI)) (ci := 3) (v := .ref n0) (C := RX4) (T := TX4) (N := 4) hx hb hts iaX4 hown hK hP 0 rfl rfl 0 (by decide) (hts _ q152) (fun _ h9 => h9) rfl dX4_rowProperty_84 ?_
                refine lv_iload_n hx hb dX4_rowProperty_87 rfl (lv_at hl 2 rfl) ?_
                obtain ⟨z7, hc88, h⟩ := k_b1_e h
                refine g_callRI_V (As := [.int p1]) (rest := []) hC (mX3_doubtfulFuses l dC dI cyI cyC cyO n0 n1 n2 n3 n_ones n_twos n_settings n_tick n_energy n_valuesPut p1 hc88) q253 q254 q255 q72 q256 1 hdX3_doubtfulFuses ⟨Nat.le_of_ble_eq_true rfl, Nat.le_of_ble_eq_true rfl⟩ ⟨Nat.le_of_ble_eq_true rfl, Nat.le_of_ble_eq_true rfl⟩ rfl rfl hl.1 (Nat.le_of_ble_eq_true rfl) (hP.sub (ws' := (wX3 cyI cyC n0 n1 n2 n3 n_ones n_twos n_settings n_tick n_energy n_valuesPut)) [1, 2, 3, 4] rfl) hK (va_recv hK hP (ci := 2) (q0 := 1) rfl rfl) hS dX4_rowProperty_88 (fun H locs hk hS => ?_)
                have hP := k_kept hP hk
                exact g_retRI hx hb hr hlk hS h dX4_rowProperty_91
              · skip
                refine g_arm (v := 7) (off := 82) (tgt := 92) hx hb dX4_rowProperty_10 (by decide) (by decide) (by decide +kernel) (by decide) h (fun _ h => ?_) (fun nq7 h => ?_)
                · refine lv_aload_n hx hb dX4_rowProperty_92 rfl (lv_at hl 1 rfl) ?_
                  refine va_get (D := (dC, dI)) (ci := 3) (v := .ref n0) (C := RX4) (T := TX4) (N := 4) hx hb hts iaX4 hown hK hP 0 rfl rfl 0 (by decide) (hts _ q152) (fun _ h9 => h9) rfl dX4_rowProperty_93 ?_
                  refine lv_iload_n hx hb dX4_rowProperty_96 rfl (lv_at hl 2 rfl) ?_
                  obtain ⟨z8, hc97, h⟩ := k_b1_e h
                  refine g_callRI_V (As := [.int p1]) (rest := []) hC (mX3_isLocked l dC dI cyI cyC cyO n0 n1 n2 n3 n_ones n_twos n_settings n_tick n_energy n_valuesPut p1 hc97) q263 q264 q265 q72 q266 1 hdX3_isLocked ⟨Nat.le_of_ble_eq_true rfl, Nat.le_of_ble_eq_true rfl⟩ ⟨Nat.le_of_ble_eq_true rfl, Nat.le_of_ble_eq_true rfl⟩ rfl rfl hl.1 (Nat.le_of_ble_eq_true rfl) (hP.sub (ws' := (wX3 cyI cyC n0 n1 n2 n3 n_ones n_twos n_settings n_tick n_energy n_valuesPut)) [1, 2, 3, 4] rfl) hK (va_recv hK hP (ci := 2) (q0 := 1) rfl rfl) hS dX4_rowProperty_97 (fun H locs hk hS => ?_)
                  have hP := k_kept hP hk
                  refine g_if_eq (tgt := 107) hx hb dX4_rowProperty_100 (by decide) h (fun h => ?_) (fun h => ?_)
                  · refine lv_iconst (v := 0) hx hb dX4_rowProperty_107 (by decide) ?_
                    exact g_retRI hx hb hr hlk hS h dX4_rowProperty_108
                  · refine lv_iconst (v := 1) hx hb dX4_rowProperty_103 (by decide) ?_
                    refine lv_goto (tgt := 108) hx hb dX4_rowProperty_104 (by decide) ?_
                    exact g_retRI hx hb hr hlk hS h dX4_rowProperty_108
                · skip
                  refine lv_tableOut (tgt := 109) hx hb dX4_rowProperty_10 (by have zq0 := g_ne (z := 0) (by decide) nq0; have zq1 := g_ne (z := 1) (by decide) nq1; have zq2 := g_ne (z := 2) (by decide) nq2; have zq3 := g_ne (z := 3) (by decide) nq3; have zq4 := g_ne (z := 4) (by decide) nq4; have zq5 := g_ne (z := 5) (by decide) nq5; have zq6 := g_ne (z := 6) (by decide) nq6; have zq7 := g_ne (z := 7) (by decide) nq7; omega) (by decide) ?_
                  refine lv_aload_n hx hb dX4_rowProperty_109 rfl (lv_at hl 1 rfl) ?_
                  refine va_get (D := (dC, dI)) (ci := 3) (v := .ref n0) (C := RX4) (T := TX4) (N := 4) hx hb hts iaX4 hown hK hP 0 rfl rfl 0 (by decide) (hts _ q152) (fun _ h9 => h9) rfl dX4_rowProperty_110 ?_
                  refine lv_iload_n hx hb dX4_rowProperty_113 rfl (lv_at hl 2 rfl) ?_
                  obtain ⟨z9, hc114, h⟩ := k_b1_e h
                  refine g_callRI_V (As := [.int p1]) (rest := []) hC (mX3_strengthSum l dC dI cyI cyC cyO n0 n1 n2 n3 n_ones n_twos n_settings n_tick n_energy n_valuesPut p1 hc114) q350 q351 q352 q72 q353 1 hdX3_strengthSum ⟨Nat.le_of_ble_eq_true rfl, Nat.le_of_ble_eq_true rfl⟩ ⟨Nat.le_of_ble_eq_true rfl, Nat.le_of_ble_eq_true rfl⟩ rfl rfl hl.1 (Nat.le_of_ble_eq_true rfl) (hP.sub (ws' := (wX3 cyI cyC n0 n1 n2 n3 n_ones n_twos n_settings n_tick n_energy n_valuesPut)) [1, 2, 3, 4] rfl) hK (va_recv hK hP (ci := 2) (q0 := 1) rfl rfl) hS dX4_rowProperty_114 (fun H locs hk hS => ?_)
                  have hP := k_kept hP hk
                  exact g_retRI hx hb hr hlk hS h dX4_rowProperty_117
