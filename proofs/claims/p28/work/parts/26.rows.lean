def fX4_undo (n_ones : Nat → Int32) (n_twos : Nat → Int32) (n_settings : Nat → Int32) (n_tick : Int32) (n_energy : Int32) (n_valuesPut : Int32) (s_ring : Nat → SV) (s_oldest : Int32) (s_count : Int32) : Option (Int32 × (Nat → Int32) × (Nat → Int32) × (Nat → Int32) × Int32 × Int32 × Int32 × Int32) :=
  k_j1
  (fun (z1 : Int32) =>
    k_if (z1 = 0) none <|
    k_b7 (fX2_restore s_ring s_oldest s_count n_ones n_twos n_settings n_tick n_energy n_valuesPut) fun (c2 : Int32) (c3 : Nat → Int32) (c4 : Nat → Int32) (c5 : Nat → Int32) (c6 : Int32) (c7 : Int32) (c8 : Int32) =>
    some (c2, c3, c4, c5, c6, c7, c8, c2))
  (fun K15 =>
  k_if (s_count ≤ 0)
  (
    K15 0)
  (
    K15 1))
theorem hdX4_undo : yX4_undo.cls = RX4 ∧ yX4_undo.cls ≠ "java/lang/invoke/MethodHandle" ∧ yX4_undo.cls ≠ "java/lang/invoke/VarHandle" ∧ (parseMethodDescriptor yX4_undo.desc).map (fun d => d.parameters.length) = some 0 := by decide +kernel
set_option maxRecDepth 100000 in
set_option maxHeartbeats 4000000 in
theorem mX4_undo (l : Launch) (dC : Nat → ClassId) (dI : Nat → Nat → Nat) (cyI cyC cyO : ClassId) (ob : Nat) (n0 : Nat) (n1 : Nat) (n2 : Nat) (n3 : Nat) (t0 : Nat) (t1 : Nat) (t2 : Nat) (t3 : Nat) (s0 : Nat) (aR : Nat) (ro : Nat → Nat) (r1 : Nat → Nat) (r2 : Nat → Nat) (r3 : Nat → Nat) (x0 : Nat) (x1 : Nat) (x2 : Nat) (x3 : Nat) (x4 : Nat) (n_ones : Nat → Int32) (n_twos : Nat → Int32) (n_settings : Nat → Int32) (n_tick : Int32) (n_energy : Int32) (n_valuesPut : Int32) (t_ones : Nat → Int32) (t_twos : Nat → Int32) (t_settings : Nat → Int32) (t_tick : Int32) (t_energy : Int32) (t_valuesPut : Int32) (s_ring : Nat → SV) (s_oldest : Int32) (s_count : Int32) (x_signs : Nat → Int32) (x_length : Int32) (x_position : Int32) (x_complete : Int32) (x_orders : Int32) (x_kinds : Nat → Int32) (x_numbers : Nat → Int32) (x_values : Nat → Int32)  {r : Int32} {r_n_ones : Nat → Int32} {r_n_twos : Nat → Int32} {r_n_settings : Nat → Int32} {r_n_tick : Int32} {r_n_energy : Int32} {r_n_valuesPut : Int32} {r_s_count : Int32} (hf : fX4_undo n_ones n_twos n_settings n_tick n_energy n_valuesPut s_ring s_oldest s_count = some (r, r_n_ones, r_n_twos, r_n_settings, r_n_tick, r_n_energy, r_n_valuesPut, r_s_count)) : MetMI l yX4_undo cX4_undo 1 (some .int) 3 68 [.ref ob] (dC, dI) (tyS cyI cyC cyO) (wAll cyI cyC cyO ob n0 n1 n2 n3 t0 t1 t2 t3 s0 aR ro r1 r2 r3 x0 x1 x2 x3 x4 n_ones n_twos n_settings n_tick n_energy n_valuesPut t_ones t_twos t_settings t_tick t_energy t_valuesPut s_ring s_oldest s_count x_signs x_length x_position x_complete x_orders x_kinds x_numbers x_values) (wAll cyI cyC cyO ob n0 n1 n2 n3 t0 t1 t2 t3 s0 aR ro r1 r2 r3 x0 x1 x2 x3 x4 r_n_ones r_n_twos r_n_settings r_n_tick r_n_energy r_n_valuesPut t_ones t_twos t_settings t_tick t_energy t_valuesPut s_ring s_oldest r_s_count x_signs x_length x_position x_complete x_orders x_kinds x_numbers x_values) r := by
  refine metMI_of (by decide) (Nat.le_of_ble_eq_true rfl) ?_
  intro p e s m below meth c ls hC hr hlk hP hK hD hl
  have hC : CallFix p m c cX4_undo 1 s [.ref ob].toArray wA RX4 := hC
  obtain ⟨hx, hb, hml, hown, hts⟩ := id hC
  have hS : va_S (k_A (wAll cyI cyC cyO ob n0 n1 n2 n3 t0 t1 t2 t3 s0 aR ro r1 r2 r3 x0 x1 x2 x3 x4 n_ones n_twos n_settings n_tick n_energy n_valuesPut t_ones t_twos t_settings t_tick t_energy t_valuesPut s_ring s_oldest s_count x_signs x_length x_position x_complete x_orders x_kinds x_numbers x_values)) s.heap s.heap [] := va_S.rf
  have hl : lv_has ls 1 [(0, .ref ob)] := hl
  have h := hf
  unfold fX4_undo at h
  obtain ⟨H, hH⟩ : ∃ H, H = s.heap := ⟨_, rfl⟩
  obtain ⟨locs, hlo⟩ : ∃ locs : List Loc, locs = [] := ⟨_, rfl⟩
  rw [← hH] at hP
  rw [← hlo] at hS
  have hS : va_S (k_A (wAll cyI cyC cyO ob n0 n1 n2 n3 t0 t1 t2 t3 s0 aR ro r1 r2 r3 x0 x1 x2 x3 x4 n_ones n_twos n_settings n_tick n_energy n_valuesPut t_ones t_twos t_settings t_tick t_energy t_valuesPut s_ring s_oldest s_count x_signs x_length x_position x_complete x_orders x_kinds x_numbers x_values)) s.heap H locs := by rw [hH]; exact hS
  show W p l e (k_rm 3 68) s m [.ref ob].toArray below meth c s.heap [] 0 0 _ _
  rw [← hlo, ← hH]
  refine lv_aload_n hx hb dX4_undo_0 rfl (lv_at hl 0 rfl) ?_
  refine va_get (D := (dC, dI)) (ci := 3) (v := .ref s0) (C := RX4) (T := TX4) (N := 4) hx hb hts iaX4 hown hK hP 0 rfl rfl 2 (by decide) (hts _ q74) (fun _ h9 => h9) rfl dX4_undo_1 ?_
  refine va_get (D := (dC, dI)) (ci := 1) (v := .int s_count) (C := RX2) (T := TX2) (N := 3) hx hb hts iaX2 hown hK hP 9 rfl rfl 2 (by decide) (hts _ q60) (fun _ h9 => h9) rfl dX4_undo_4 ?_
  obtain ⟨K15, hK15, h⟩ := k_j1_e h
  have J15 : ∀ (z1 : Int32) (H : Heap) (locs : List Loc) (ls : Array Slot), K15 z1 = some (r, r_n_ones, r_n_twos, r_n_settings, r_n_tick, r_n_energy, r_n_valuesPut, r_s_count) → va_P (dC, dI) vwCl (wAll cyI cyC cyO ob n0 n1 n2 n3 t0 t1 t2 t3 s0 aR ro r1 r2 r3 x0 x1 x2 x3 x4 n_ones n_twos n_settings n_tick n_energy n_valuesPut t_ones t_twos t_settings t_tick t_energy t_valuesPut s_ring s_oldest s_count x_signs x_length x_position x_complete x_orders x_kinds x_numbers x_values) H → va_S (k_A (wAll cyI cyC cyO ob n0 n1 n2 n3 t0 t1 t2 t3 s0 aR ro r1 r2 r3 x0 x1 x2 x3 x4 n_ones n_twos n_settings n_tick n_energy n_valuesPut t_ones t_twos t_settings t_tick t_energy t_valuesPut s_ring s_oldest s_count x_signs x_length x_position x_complete x_orders x_kinds x_numbers x_values)) s.heap H locs → lv_has ls 1 [(0, .ref ob)] → W p l e (k_rm 3 68) s m [.ref ob].toArray below meth c H locs 0 0 (MQ below (qMI r (dC, dI) (wAll cyI cyC cyO ob n0 n1 n2 n3 t0 t1 t2 t3 s0 aR ro r1 r2 r3 x0 x1 x2 x3 x4 n_ones n_twos n_settings n_tick n_energy n_valuesPut t_ones t_twos t_settings t_tick t_energy t_valuesPut s_ring s_oldest s_count x_signs x_length x_position x_complete x_orders x_kinds x_numbers x_values) (wAll cyI cyC cyO ob n0 n1 n2 n3 t0 t1 t2 t3 s0 aR ro r1 r2 r3 x0 x1 x2 x3 x4 r_n_ones r_n_twos r_n_settings r_n_tick r_n_energy r_n_valuesPut t_ones t_twos t_settings t_tick t_energy t_valuesPut s_ring s_oldest r_s_count x_signs x_length x_position x_complete x_orders x_kinds x_numbers x_values)) [.ref ob].toArray s 0 0 (k_A (wAll cyI cyC cyO ob n0 n1 n2 n3 t0 t1 t2 t3 s0 aR ro r1 r2 r3 x0 x1 x2 x3 x4 n_ones n_twos n_settings n_tick n_energy n_valuesPut t_ones t_twos t_settings t_tick t_energy t_valuesPut s_ring s_oldest s_count x_signs x_length x_position x_complete x_orders x_kinds x_numbers x_values))) (F0 m 15 ls [.int z1]) := by
    intro z1 H locs ls h hP hS hl
    have h := k_a1 hK15 h
    obtain ⟨hv, h⟩ := k_req_e h
    refine g_callRV_S (As := [.int z1]) (rest := []) hC (mX4_requireState l (dC, dI) (tyS cyI cyC cyO) z1 hv) q200 q201 q8 q202 1 hdX4_requireState ⟨Nat.le_of_ble_eq_true rfl, Nat.le_of_ble_eq_true rfl⟩ ⟨Nat.le_of_ble_eq_true rfl, Nat.le_of_ble_eq_true rfl⟩ rfl rfl hl.1 (Nat.le_of_ble_eq_true rfl) va_P_nil hK hS dX4_undo_15 (fun H locs hk hS => ?_)
    have hP := k_kept hP hk
    refine lv_aload_n hx hb dX4_undo_18 rfl (lv_at hl 0 rfl) ?_
    refine va_get (D := (dC, dI)) (ci := 3) (v := .ref s0) (C := RX4) (T := TX4) (N := 4) hx hb hts iaX4 hown hK hP 0 rfl rfl 2 (by decide) (hts _ q74) (fun _ h9 => h9) rfl dX4_undo_19 ?_
    refine lv_aload_n hx hb dX4_undo_22 rfl (lv_at hl 0 rfl) ?_
    refine va_get (D := (dC, dI)) (ci := 3) (v := .ref n0) (C := RX4) (T := TX4) (N := 4) hx hb hts iaX4 hown hK hP 0 rfl rfl 0 (by decide) (hts _ q72) (fun _ h9 => h9) rfl dX4_undo_23 ?_
    obtain ⟨c2, c3, c4, c5, c6, c7, c8, hc26, h⟩ := k_b7_e h
    refine g_callMV_V (As := [.ref n0]) (rest := []) hC (mX2_restore l dC dI cyI cyC cyO s0 aR ro r1 r2 r3 n0 n1 n2 n3 s_ring s_oldest s_count n_ones n_twos n_settings n_tick n_energy n_valuesPut hc26) q417 q418 q419 q10 q420 1 hdX2_restore ⟨Nat.le_of_ble_eq_true rfl, Nat.le_of_ble_eq_true rfl⟩ ⟨Nat.le_of_ble_eq_true rfl, Nat.le_of_ble_eq_true rfl⟩ rfl rfl hl.1 (Nat.le_of_ble_eq_true rfl) (hP.sub (ws' := (wX2 cyI cyC cyO s0 aR ro r1 r2 r3 s_ring s_oldest s_count) ++ (wX3 cyI cyC n0 n1 n2 n3 n_ones n_twos n_settings n_tick n_energy n_valuesPut)) [9, 10, 11, 12, 13, 14, 15, 16, 17, 18, 19, 20, 21, 22, 23, 24, 25, 26, 27, 28, 29, 30, 31, 32, 33, 34, 1, 2, 3, 4] rfl) hK (hD.sub (ws' := (wX2 cyI cyC cyO s0 aR ro r1 r2 r3 s_ring s_oldest s_count) ++ (wX3 cyI cyC n0 n1 n2 n3 n_ones n_twos n_settings n_tick n_energy n_valuesPut)) [9, 10, 11, 12, 13, 14, 15, 16, 17, 18, 19, 20, 21, 22, 23, 24, 25, 26, 27, 28, 29, 30, 31, 32, 33, 34, 1, 2, 3, 4] (by decide) rfl) (va_recv hK hP (ci := 1) (q0 := 9) rfl rfl) hS dX4_undo_26 (fun H locs hPn hk hS => ?_)
    have hP : va_P (dC, dI) vwCl (wAll cyI cyC cyO ob n0 n1 n2 n3 t0 t1 t2 t3 s0 aR ro r1 r2 r3 x0 x1 x2 x3 x4 c3 c4 c5 c6 c7 c8 t_ones t_twos t_settings t_tick t_energy t_valuesPut s_ring s_oldest c2 x_signs x_length x_position x_complete x_orders x_kinds x_numbers x_values) H := k_repl hP hD [9, 10, 11, 12, 13, 14, 15, 16, 17, 18, 19, 20, 21, 22, 23, 24, 25, 26, 27, 28, 29, 30, 31, 32, 33, 34, 1, 2, 3, 4] rfl hk hPn [.inl 0, .inr 26, .inr 27, .inr 28, .inr 29, .inl 5, .inl 6, .inl 7, .inl 8, .inr 0, .inr 1, .inr 2, .inr 3, .inr 4, .inr 5, .inr 6, .inr 7, .inr 8, .inr 9, .inr 10, .inr 11, .inr 12, .inr 13, .inr 14, .inr 15, .inr 16, .inr 17, .inr 18, .inr 19, .inr 20, .inr 21, .inr 22, .inr 23, .inr 24, .inr 25, .inl 35, .inl 36, .inl 37, .inl 38, .inl 39] rfl (by decide)
    have hD : va_D (k_A (wAll cyI cyC cyO ob n0 n1 n2 n3 t0 t1 t2 t3 s0 aR ro r1 r2 r3 x0 x1 x2 x3 x4 n_ones n_twos n_settings n_tick n_energy n_valuesPut t_ones t_twos t_settings t_tick t_energy t_valuesPut s_ring s_oldest s_count x_signs x_length x_position x_complete x_orders x_kinds x_numbers x_values)) (wAll cyI cyC cyO ob n0 n1 n2 n3 t0 t1 t2 t3 s0 aR ro r1 r2 r3 x0 x1 x2 x3 x4 c3 c4 c5 c6 c7 c8 t_ones t_twos t_settings t_tick t_energy t_valuesPut s_ring s_oldest c2 x_signs x_length x_position x_complete x_orders x_kinds x_numbers x_values) := k_Dm hD rfl
    refine lv_aload_n hx hb dX4_undo_29 rfl (lv_at hl 0 rfl) ?_
    refine va_get (D := (dC, dI)) (ci := 3) (v := .ref s0) (C := RX4) (T := TX4) (N := 4) hx hb hts iaX4 hown hK hP 0 rfl rfl 2 (by decide) (hts _ q74) (fun _ h9 => h9) rfl dX4_undo_30 ?_
    refine va_get (D := (dC, dI)) (ci := 1) (v := .int c2) (C := RX2) (T := TX2) (N := 3) hx hb hts iaX2 hown hK hP 9 rfl rfl 2 (by decide) (hts _ q60) (fun _ h9 => h9) rfl dX4_undo_33 ?_
    obtain ⟨e0, e1, e2, e3, e4, e5, e6, e7⟩ := k_t8 h
    exact g_retMI hx hb hr hlk hS e0 (by rw [← e1, ← e2, ← e3, ← e4, ← e5, ← e6, ← e7]; exact hP) dX4_undo_36
  refine g_if_le (tgt := 14) hx hb dX4_undo_7 (by decide) h (fun h => ?_) (fun h => ?_)
  · refine lv_iconst (v := 0) hx hb dX4_undo_14 (by decide) ?_
    exact J15 0 _ _ _ h hP hS (lv_sub hl [0] rfl)
  · refine lv_iconst (v := 1) hx hb dX4_undo_10 (by decide) ?_
    refine lv_goto (tgt := 15) hx hb dX4_undo_11 (by decide) ?_
    exact J15 1 _ _ _ h hP hS (lv_sub hl [0] rfl)
def fX4_fuse (n_ones : Nat → Int32) (n_twos : Nat → Int32) (n_tick : Int32) (p1 : Int32) (p2 : Int32) (p3 : Int32) : Option (Int32) :=
  k_b1 (fX4_isIndex p1 20) fun (z1 : Int32) =>
  k_j1
  (fun (z2 : Int32) =>
    k_if (z2 = 0) none <|
    k_b1 (fX4_isIndex p3 3) fun (z3 : Int32) =>
    k_if (z3 = 0) none <|
    k_if (p3 = 0)
    (
      k_b1 (fX3_strength n_ones n_twos p1 p2) fun (z8 : Int32) =>
      some z8)
    (
      k_j1
      (fun (z4 : Int32) =>
        k_b1 (fX3_readAt n_ones n_twos p1 n_tick z4) fun (z5 : Int32) =>
        k_let (z5 >>> (p2 &&& 31)) fun (z6 : Int32) =>
        k_let (z6 &&& 1) fun (z7 : Int32) =>
        some z7)
      (fun K70 =>
      k_if (p3 = 2)
      (
        K70 1)
      (
        K70 0))))
  (fun K23 =>
  k_if (z1 = 0)
  (
    K23 0)
  (
    k_b1 (fX4_isIndex p2 16) fun (z9 : Int32) =>
    k_if (z9 = 0)
    (
      K23 0)
    (
      K23 1)))
theorem hdX4_fuse : yX4_fuse.cls = RX4 ∧ yX4_fuse.cls ≠ "java/lang/invoke/MethodHandle" ∧ yX4_fuse.cls ≠ "java/lang/invoke/VarHandle" ∧ (parseMethodDescriptor yX4_fuse.desc).map (fun d => d.parameters.length) = some 3 := by decide +kernel
set_option maxRecDepth 100000 in
set_option maxHeartbeats 4000000 in
theorem mX4_fuse (l : Launch) (dC : Nat → ClassId) (dI : Nat → Nat → Nat) (cyI cyC cyO : ClassId) (ob : Nat) (n0 : Nat) (n1 : Nat) (n2 : Nat) (n3 : Nat) (t0 : Nat) (t1 : Nat) (t2 : Nat) (t3 : Nat) (s0 : Nat) (aR : Nat) (ro : Nat → Nat) (r1 : Nat → Nat) (r2 : Nat → Nat) (r3 : Nat → Nat) (x0 : Nat) (x1 : Nat) (x2 : Nat) (x3 : Nat) (x4 : Nat) (n_ones : Nat → Int32) (n_twos : Nat → Int32) (n_settings : Nat → Int32) (n_tick : Int32) (n_energy : Int32) (n_valuesPut : Int32) (t_ones : Nat → Int32) (t_twos : Nat → Int32) (t_settings : Nat → Int32) (t_tick : Int32) (t_energy : Int32) (t_valuesPut : Int32) (s_ring : Nat → SV) (s_oldest : Int32) (s_count : Int32) (x_signs : Nat → Int32) (x_length : Int32) (x_position : Int32) (x_complete : Int32) (x_orders : Int32) (x_kinds : Nat → Int32) (x_numbers : Nat → Int32) (x_values : Nat → Int32) (p1 : Int32) (p2 : Int32) (p3 : Int32) {r : Int32} (hf : fX4_fuse n_ones n_twos n_tick p1 p2 p3 = some r) : MetRI l yX4_fuse cX4_fuse 4 (some .int) 1 27 [.ref ob, .int p1, .int p2, .int p3] (dC, dI) (tyS cyI cyC cyO) (wAll cyI cyC cyO ob n0 n1 n2 n3 t0 t1 t2 t3 s0 aR ro r1 r2 r3 x0 x1 x2 x3 x4 n_ones n_twos n_settings n_tick n_energy n_valuesPut t_ones t_twos t_settings t_tick t_energy t_valuesPut s_ring s_oldest s_count x_signs x_length x_position x_complete x_orders x_kinds x_numbers x_values) r := by
  refine metRI_of (by decide) (Nat.le_of_ble_eq_true rfl) ?_
  intro p e s m below meth c ls hC hr hlk hP hK hl
  have hC : CallFix p m c cX4_fuse 4 s [.ref ob, .int p1, .int p2, .int p3].toArray wA RX4 := hC
  obtain ⟨hx, hb, hml, hown, hts⟩ := id hC
  have hS : va_S kF s.heap s.heap [] := va_S.rf
  have hl : lv_has ls 4 [(0, .ref ob), (1, .int p1), (2, .int p2), (3, .int p3)] := hl
  have h := hf
  unfold fX4_fuse at h
  obtain ⟨H, hH⟩ : ∃ H, H = s.heap := ⟨_, rfl⟩
  obtain ⟨locs, hlo⟩ : ∃ locs : List Loc, locs = [] := ⟨_, rfl⟩
  rw [← hH] at hP
  rw [← hlo] at hS
  have hS : va_S kF s.heap H locs := by rw [hH]; exact hS
  show W p l e (k_rm 1 27) s m [.ref ob, .int p1, .int p2, .int p3].toArray below meth c s.heap [] 0 0 _ _
  rw [← hlo, ← hH]
  refine lv_iload_n hx hb dX4_fuse_0 rfl (lv_at hl 1 rfl) ?_
  refine lv_bipush (v := 20) hx hb dX4_fuse_1 (by decide) ?_
  obtain ⟨z1, hc3, h⟩ := k_b1_e h
  refine g_callRI_S (As := [.int p1, .int 20]) (rest := []) hC (mX4_isIndex l dC dI cyI cyC cyO p1 20 hc3) q80 q81 q8 q82 2 hdX4_isIndex ⟨Nat.le_of_ble_eq_true rfl, Nat.le_of_ble_eq_true rfl⟩ ⟨Nat.le_of_ble_eq_true rfl, Nat.le_of_ble_eq_true rfl⟩ rfl rfl hl.1 (Nat.le_of_ble_eq_true rfl) va_P_nil hK hS dX4_fuse_3 (fun H locs hk hS => ?_)
  have hP := k_kept hP hk
  obtain ⟨K23, hK23, h⟩ := k_j1_e h
  have J23 : ∀ (z2 : Int32) (H : Heap) (locs : List Loc) (ls : Array Slot), K23 z2 = some r → va_P (dC, dI) vwCl (wAll cyI cyC cyO ob n0 n1 n2 n3 t0 t1 t2 t3 s0 aR ro r1 r2 r3 x0 x1 x2 x3 x4 n_ones n_twos n_settings n_tick n_energy n_valuesPut t_ones t_twos t_settings t_tick t_energy t_valuesPut s_ring s_oldest s_count x_signs x_length x_position x_complete x_orders x_kinds x_numbers x_values) H → va_S kF s.heap H locs → lv_has ls 4 [(0, .ref ob), (1, .int p1), (2, .int p2), (3, .int p3)] → W p l e (k_rm 1 27) s m [.ref ob, .int p1, .int p2, .int p3].toArray below meth c H locs 0 0 (MQ below (qRI r) [.ref ob, .int p1, .int p2, .int p3].toArray s 0 0 kF) (F0 m 23 ls [.int z2]) := by
    intro z2 H locs ls h hP hS hl
    have h := k_a1 hK23 h
    obtain ⟨hv, h⟩ := k_req_e h
    refine g_callRV_S (As := [.int z2]) (rest := []) hC (mX4_requireIndex l (dC, dI) (tyS cyI cyC cyO) z2 hv) q188 q189 q8 q190 1 hdX4_requireIndex ⟨Nat.le_of_ble_eq_true rfl, Nat.le_of_ble_eq_true rfl⟩ ⟨Nat.le_of_ble_eq_true rfl, Nat.le_of_ble_eq_true rfl⟩ rfl rfl hl.1 (Nat.le_of_ble_eq_true rfl) va_P_nil hK hS dX4_fuse_23 (fun H locs hk hS => ?_)
    have hP := k_kept hP hk
    refine lv_iload_n hx hb dX4_fuse_26 rfl (lv_at hl 3 rfl) ?_
    refine lv_iconst (v := 3) hx hb dX4_fuse_27 (by decide) ?_
    obtain ⟨z3, hc28, h⟩ := k_b1_e h
    refine g_callRI_S (As := [.int p3, .int 3]) (rest := []) hC (mX4_isIndex l dC dI cyI cyC cyO p3 3 hc28) q80 q81 q8 q82 2 hdX4_isIndex ⟨Nat.le_of_ble_eq_true rfl, Nat.le_of_ble_eq_true rfl⟩ ⟨Nat.le_of_ble_eq_true rfl, Nat.le_of_ble_eq_true rfl⟩ rfl rfl hl.1 (Nat.le_of_ble_eq_true rfl) va_P_nil hK hS dX4_fuse_28 (fun H locs hk hS => ?_)
    have hP := k_kept hP hk
    obtain ⟨hv, h⟩ := k_req_e h
    refine g_callRV_S (As := [.int z3]) (rest := []) hC (mX4_requireArgument l (dC, dI) (tyS cyI cyC cyO) z3 hv) q83 q84 q8 q85 1 hdX4_requireArgument ⟨Nat.le_of_ble_eq_true rfl, Nat.le_of_ble_eq_true rfl⟩ ⟨Nat.le_of_ble_eq_true rfl, Nat.le_of_ble_eq_true rfl⟩ rfl rfl hl.1 (Nat.le_of_ble_eq_true rfl) va_P_nil hK hS dX4_fuse_31 (fun H locs hk hS => ?_)
    have hP := k_kept hP hk
    refine lv_iload_n hx hb dX4_fuse_34 rfl (lv_at hl 3 rfl) ?_
    refine g_if_ne (tgt := 48) hx hb dX4_fuse_35 (by decide) h (fun h => ?_) (fun h => ?_)
    · refine lv_aload_n hx hb dX4_fuse_48 rfl (lv_at hl 0 rfl) ?_
      refine va_get (D := (dC, dI)) (ci := 3) (v := .ref n0) (C := RX4) (T := TX4) (N := 4) hx hb hts iaX4 hown hK hP 0 rfl rfl 0 (by decide) (hts _ q72) (fun _ h9 => h9) rfl dX4_fuse_49 ?_
      refine lv_iload_n hx hb dX4_fuse_52 rfl (lv_at hl 1 rfl) ?_
      refine lv_aload_n hx hb dX4_fuse_53 rfl (lv_at hl 0 rfl) ?_
      refine va_get (D := (dC, dI)) (ci := 3) (v := .ref n0) (C := RX4) (T := TX4) (N := 4) hx hb hts iaX4 hown hK hP 0 rfl rfl 0 (by decide) (hts _ q72) (fun _ h9 => h9) rfl dX4_fuse_54 ?_
      refine va_get (D := (dC, dI)) (ci := 2) (v := .int n_tick) (C := RX3) (T := TX3) (N := 6) hx hb hts iaX3 hown hK hP 1 rfl rfl 3 (by decide) (hts _ q43) (fun _ h9 => h9) rfl dX4_fuse_57 ?_
      refine lv_iload_n hx hb dX4_fuse_60 rfl (lv_at hl 3 rfl) ?_
      refine lv_iconst (v := 2) hx hb dX4_fuse_61 (by decide) ?_
      obtain ⟨K70, hK70, h⟩ := k_j1_e h
      have J70 : ∀ (z4 : Int32) (H : Heap) (locs : List Loc) (ls : Array Slot), K70 z4 = some r → va_P (dC, dI) vwCl (wAll cyI cyC cyO ob n0 n1 n2 n3 t0 t1 t2 t3 s0 aR ro r1 r2 r3 x0 x1 x2 x3 x4 n_ones n_twos n_settings n_tick n_energy n_valuesPut t_ones t_twos t_settings t_tick t_energy t_valuesPut s_ring s_oldest s_count x_signs x_length x_position x_complete x_orders x_kinds x_numbers x_values) H → va_S kF s.heap H locs → lv_has ls 4 [(2, .int p2)] → W p l e (k_rm 1 27) s m [.ref ob, .int p1, .int p2, .int p3].toArray below meth c H locs 0 0 (MQ below (qRI r) [.ref ob, .int p1, .int p2, .int p3].toArray s 0 0 kF) (F0 m 70 ls [.int z4, .int n_tick, .int p1, .ref n0]) := by
        intro z4 H locs ls h hP hS hl
        have h := k_a1 hK70 h
        obtain ⟨z5, hc70, h⟩ := k_b1_e h
        refine g_callRI_V (As := [.int p1, .int n_tick, .int z4]) (rest := []) hC (mX3_readAt l dC dI cyI cyC cyO n0 n1 n2 n3 n_ones n_twos n_settings n_tick n_energy n_valuesPut p1 n_tick z4 hc70) q446 q148 q149 q9 q150 3 hdX3_readAt ⟨Nat.le_of_ble_eq_true rfl, Nat.le_of_ble_eq_true rfl⟩ ⟨Nat.le_of_ble_eq_true rfl, Nat.le_of_ble_eq_true rfl⟩ rfl rfl hl.1 (Nat.le_of_ble_eq_true rfl) (hP.sub (ws' := (wX3 cyI cyC n0 n1 n2 n3 n_ones n_twos n_settings n_tick n_energy n_valuesPut)) [1, 2, 3, 4] rfl) hK (va_recv hK hP (ci := 2) (q0 := 1) rfl rfl) hS dX4_fuse_70 (fun H locs hk hS => ?_)
        have hP := k_kept hP hk
        refine lv_iload_n hx hb dX4_fuse_73 rfl (lv_at hl 0 rfl) ?_
        refine g_ishr hx hb dX4_fuse_74 h (fun z6 h => ?_)
        refine lv_iconst (v := 1) hx hb dX4_fuse_75 (by decide) ?_
        refine g_iand hx hb dX4_fuse_76 h (fun z7 h => ?_)
        exact g_retRI hx hb hr hlk hS h dX4_fuse_77
      refine g_icmp_ne (tgt := 69) hx hb dX4_fuse_62 (by decide) h (fun h => ?_) (fun h => ?_)
      · refine lv_iconst (v := 0) hx hb dX4_fuse_69 (by decide) ?_
        exact J70 0 _ _ _ h hP hS (lv_sub hl [2] rfl)
      · refine lv_iconst (v := 1) hx hb dX4_fuse_65 (by decide) ?_
        refine lv_goto (tgt := 70) hx hb dX4_fuse_66 (by decide) ?_
        exact J70 1 _ _ _ h hP hS (lv_sub hl [2] rfl)
    · refine lv_aload_n hx hb dX4_fuse_38 rfl (lv_at hl 0 rfl) ?_
      refine va_get (D := (dC, dI)) (ci := 3) (v := .ref n0) (C := RX4) (T := TX4) (N := 4) hx hb hts iaX4 hown hK hP 0 rfl rfl 0 (by decide) (hts _ q72) (fun _ h9 => h9) rfl dX4_fuse_39 ?_
      refine lv_iload_n hx hb dX4_fuse_42 rfl (lv_at hl 1 rfl) ?_
      refine lv_iload_n hx hb dX4_fuse_43 rfl (lv_at hl 2 rfl) ?_
      obtain ⟨z8, hc44, h⟩ := k_b1_e h
      refine g_callRI_V (As := [.int p1, .int p2]) (rest := []) hC (mX3_strength l dC dI cyI cyC cyO n0 n1 n2 n3 n_ones n_twos n_settings n_tick n_energy n_valuesPut p1 p2 hc44) q412 q178 q179 q9 q180 2 hdX3_strength ⟨Nat.le_of_ble_eq_true rfl, Nat.le_of_ble_eq_true rfl⟩ ⟨Nat.le_of_ble_eq_true rfl, Nat.le_of_ble_eq_true rfl⟩ rfl rfl hl.1 (Nat.le_of_ble_eq_true rfl) (hP.sub (ws' := (wX3 cyI cyC n0 n1 n2 n3 n_ones n_twos n_settings n_tick n_energy n_valuesPut)) [1, 2, 3, 4] rfl) hK (va_recv hK hP (ci := 2) (q0 := 1) rfl rfl) hS dX4_fuse_44 (fun H locs hk hS => ?_)
      have hP := k_kept hP hk
      exact g_retRI hx hb hr hlk hS h dX4_fuse_47
  refine g_if_eq (tgt := 22) hx hb dX4_fuse_6 (by decide) h (fun h => ?_) (fun h => ?_)
  · refine lv_iconst (v := 0) hx hb dX4_fuse_22 (by decide) ?_
    exact J23 0 _ _ _ h hP hS (lv_sub hl [0, 1, 2, 3] rfl)
  · refine lv_iload_n hx hb dX4_fuse_9 rfl (lv_at hl 2 rfl) ?_
    refine lv_bipush (v := 16) hx hb dX4_fuse_10 (by decide) ?_
    obtain ⟨z9, hc12, h⟩ := k_b1_e h
    refine g_callRI_S (As := [.int p2, .int 16]) (rest := []) hC (mX4_isIndex l dC dI cyI cyC cyO p2 16 hc12) q80 q81 q8 q82 2 hdX4_isIndex ⟨Nat.le_of_ble_eq_true rfl, Nat.le_of_ble_eq_true rfl⟩ ⟨Nat.le_of_ble_eq_true rfl, Nat.le_of_ble_eq_true rfl⟩ rfl rfl hl.1 (Nat.le_of_ble_eq_true rfl) va_P_nil hK hS dX4_fuse_12 (fun H locs hk hS => ?_)
    have hP := k_kept hP hk
    refine g_if_eq (tgt := 22) hx hb dX4_fuse_15 (by decide) h (fun h => ?_) (fun h => ?_)
    · refine lv_iconst (v := 0) hx hb dX4_fuse_22 (by decide) ?_
      exact J23 0 _ _ _ h hP hS (lv_sub hl [0, 1, 2, 3] rfl)
    · refine lv_iconst (v := 1) hx hb dX4_fuse_18 (by decide) ?_
      refine lv_goto (tgt := 23) hx hb dX4_fuse_19 (by decide) ?_
      exact J23 1 _ _ _ h hP hS (lv_sub hl [0, 1, 2, 3] rfl)
def fX4_rowProperty (n_ones : Nat → Int32) (n_twos : Nat → Int32) (n_settings : Nat → Int32) (n_tick : Int32) (p1 : Int32) (p2 : Int32) : Option (Int32) :=
  k_b1 (fX3_read n_ones n_twos n_settings n_tick p1) fun (z1 : Int32) =>
  k_if (p2 = 0)
  (
    some z1)
  (
    k_if (p2 = 1)
    (
      k_b1 (fX0_kindOf z1) fun (z2 : Int32) =>
      some z2)
    (
      k_if (p2 = 2)
      (
        k_b1 (fX0_keyOf z1) fun (z3 : Int32) =>
        some z3)
      (
        k_if (p2 = 3)
        (
          k_b1 (fX0_valueOf z1) fun (z4 : Int32) =>
          some z4)
        (
          k_if (p2 = 4)
          (
            k_b1 (fX0_checkOf z1) fun (z5 : Int32) =>
            some z5)
          (
            k_if (p2 = 5)
            (
              k_b1 (fX0_zerosOf z1) fun (z6 : Int32) =>
              some z6)
            (
              k_if (p2 = 6)
              (
                k_b1 (fX3_doubtfulFuses n_ones n_twos p1) fun (z7 : Int32) =>
                some z7)
              (
                k_if (p2 = 7)
                (
                  k_b1 (fX3_isLocked n_ones n_twos n_tick p1) fun (z8 : Int32) =>
                  k_if (z8 = 0)
                  (
                    some 0)
                  (
                    some 1))
                (
                  k_b1 (fX3_strengthSum n_ones n_twos p1) fun (z9 : Int32) =>
                  some z9))))))))
theorem hdX4_rowProperty : yX4_rowProperty.cls = RX4 ∧ yX4_rowProperty.cls ≠ "java/lang/invoke/MethodHandle" ∧ yX4_rowProperty.cls ≠ "java/lang/invoke/VarHandle" ∧ (parseMethodDescriptor yX4_rowProperty.desc).map (fun d => d.parameters.length) = some 2 := by decide +kernel
set_option maxRecDepth 100000 in
set_option maxHeartbeats 4000000 in
theorem mX4_rowProperty (l : Launch) (dC : Nat → ClassId) (dI : Nat → Nat → Nat) (cyI cyC cyO : ClassId) (ob : Nat) (n0 : Nat) (n1 : Nat) (n2 : Nat) (n3 : Nat) (t0 : Nat) (t1 : Nat) (t2 : Nat) (t3 : Nat) (s0 : Nat) (aR : Nat) (ro : Nat → Nat) (r1 : Nat → Nat) (r2 : Nat → Nat) (r3 : Nat → Nat) (x0 : Nat) (x1 : Nat) (x2 : Nat) (x3 : Nat) (x4 : Nat) (n_ones : Nat → Int32) (n_twos : Nat → Int32) (n_settings : Nat → Int32) (n_tick : Int32) (n_energy : Int32) (n_valuesPut : Int32) (t_ones : Nat → Int32) (t_twos : Nat → Int32) (t_settings : Nat → Int32) (t_tick : Int32) (t_energy : Int32) (t_valuesPut : Int32) (s_ring : Nat → SV) (s_oldest : Int32) (s_count : Int32) (x_signs : Nat → Int32) (x_length : Int32) (x_position : Int32) (x_complete : Int32) (x_orders : Int32) (x_kinds : Nat → Int32) (x_numbers : Nat → Int32) (x_values : Nat → Int32) (p1 : Int32) (p2 : Int32) {r : Int32} (hf : fX4_rowProperty n_ones n_twos n_settings n_tick p1 p2 = some r) : MetRI l yX4_rowProperty cX4_rowProperty 4 (some .int) 2 48 [.ref ob, .int p1, .int p2] (dC, dI) (tyS cyI cyC cyO) (wAll cyI cyC cyO ob n0 n1 n2 n3 t0 t1 t2 t3 s0 aR ro r1 r2 r3 x0 x1 x2 x3 x4 n_ones n_twos n_settings n_tick n_energy n_valuesPut t_ones t_twos t_settings t_tick t_energy t_valuesPut s_ring s_oldest s_count x_signs x_length x_position x_complete x_orders x_kinds x_numbers x_values) r := by
  refine metRI_of (by decide) (Nat.le_of_ble_eq_true rfl) ?_
  intro p e s m below meth c ls hC hr hlk hP hK hl
  have hC : CallFix p m c cX4_rowProperty 4 s [.ref ob, .int p1, .int p2].toArray wA RX4 := hC
  obtain ⟨hx, hb, hml, hown, hts⟩ := id hC
  have hS : va_S kF s.heap s.heap [] := va_S.rf
  have hl : lv_has ls 4 [(0, .ref ob), (1, .int p1), (2, .int p2)] := hl
  have h := hf
  unfold fX4_rowProperty at h
  obtain ⟨H, hH⟩ : ∃ H, H = s.heap := ⟨_, rfl⟩
  obtain ⟨locs, hlo⟩ : ∃ locs : List Loc, locs = [] := ⟨_, rfl⟩
  rw [← hH] at hP
  rw [← hlo] at hS
  have hS : va_S kF s.heap H locs := by rw [hH]; exact hS
  show W p l e (k_rm 2 48) s m [.ref ob, .int p1, .int p2].toArray below meth c s.heap [] 0 0 _ _
  rw [← hlo, ← hH]
  refine lv_aload_n hx hb dX4_rowProperty_0 rfl (lv_at hl 0 rfl) ?_
  refine va_get (D := (dC, dI)) (ci := 3) (v := .ref n0) (C := RX4) (T := TX4) (N := 4) hx hb hts iaX4 hown hK hP 0 rfl rfl 0 (by decide) (hts _ q72) (fun _ h9 => h9) rfl dX4_rowProperty_1 ?_
  refine lv_iload_n hx hb dX4_rowProperty_4 rfl (lv_at hl 1 rfl) ?_
  obtain ⟨z1, hc5, h⟩ := k_b1_e h
  refine g_callRI_V (As := [.int p1]) (rest := []) hC (mX3_read l dC dI cyI cyC cyO n0 n1 n2 n3 n_ones n_twos n_settings n_tick n_energy n_valuesPut p1 hc5) q238 q140 q141 q9 q142 1 hdX3_read ⟨Nat.le_of_ble_eq_true rfl, Nat.le_of_ble_eq_true rfl⟩ ⟨Nat.le_of_ble_eq_true rfl, Nat.le_of_ble_eq_true rfl⟩ rfl rfl hl.1 (Nat.le_of_ble_eq_true rfl) (hP.sub (ws' := (wX3 cyI cyC n0 n1 n2 n3 n_ones n_twos n_settings n_tick n_energy n_valuesPut)) [1, 2, 3, 4] rfl) hK (va_recv hK hP (ci := 2) (q0 := 1) rfl rfl) hS dX4_rowProperty_5 (fun H locs hk hS => ?_)
  have hP := k_kept hP hk
  refine lv_istore_n (lv' := [(3, .int z1), (0, .ref ob), (1, .int p1), (2, .int p2)]) hx hb dX4_rowProperty_8 rfl hl (by decide) rfl (fun ls hl => ?_)
  refine lv_iload_n hx hb dX4_rowProperty_9 rfl (lv_at hl 3 rfl) ?_
  refine g_arm (v := 0) (off := 46) (tgt := 56) hx hb dX4_rowProperty_10 (by decide) (by decide) (by decide +kernel) (by decide) h (fun _ h => ?_) (fun nq0 h => ?_)
  · refine lv_iload_n hx hb dX4_rowProperty_56 rfl (lv_at hl 0 rfl) ?_
    exact g_retRI hx hb hr hlk hS h dX4_rowProperty_57
  · skip
    refine g_arm (v := 1) (off := 48) (tgt := 58) hx hb dX4_rowProperty_10 (by decide) (by decide) (by decide +kernel) (by decide) h (fun _ h => ?_) (fun nq1 h => ?_)
    · refine lv_iload_n hx hb dX4_rowProperty_58 rfl (lv_at hl 0 rfl) ?_
      obtain ⟨z2, hc59, h⟩ := k_b1_e h
      refine g_callRI_S (As := [.int z1]) (rest := []) hC (mX0_kindOf l dC dI cyI cyC cyO z1 hc59) q239 q162 q17 q163 1 hdX0_kindOf ⟨Nat.le_of_ble_eq_true rfl, Nat.le_of_ble_eq_true rfl⟩ ⟨Nat.le_of_ble_eq_true rfl, Nat.le_of_ble_eq_true rfl⟩ rfl rfl hl.1 (Nat.le_of_ble_eq_true rfl) va_P_nil hK hS dX4_rowProperty_59 (fun H locs hk hS => ?_)
      have hP := k_kept hP hk
      exact g_retRI hx hb hr hlk hS h dX4_rowProperty_62
    · skip
      refine g_arm (v := 2) (off := 53) (tgt := 63) hx hb dX4_rowProperty_10 (by decide) (by decide) (by decide +kernel) (by decide) h (fun _ h => ?_) (fun nq2 h => ?_)
      · refine lv_iload_n hx hb dX4_rowProperty_63 rfl (lv_at hl 0 rfl) ?_
        obtain ⟨z3, hc64, h⟩ := k_b1_e h
        refine g_callRI_S (As := [.int z1]) (rest := []) hC (mX0_keyOf l dC dI cyI cyC cyO z1 hc64) q240 q159 q17 q160 1 hdX0_keyOf ⟨Nat.le_of_ble_eq_true rfl, Nat.le_of_ble_eq_true rfl⟩ ⟨Nat.le_of_ble_eq_true rfl, Nat.le_of_ble_eq_true rfl⟩ rfl rfl hl.1 (Nat.le_of_ble_eq_true rfl) va_P_nil hK hS dX4_rowProperty_64 (fun H locs hk hS => ?_)
        have hP := k_kept hP hk
        exact g_retRI hx hb hr hlk hS h dX4_rowProperty_67
      · skip
        refine g_arm (v := 3) (off := 58) (tgt := 68) hx hb dX4_rowProperty_10 (by decide) (by decide) (by decide +kernel) (by decide) h (fun _ h => ?_) (fun nq3 h => ?_)
        · refine lv_iload_n hx hb dX4_rowProperty_68 rfl (lv_at hl 0 rfl) ?_
          obtain ⟨z4, hc69, h⟩ := k_b1_e h
          refine g_callRI_S (As := [.int z1]) (rest := []) hC (mX0_valueOf l dC dI cyI cyC cyO z1 hc69) q241 q242 q17 q243 1 hdX0_valueOf ⟨Nat.le_of_ble_eq_true rfl, Nat.le_of_ble_eq_true rfl⟩ ⟨Nat.le_of_ble_eq_true rfl, Nat.le_of_ble_eq_true rfl⟩ rfl rfl hl.1 (Nat.le_of_ble_eq_true rfl) va_P_nil hK hS dX4_rowProperty_69 (fun H locs hk hS => ?_)
          have hP := k_kept hP hk
          exact g_retRI hx hb hr hlk hS h dX4_rowProperty_72
        · skip
          refine g_arm (v := 4) (off := 63) (tgt := 73) hx hb dX4_rowProperty_10 (by decide) (by decide) (by decide +kernel) (by decide) h (fun _ h => ?_) (fun nq4 h => ?_)
          · refine lv_iload_n hx hb dX4_rowProperty_73 rfl (lv_at hl 0 rfl) ?_
            obtain ⟨z5, hc74, h⟩ := k_b1_e h
            refine g_callRI_S (As := [.int z1]) (rest := []) hC (mX0_checkOf l dC dI cyI cyC cyO z1 hc74) q244 q171 q17 q172 1 hdX0_checkOf ⟨Nat.le_of_ble_eq_true rfl, Nat.le_of_ble_eq_true rfl⟩ ⟨Nat.le_of_ble_eq_true rfl, Nat.le_of_ble_eq_true rfl⟩ rfl rfl hl.1 (Nat.le_of_ble_eq_true rfl) va_P_nil hK hS dX4_rowProperty_74 (fun H locs hk hS => ?_)
            have hP := k_kept hP hk
            exact g_retRI hx hb hr hlk hS h dX4_rowProperty_77
          · skip
            refine g_arm (v := 5) (off := 68) (tgt := 78) hx hb dX4_rowProperty_10 (by decide) (by decide) (by decide +kernel) (by decide) h (fun _ h => ?_) (fun nq5 h => ?_)
            · refine lv_iload_n hx hb dX4_rowProperty_78 rfl (lv_at hl 0 rfl) ?_
              obtain ⟨z6, hc79, h⟩ := k_b1_e h
              refine g_callRI_S (As := [.int z1]) (rest := []) hC (mX0_zerosOf l dC dI cyI cyC cyO z1 hc79) q245 q246 q17 q247 1 hdX0_zerosOf ⟨Nat.le_of_ble_eq_true rfl, Nat.le_of_ble_eq_true rfl⟩ ⟨Nat.le_of_ble_eq_true rfl, Nat.le_of_ble_eq_true rfl⟩ rfl rfl hl.1 (Nat.le_of_ble_eq_true rfl) va_P_nil hK hS dX4_rowProperty_79 (fun H locs hk hS => ?_)
              have hP := k_kept hP hk
              exact g_retRI hx hb hr hlk hS h dX4_rowProperty_82
            · skip
              refine g_arm (v := 6) (off := 73) (tgt := 83) hx hb dX4_rowProperty_10 (by decide) (by decide) (by decide +kernel) (by decide) h (fun _ h => ?_) (fun nq6 h => ?_)
              · refine lv_aload_n hx hb dX4_rowProperty_83 rfl (lv_at hl 1 rfl) ?_
                refine va_get (D := (dC, dI)) (ci := 3) (v := .ref n0) (C := RX4) (T := TX4) (N := 4) hx hb hts iaX4 hown hK hP 0 rfl rfl 0 (by decide) (hts _ q72) (fun _ h9 => h9) rfl dX4_rowProperty_84 ?_
                refine lv_iload_n hx hb dX4_rowProperty_87 rfl (lv_at hl 2 rfl) ?_
                obtain ⟨z7, hc88, h⟩ := k_b1_e h
                refine g_callRI_V (As := [.int p1]) (rest := []) hC (mX3_doubtfulFuses l dC dI cyI cyC cyO n0 n1 n2 n3 n_ones n_twos n_settings n_tick n_energy n_valuesPut p1 hc88) q248 q249 q250 q9 q251 1 hdX3_doubtfulFuses ⟨Nat.le_of_ble_eq_true rfl, Nat.le_of_ble_eq_true rfl⟩ ⟨Nat.le_of_ble_eq_true rfl, Nat.le_of_ble_eq_true rfl⟩ rfl rfl hl.1 (Nat.le_of_ble_eq_true rfl) (hP.sub (ws' := (wX3 cyI cyC n0 n1 n2 n3 n_ones n_twos n_settings n_tick n_energy n_valuesPut)) [1, 2, 3, 4] rfl) hK (va_recv hK hP (ci := 2) (q0 := 1) rfl rfl) hS dX4_rowProperty_88 (fun H locs hk hS => ?_)
                have hP := k_kept hP hk
                exact g_retRI hx hb hr hlk hS h dX4_rowProperty_91
              · skip
                refine g_arm (v := 7) (off := 82) (tgt := 92) hx hb dX4_rowProperty_10 (by decide) (by decide) (by decide +kernel) (by decide) h (fun _ h => ?_) (fun nq7 h => ?_)
                · refine lv_aload_n hx hb dX4_rowProperty_92 rfl (lv_at hl 1 rfl) ?_
                  refine va_get (D := (dC, dI)) (ci := 3) (v := .ref n0) (C := RX4) (T := TX4) (N := 4) hx hb hts iaX4 hown hK hP 0 rfl rfl 0 (by decide) (hts _ q72) (fun _ h9 => h9) rfl dX4_rowProperty_93 ?_
                  refine lv_iload_n hx hb dX4_rowProperty_96 rfl (lv_at hl 2 rfl) ?_
                  obtain ⟨z8, hc97, h⟩ := k_b1_e h
                  refine g_callRI_V (As := [.int p1]) (rest := []) hC (mX3_isLocked l dC dI cyI cyC cyO n0 n1 n2 n3 n_ones n_twos n_settings n_tick n_energy n_valuesPut p1 hc97) q199 q155 q156 q9 q157 1 hdX3_isLocked ⟨Nat.le_of_ble_eq_true rfl, Nat.le_of_ble_eq_true rfl⟩ ⟨Nat.le_of_ble_eq_true rfl, Nat.le_of_ble_eq_true rfl⟩ rfl rfl hl.1 (Nat.le_of_ble_eq_true rfl) (hP.sub (ws' := (wX3 cyI cyC n0 n1 n2 n3 n_ones n_twos n_settings n_tick n_energy n_valuesPut)) [1, 2, 3, 4] rfl) hK (va_recv hK hP (ci := 2) (q0 := 1) rfl rfl) hS dX4_rowProperty_97 (fun H locs hk hS => ?_)
                  have hP := k_kept hP hk
                  refine g_if_eq (tgt := 107) hx hb dX4_rowProperty_100 (by decide) h (fun h => ?_) (fun h => ?_)
                  · refine lv_iconst (v := 0) hx hb dX4_rowProperty_107 (by decide) ?_
                    exact g_retRI hx hb hr hlk hS h dX4_rowProperty_108
                  · refine lv_iconst (v := 1) hx hb dX4_rowProperty_103 (by decide) ?_
                    refine lv_goto (tgt := 108) hx hb dX4_rowProperty_104 (by decide) ?_
                    exact g_retRI hx hb hr hlk hS h dX4_rowProperty_108
                · skip
                  refine lv_tableOut (tgt := 109) hx hb dX4_rowProperty_10 (by have zq0 := g_ne (z := 0) (by decide) nq0; have zq1 := g_ne (z := 1) (by decide) nq1; have zq2 := g_ne (z := 2) (by decide) nq2; have zq3 := g_ne (z := 3) (by decide) nq3; have zq4 := g_ne (z := 4) (by decide) nq4; have zq5 := g_ne (z := 5) (by decide) nq5; have zq6 := g_ne (z := 6) (by decide) nq6; have zq7 := g_ne (z := 7) (by decide) nq7; omega) (by decide) ?_
                  refine lv_aload_n hx hb dX4_rowProperty_109 rfl (lv_at hl 1 rfl) ?_
                  refine va_get (D := (dC, dI)) (ci := 3) (v := .ref n0) (C := RX4) (T := TX4) (N := 4) hx hb hts iaX4 hown hK hP 0 rfl rfl 0 (by decide) (hts _ q72) (fun _ h9 => h9) rfl dX4_rowProperty_110 ?_
                  refine lv_iload_n hx hb dX4_rowProperty_113 rfl (lv_at hl 2 rfl) ?_
                  obtain ⟨z9, hc114, h⟩ := k_b1_e h
                  refine g_callRI_V (As := [.int p1]) (rest := []) hC (mX3_strengthSum l dC dI cyI cyC cyO n0 n1 n2 n3 n_ones n_twos n_settings n_tick n_energy n_valuesPut p1 hc114) q253 q254 q255 q9 q256 1 hdX3_strengthSum ⟨Nat.le_of_ble_eq_true rfl, Nat.le_of_ble_eq_true rfl⟩ ⟨Nat.le_of_ble_eq_true rfl, Nat.le_of_ble_eq_true rfl⟩ rfl rfl hl.1 (Nat.le_of_ble_eq_true rfl) (hP.sub (ws' := (wX3 cyI cyC n0 n1 n2 n3 n_ones n_twos n_settings n_tick n_energy n_valuesPut)) [1, 2, 3, 4] rfl) hK (va_recv hK hP (ci := 2) (q0 := 1) rfl rfl) hS dX4_rowProperty_114 (fun H locs hk hS => ?_)
                  have hP := k_kept hP hk
                  exact g_retRI hx hb hr hlk hS h dX4_rowProperty_117
def fX4_row (n_ones : Nat → Int32) (n_twos : Nat → Int32) (n_settings : Nat → Int32) (n_tick : Int32) (p1 : Int32) (p2 : Int32) : Option (Int32) :=
  k_b1 (fX4_isIndex p1 20) fun (z1 : Int32) =>
  k_if (z1 = 0) none <|
  k_b1 (fX4_isIndex p2 9) fun (z2 : Int32) =>
  k_if (z2 = 0) none <|
  k_b1 (fX4_rowProperty n_ones n_twos n_settings n_tick p1 p2) fun (z3 : Int32) =>
  some z3
theorem hdX4_row : yX4_row.cls = RX4 ∧ yX4_row.cls ≠ "java/lang/invoke/MethodHandle" ∧ yX4_row.cls ≠ "java/lang/invoke/VarHandle" ∧ (parseMethodDescriptor yX4_row.desc).map (fun d => d.parameters.length) = some 2 := by decide +kernel
set_option maxRecDepth 100000 in
set_option maxHeartbeats 4000000 in
theorem mX4_row (l : Launch) (dC : Nat → ClassId) (dI : Nat → Nat → Nat) (cyI cyC cyO : ClassId) (ob : Nat) (n0 : Nat) (n1 : Nat) (n2 : Nat) (n3 : Nat) (t0 : Nat) (t1 : Nat) (t2 : Nat) (t3 : Nat) (s0 : Nat) (aR : Nat) (ro : Nat → Nat) (r1 : Nat → Nat) (r2 : Nat → Nat) (r3 : Nat → Nat) (x0 : Nat) (x1 : Nat) (x2 : Nat) (x3 : Nat) (x4 : Nat) (n_ones : Nat → Int32) (n_twos : Nat → Int32) (n_settings : Nat → Int32) (n_tick : Int32) (n_energy : Int32) (n_valuesPut : Int32) (t_ones : Nat → Int32) (t_twos : Nat → Int32) (t_settings : Nat → Int32) (t_tick : Int32) (t_energy : Int32) (t_valuesPut : Int32) (s_ring : Nat → SV) (s_oldest : Int32) (s_count : Int32) (x_signs : Nat → Int32) (x_length : Int32) (x_position : Int32) (x_complete : Int32) (x_orders : Int32) (x_kinds : Nat → Int32) (x_numbers : Nat → Int32) (x_values : Nat → Int32) (p1 : Int32) (p2 : Int32) {r : Int32} (hf : fX4_row n_ones n_twos n_settings n_tick p1 p2 = some r) : MetRI l yX4_row cX4_row 3 (some .int) 3 71 [.ref ob, .int p1, .int p2] (dC, dI) (tyS cyI cyC cyO) (wAll cyI cyC cyO ob n0 n1 n2 n3 t0 t1 t2 t3 s0 aR ro r1 r2 r3 x0 x1 x2 x3 x4 n_ones n_twos n_settings n_tick n_energy n_valuesPut t_ones t_twos t_settings t_tick t_energy t_valuesPut s_ring s_oldest s_count x_signs x_length x_position x_complete x_orders x_kinds x_numbers x_values) r := by
  refine metRI_of (by decide) (Nat.le_of_ble_eq_true rfl) ?_
  intro p e s m below meth c ls hC hr hlk hP hK hl
  have hC : CallFix p m c cX4_row 3 s [.ref ob, .int p1, .int p2].toArray wA RX4 := hC
  obtain ⟨hx, hb, hml, hown, hts⟩ := id hC
  have hS : va_S kF s.heap s.heap [] := va_S.rf
  have hl : lv_has ls 3 [(0, .ref ob), (1, .int p1), (2, .int p2)] := hl
  have h := hf
  unfold fX4_row at h
  obtain ⟨H, hH⟩ : ∃ H, H = s.heap := ⟨_, rfl⟩
  obtain ⟨locs, hlo⟩ : ∃ locs : List Loc, locs = [] := ⟨_, rfl⟩
  rw [← hH] at hP
  rw [← hlo] at hS
  have hS : va_S kF s.heap H locs := by rw [hH]; exact hS
  show W p l e (k_rm 3 71) s m [.ref ob, .int p1, .int p2].toArray below meth c s.heap [] 0 0 _ _
  rw [← hlo, ← hH]
  refine lv_iload_n hx hb dX4_row_0 rfl (lv_at hl 1 rfl) ?_
  refine lv_bipush (v := 20) hx hb dX4_row_1 (by decide) ?_
  obtain ⟨z1, hc3, h⟩ := k_b1_e h
  refine g_callRI_S (As := [.int p1, .int 20]) (rest := []) hC (mX4_isIndex l dC dI cyI cyC cyO p1 20 hc3) q80 q81 q8 q82 2 hdX4_isIndex ⟨Nat.le_of_ble_eq_true rfl, Nat.le_of_ble_eq_true rfl⟩ ⟨Nat.le_of_ble_eq_true rfl, Nat.le_of_ble_eq_true rfl⟩ rfl rfl hl.1 (Nat.le_of_ble_eq_true rfl) va_P_nil hK hS dX4_row_3 (fun H locs hk hS => ?_)
  have hP := k_kept hP hk
  obtain ⟨hv, h⟩ := k_req_e h
  refine g_callRV_S (As := [.int z1]) (rest := []) hC (mX4_requireIndex l (dC, dI) (tyS cyI cyC cyO) z1 hv) q188 q189 q8 q190 1 hdX4_requireIndex ⟨Nat.le_of_ble_eq_true rfl, Nat.le_of_ble_eq_true rfl⟩ ⟨Nat.le_of_ble_eq_true rfl, Nat.le_of_ble_eq_true rfl⟩ rfl rfl hl.1 (Nat.le_of_ble_eq_true rfl) va_P_nil hK hS dX4_row_6 (fun H locs hk hS => ?_)
  have hP := k_kept hP hk
  refine lv_iload_n hx hb dX4_row_9 rfl (lv_at hl 2 rfl) ?_
  refine lv_bipush (v := 9) hx hb dX4_row_10 (by decide) ?_
  obtain ⟨z2, hc12, h⟩ := k_b1_e h
  refine g_callRI_S (As := [.int p2, .int 9]) (rest := []) hC (mX4_isIndex l dC dI cyI cyC cyO p2 9 hc12) q80 q81 q8 q82 2 hdX4_isIndex ⟨Nat.le_of_ble_eq_true rfl, Nat.le_of_ble_eq_true rfl⟩ ⟨Nat.le_of_ble_eq_true rfl, Nat.le_of_ble_eq_true rfl⟩ rfl rfl hl.1 (Nat.le_of_ble_eq_true rfl) va_P_nil hK hS dX4_row_12 (fun H locs hk hS => ?_)
  have hP := k_kept hP hk
  obtain ⟨hv, h⟩ := k_req_e h
  refine g_callRV_S (As := [.int z2]) (rest := []) hC (mX4_requireArgument l (dC, dI) (tyS cyI cyC cyO) z2 hv) q83 q84 q8 q85 1 hdX4_requireArgument ⟨Nat.le_of_ble_eq_true rfl, Nat.le_of_ble_eq_true rfl⟩ ⟨Nat.le_of_ble_eq_true rfl, Nat.le_of_ble_eq_true rfl⟩ rfl rfl hl.1 (Nat.le_of_ble_eq_true rfl) va_P_nil hK hS dX4_row_15 (fun H locs hk hS => ?_)
  have hP := k_kept hP hk
  refine lv_aload_n hx hb dX4_row_18 rfl (lv_at hl 0 rfl) ?_
  refine lv_iload_n hx hb dX4_row_19 rfl (lv_at hl 1 rfl) ?_
  refine lv_iload_n hx hb dX4_row_20 rfl (lv_at hl 2 rfl) ?_
  obtain ⟨z3, hc21, h⟩ := k_b1_e h
  refine g_callRI_V (As := [.int p1, .int p2]) (rest := []) hC (mX4_rowProperty l dC dI cyI cyC cyO ob n0 n1 n2 n3 t0 t1 t2 t3 s0 aR ro r1 r2 r3 x0 x1 x2 x3 x4 n_ones n_twos n_settings n_tick n_energy n_valuesPut t_ones t_twos t_settings t_tick t_energy t_valuesPut s_ring s_oldest s_count x_signs x_length x_position x_complete x_orders x_kinds x_numbers x_values p1 p2 hc21) q235 q236 q1 q8 q237 2 hdX4_rowProperty ⟨Nat.le_of_ble_eq_true rfl, Nat.le_of_ble_eq_true rfl⟩ ⟨Nat.le_of_ble_eq_true rfl, Nat.le_of_ble_eq_true rfl⟩ rfl rfl hl.1 (Nat.le_of_ble_eq_true rfl) hP hK (va_recv hK hP (ci := 3) (q0 := 0) rfl rfl) hS dX4_row_21 (fun H locs hk hS => ?_)
  have hP := k_kept hP hk
  exact g_retRI hx hb hr hlk hS h dX4_row_24
def fX4_keyProperty (n_ones : Nat → Int32) (n_twos : Nat → Int32) (n_settings : Nat → Int32) (n_tick : Int32) (p1 : Int32) (p2 : Int32) : Option (Int32) :=
  k_if (p2 = 0)
  (
    k_b1 (fX3_valueOfKey n_ones n_twos n_settings n_tick p1) fun (z1 : Int32) =>
    some z1)
  (
    k_if (p2 = 1)
    (
      k_b1 (fX3_readsThrice n_settings) fun (z2 : Int32) =>
      k_b1 (fX3_entryRow n_ones n_twos p1 n_tick z2) fun (z3 : Int32) =>
      some z3)
    (
      k_if (p2 = 2)
      (
        k_b1 (fX3_entriesOf n_ones n_twos n_settings n_tick p1) fun (z4 : Int32) =>
        some z4)
      (
        k_if (p2 = 3)
        (
          k_b1 (fX3_rowsOf n_ones n_twos n_settings n_tick p1) fun (z5 : Int32) =>
          some z5)
        (
          k_if (p2 = 4)
          (
            k_b1 (fX3_greatestValue n_ones n_twos n_settings n_tick p1) fun (z6 : Int32) =>
            some z6)
          (
            k_b1 (fX3_steadyReadings n_ones n_twos n_tick p1) fun (z7 : Int32) =>
            some z7)))))
theorem hdX4_keyProperty : yX4_keyProperty.cls = RX4 ∧ yX4_keyProperty.cls ≠ "java/lang/invoke/MethodHandle" ∧ yX4_keyProperty.cls ≠ "java/lang/invoke/VarHandle" ∧ (parseMethodDescriptor yX4_keyProperty.desc).map (fun d => d.parameters.length) = some 2 := by decide +kernel
set_option maxRecDepth 100000 in
set_option maxHeartbeats 4000000 in
theorem mX4_keyProperty (l : Launch) (dC : Nat → ClassId) (dI : Nat → Nat → Nat) (cyI cyC cyO : ClassId) (ob : Nat) (n0 : Nat) (n1 : Nat) (n2 : Nat) (n3 : Nat) (t0 : Nat) (t1 : Nat) (t2 : Nat) (t3 : Nat) (s0 : Nat) (aR : Nat) (ro : Nat → Nat) (r1 : Nat → Nat) (r2 : Nat → Nat) (r3 : Nat → Nat) (x0 : Nat) (x1 : Nat) (x2 : Nat) (x3 : Nat) (x4 : Nat) (n_ones : Nat → Int32) (n_twos : Nat → Int32) (n_settings : Nat → Int32) (n_tick : Int32) (n_energy : Int32) (n_valuesPut : Int32) (t_ones : Nat → Int32) (t_twos : Nat → Int32) (t_settings : Nat → Int32) (t_tick : Int32) (t_energy : Int32) (t_valuesPut : Int32) (s_ring : Nat → SV) (s_oldest : Int32) (s_count : Int32) (x_signs : Nat → Int32) (x_length : Int32) (x_position : Int32) (x_complete : Int32) (x_orders : Int32) (x_kinds : Nat → Int32) (x_numbers : Nat → Int32) (x_values : Nat → Int32) (p1 : Int32) (p2 : Int32) {r : Int32} (hf : fX4_keyProperty n_ones n_twos n_settings n_tick p1 p2 = some r) : MetRI l yX4_keyProperty cX4_keyProperty 3 (some .int) 5 114 [.ref ob, .int p1, .int p2] (dC, dI) (tyS cyI cyC cyO) (wAll cyI cyC cyO ob n0 n1 n2 n3 t0 t1 t2 t3 s0 aR ro r1 r2 r3 x0 x1 x2 x3 x4 n_ones n_twos n_settings n_tick n_energy n_valuesPut t_ones t_twos t_settings t_tick t_energy t_valuesPut s_ring s_oldest s_count x_signs x_length x_position x_complete x_orders x_kinds x_numbers x_values) r := by
  refine metRI_of (by decide) (Nat.le_of_ble_eq_true rfl) ?_
  intro p e s m below meth c ls hC hr hlk hP hK hl
  have hC : CallFix p m c cX4_keyProperty 3 s [.ref ob, .int p1, .int p2].toArray wA RX4 := hC
  obtain ⟨hx, hb, hml, hown, hts⟩ := id hC
  have hS : va_S kF s.heap s.heap [] := va_S.rf
  have hl : lv_has ls 3 [(0, .ref ob), (1, .int p1), (2, .int p2)] := hl
  have h := hf
  unfold fX4_keyProperty at h
  obtain ⟨H, hH⟩ : ∃ H, H = s.heap := ⟨_, rfl⟩
  obtain ⟨locs, hlo⟩ : ∃ locs : List Loc, locs = [] := ⟨_, rfl⟩
  rw [← hH] at hP
  rw [← hlo] at hS
  have hS : va_S kF s.heap H locs := by rw [hH]; exact hS
  show W p l e (k_rm 5 114) s m [.ref ob, .int p1, .int p2].toArray below meth c s.heap [] 0 0 _ _
  rw [← hlo, ← hH]
  refine lv_iload_n hx hb dX4_keyProperty_0 rfl (lv_at hl 2 rfl) ?_
  refine g_arm (v := 0) (off := 35) (tgt := 36) hx hb dX4_keyProperty_1 (by decide) (by decide) (by decide +kernel) (by decide) h (fun _ h => ?_) (fun nq0 h => ?_)
  · refine lv_aload_n hx hb dX4_keyProperty_36 rfl (lv_at hl 0 rfl) ?_
    refine va_get (D := (dC, dI)) (ci := 3) (v := .ref n0) (C := RX4) (T := TX4) (N := 4) hx hb hts iaX4 hown hK hP 0 rfl rfl 0 (by decide) (hts _ q72) (fun _ h9 => h9) rfl dX4_keyProperty_37 ?_
    refine lv_iload_n hx hb dX4_keyProperty_40 rfl (lv_at hl 1 rfl) ?_
    obtain ⟨z1, hc41, h⟩ := k_b1_e h
    refine g_callRI_V (As := [.int p1]) (rest := []) hC (mX3_valueOfKey l dC dI cyI cyC cyO n0 n1 n2 n3 n_ones n_twos n_settings n_tick n_energy n_valuesPut p1 hc41) q264 q265 q266 q9 q267 1 hdX3_valueOfKey ⟨Nat.le_of_ble_eq_true rfl, Nat.le_of_ble_eq_true rfl⟩ ⟨Nat.le_of_ble_eq_true rfl, Nat.le_of_ble_eq_true rfl⟩ rfl rfl hl.1 (Nat.le_of_ble_eq_true rfl) (hP.sub (ws' := (wX3 cyI cyC n0 n1 n2 n3 n_ones n_twos n_settings n_tick n_energy n_valuesPut)) [1, 2, 3, 4] rfl) hK (va_recv hK hP (ci := 2) (q0 := 1) rfl rfl) hS dX4_keyProperty_41 (fun H locs hk hS => ?_)
    have hP := k_kept hP hk
    exact g_retRI hx hb hr hlk hS h dX4_keyProperty_44
  · skip
    refine g_arm (v := 1) (off := 44) (tgt := 45) hx hb dX4_keyProperty_1 (by decide) (by decide) (by decide +kernel) (by decide) h (fun _ h => ?_) (fun nq1 h => ?_)
    · refine lv_aload_n hx hb dX4_keyProperty_45 rfl (lv_at hl 0 rfl) ?_
      refine va_get (D := (dC, dI)) (ci := 3) (v := .ref n0) (C := RX4) (T := TX4) (N := 4) hx hb hts iaX4 hown hK hP 0 rfl rfl 0 (by decide) (hts _ q72) (fun _ h9 => h9) rfl dX4_keyProperty_46 ?_
      refine lv_iload_n hx hb dX4_keyProperty_49 rfl (lv_at hl 1 rfl) ?_
      refine lv_aload_n hx hb dX4_keyProperty_50 rfl (lv_at hl 0 rfl) ?_
      refine va_get (D := (dC, dI)) (ci := 3) (v := .ref n0) (C := RX4) (T := TX4) (N := 4) hx hb hts iaX4 hown hK hP 0 rfl rfl 0 (by decide) (hts _ q72) (fun _ h9 => h9) rfl dX4_keyProperty_51 ?_
      refine va_get (D := (dC, dI)) (ci := 2) (v := .int n_tick) (C := RX3) (T := TX3) (N := 6) hx hb hts iaX3 hown hK hP 1 rfl rfl 3 (by decide) (hts _ q43) (fun _ h9 => h9) rfl dX4_keyProperty_54 ?_
      refine lv_aload_n hx hb dX4_keyProperty_57 rfl (lv_at hl 0 rfl) ?_
      refine va_get (D := (dC, dI)) (ci := 3) (v := .ref n0) (C := RX4) (T := TX4) (N := 4) hx hb hts iaX4 hown hK hP 0 rfl rfl 0 (by decide) (hts _ q72) (fun _ h9 => h9) rfl dX4_keyProperty_58 ?_
      obtain ⟨z2, hc61, h⟩ := k_b1_e h
      refine g_callRI_V (As := []) (rest := [.int n_tick, .int p1, .ref n0]) hC (mX3_readsThrice l dC dI cyI cyC cyO n0 n1 n2 n3 n_ones n_twos n_settings n_tick n_energy n_valuesPut hc61) q277 q144 q145 q9 q146 0 hdX3_readsThrice ⟨Nat.le_of_ble_eq_true rfl, Nat.le_of_ble_eq_true rfl⟩ ⟨Nat.le_of_ble_eq_true rfl, Nat.le_of_ble_eq_true rfl⟩ rfl rfl hl.1 (Nat.le_of_ble_eq_true rfl) (hP.sub (ws' := (wX3 cyI cyC n0 n1 n2 n3 n_ones n_twos n_settings n_tick n_energy n_valuesPut)) [1, 2, 3, 4] rfl) hK (va_recv hK hP (ci := 2) (q0 := 1) rfl rfl) hS dX4_keyProperty_61 (fun H locs hk hS => ?_)
      have hP := k_kept hP hk
      obtain ⟨z3, hc64, h⟩ := k_b1_e h
      refine g_callRI_V (As := [.int p1, .int n_tick, .int z2]) (rest := []) hC (mX3_entryRow l dC dI cyI cyC cyO n0 n1 n2 n3 n_ones n_twos n_settings n_tick n_energy n_valuesPut p1 n_tick z2 hc64) q278 q273 q274 q9 q275 3 hdX3_entryRow ⟨Nat.le_of_ble_eq_true rfl, Nat.le_of_ble_eq_true rfl⟩ ⟨Nat.le_of_ble_eq_true rfl, Nat.le_of_ble_eq_true rfl⟩ rfl rfl hl.1 (Nat.le_of_ble_eq_true rfl) (hP.sub (ws' := (wX3 cyI cyC n0 n1 n2 n3 n_ones n_twos n_settings n_tick n_energy n_valuesPut)) [1, 2, 3, 4] rfl) hK (va_recv hK hP (ci := 2) (q0 := 1) rfl rfl) hS dX4_keyProperty_64 (fun H locs hk hS => ?_)
      have hP := k_kept hP hk
      exact g_retRI hx hb hr hlk hS h dX4_keyProperty_67
    · skip
      refine g_arm (v := 2) (off := 67) (tgt := 68) hx hb dX4_keyProperty_1 (by decide) (by decide) (by decide +kernel) (by decide) h (fun _ h => ?_) (fun nq2 h => ?_)
      · refine lv_aload_n hx hb dX4_keyProperty_68 rfl (lv_at hl 0 rfl) ?_
        refine va_get (D := (dC, dI)) (ci := 3) (v := .ref n0) (C := RX4) (T := TX4) (N := 4) hx hb hts iaX4 hown hK hP 0 rfl rfl 0 (by decide) (hts _ q72) (fun _ h9 => h9) rfl dX4_keyProperty_69 ?_
        refine lv_iload_n hx hb dX4_keyProperty_72 rfl (lv_at hl 1 rfl) ?_
        obtain ⟨z4, hc73, h⟩ := k_b1_e h
        refine g_callRI_V (As := [.int p1]) (rest := []) hC (mX3_entriesOf l dC dI cyI cyC cyO n0 n1 n2 n3 n_ones n_twos n_settings n_tick n_energy n_valuesPut p1 hc73) q279 q280 q281 q9 q282 1 hdX3_entriesOf ⟨Nat.le_of_ble_eq_true rfl, Nat.le_of_ble_eq_true rfl⟩ ⟨Nat.le_of_ble_eq_true rfl, Nat.le_of_ble_eq_true rfl⟩ rfl rfl hl.1 (Nat.le_of_ble_eq_true rfl) (hP.sub (ws' := (wX3 cyI cyC n0 n1 n2 n3 n_ones n_twos n_settings n_tick n_energy n_valuesPut)) [1, 2, 3, 4] rfl) hK (va_recv hK hP (ci := 2) (q0 := 1) rfl rfl) hS dX4_keyProperty_73 (fun H locs hk hS => ?_)
        have hP := k_kept hP hk
        exact g_retRI hx hb hr hlk hS h dX4_keyProperty_76
      · skip
        refine g_arm (v := 3) (off := 76) (tgt := 77) hx hb dX4_keyProperty_1 (by decide) (by decide) (by decide +kernel) (by decide) h (fun _ h => ?_) (fun nq3 h => ?_)
        · refine lv_aload_n hx hb dX4_keyProperty_77 rfl (lv_at hl 0 rfl) ?_
          refine va_get (D := (dC, dI)) (ci := 3) (v := .ref n0) (C := RX4) (T := TX4) (N := 4) hx hb hts iaX4 hown hK hP 0 rfl rfl 0 (by decide) (hts _ q72) (fun _ h9 => h9) rfl dX4_keyProperty_78 ?_
          refine lv_iload_n hx hb dX4_keyProperty_81 rfl (lv_at hl 1 rfl) ?_
          obtain ⟨z5, hc82, h⟩ := k_b1_e h
          refine g_callRI_V (As := [.int p1]) (rest := []) hC (mX3_rowsOf l dC dI cyI cyC cyO n0 n1 n2 n3 n_ones n_twos n_settings n_tick n_energy n_valuesPut p1 hc82) q283 q284 q285 q9 q286 1 hdX3_rowsOf ⟨Nat.le_of_ble_eq_true rfl, Nat.le_of_ble_eq_true rfl⟩ ⟨Nat.le_of_ble_eq_true rfl, Nat.le_of_ble_eq_true rfl⟩ rfl rfl hl.1 (Nat.le_of_ble_eq_true rfl) (hP.sub (ws' := (wX3 cyI cyC n0 n1 n2 n3 n_ones n_twos n_settings n_tick n_energy n_valuesPut)) [1, 2, 3, 4] rfl) hK (va_recv hK hP (ci := 2) (q0 := 1) rfl rfl) hS dX4_keyProperty_82 (fun H locs hk hS => ?_)
          have hP := k_kept hP hk
          exact g_retRI hx hb hr hlk hS h dX4_keyProperty_85
        · skip
          refine g_arm (v := 4) (off := 85) (tgt := 86) hx hb dX4_keyProperty_1 (by decide) (by decide) (by decide +kernel) (by decide) h (fun _ h => ?_) (fun nq4 h => ?_)
          · refine lv_aload_n hx hb dX4_keyProperty_86 rfl (lv_at hl 0 rfl) ?_
            refine va_get (D := (dC, dI)) (ci := 3) (v := .ref n0) (C := RX4) (T := TX4) (N := 4) hx hb hts iaX4 hown hK hP 0 rfl rfl 0 (by decide) (hts _ q72) (fun _ h9 => h9) rfl dX4_keyProperty_87 ?_
            refine lv_iload_n hx hb dX4_keyProperty_90 rfl (lv_at hl 1 rfl) ?_
            obtain ⟨z6, hc91, h⟩ := k_b1_e h
            refine g_callRI_V (As := [.int p1]) (rest := []) hC (mX3_greatestValue l dC dI cyI cyC cyO n0 n1 n2 n3 n_ones n_twos n_settings n_tick n_energy n_valuesPut p1 hc91) q291 q292 q293 q9 q294 1 hdX3_greatestValue ⟨Nat.le_of_ble_eq_true rfl, Nat.le_of_ble_eq_true rfl⟩ ⟨Nat.le_of_ble_eq_true rfl, Nat.le_of_ble_eq_true rfl⟩ rfl rfl hl.1 (Nat.le_of_ble_eq_true rfl) (hP.sub (ws' := (wX3 cyI cyC n0 n1 n2 n3 n_ones n_twos n_settings n_tick n_energy n_valuesPut)) [1, 2, 3, 4] rfl) hK (va_recv hK hP (ci := 2) (q0 := 1) rfl rfl) hS dX4_keyProperty_91 (fun H locs hk hS => ?_)
            have hP := k_kept hP hk
            exact g_retRI hx hb hr hlk hS h dX4_keyProperty_94
          · skip
            refine lv_tableOut (tgt := 95) hx hb dX4_keyProperty_1 (by have zq0 := g_ne (z := 0) (by decide) nq0; have zq1 := g_ne (z := 1) (by decide) nq1; have zq2 := g_ne (z := 2) (by decide) nq2; have zq3 := g_ne (z := 3) (by decide) nq3; have zq4 := g_ne (z := 4) (by decide) nq4; omega) (by decide) ?_
            refine lv_aload_n hx hb dX4_keyProperty_95 rfl (lv_at hl 0 rfl) ?_
            refine va_get (D := (dC, dI)) (ci := 3) (v := .ref n0) (C := RX4) (T := TX4) (N := 4) hx hb hts iaX4 hown hK hP 0 rfl rfl 0 (by decide) (hts _ q72) (fun _ h9 => h9) rfl dX4_keyProperty_96 ?_
            refine lv_iload_n hx hb dX4_keyProperty_99 rfl (lv_at hl 1 rfl) ?_
            obtain ⟨z7, hc100, h⟩ := k_b1_e h
            refine g_callRI_V (As := [.int p1]) (rest := []) hC (mX3_steadyReadings l dC dI cyI cyC cyO n0 n1 n2 n3 n_ones n_twos n_settings n_tick n_energy n_valuesPut p1 hc100) q295 q296 q297 q9 q298 1 hdX3_steadyReadings ⟨Nat.le_of_ble_eq_true rfl, Nat.le_of_ble_eq_true rfl⟩ ⟨Nat.le_of_ble_eq_true rfl, Nat.le_of_ble_eq_true rfl⟩ rfl rfl hl.1 (Nat.le_of_ble_eq_true rfl) (hP.sub (ws' := (wX3 cyI cyC n0 n1 n2 n3 n_ones n_twos n_settings n_tick n_energy n_valuesPut)) [1, 2, 3, 4] rfl) hK (va_recv hK hP (ci := 2) (q0 := 1) rfl rfl) hS dX4_keyProperty_100 (fun H locs hk hS => ?_)
            have hP := k_kept hP hk
            exact g_retRI hx hb hr hlk hS h dX4_keyProperty_103
def fX4_key (n_ones : Nat → Int32) (n_twos : Nat → Int32) (n_settings : Nat → Int32) (n_tick : Int32) (p1 : Int32) (p2 : Int32) : Option (Int32) :=
  k_b1 (fX4_isIndex p1 16) fun (z1 : Int32) =>
  k_j1
  (fun (z2 : Int32) =>
    k_if (z2 = 0) none <|
    k_b1 (fX4_keyProperty n_ones n_twos n_settings n_tick p1 p2) fun (z3 : Int32) =>
    some z3)
  (fun K23 =>
  k_if (z1 = 0)
  (
    K23 0)
  (
    k_b1 (fX4_isIndex p2 6) fun (z4 : Int32) =>
    k_if (z4 = 0)
    (
      K23 0)
    (
      K23 1)))
theorem hdX4_key : yX4_key.cls = RX4 ∧ yX4_key.cls ≠ "java/lang/invoke/MethodHandle" ∧ yX4_key.cls ≠ "java/lang/invoke/VarHandle" ∧ (parseMethodDescriptor yX4_key.desc).map (fun d => d.parameters.length) = some 2 := by decide +kernel
set_option maxRecDepth 100000 in
set_option maxHeartbeats 4000000 in
theorem mX4_key (l : Launch) (dC : Nat → ClassId) (dI : Nat → Nat → Nat) (cyI cyC cyO : ClassId) (ob : Nat) (n0 : Nat) (n1 : Nat) (n2 : Nat) (n3 : Nat) (t0 : Nat) (t1 : Nat) (t2 : Nat) (t3 : Nat) (s0 : Nat) (aR : Nat) (ro : Nat → Nat) (r1 : Nat → Nat) (r2 : Nat → Nat) (r3 : Nat → Nat) (x0 : Nat) (x1 : Nat) (x2 : Nat) (x3 : Nat) (x4 : Nat) (n_ones : Nat → Int32) (n_twos : Nat → Int32) (n_settings : Nat → Int32) (n_tick : Int32) (n_energy : Int32) (n_valuesPut : Int32) (t_ones : Nat → Int32) (t_twos : Nat → Int32) (t_settings : Nat → Int32) (t_tick : Int32) (t_energy : Int32) (t_valuesPut : Int32) (s_ring : Nat → SV) (s_oldest : Int32) (s_count : Int32) (x_signs : Nat → Int32) (x_length : Int32) (x_position : Int32) (x_complete : Int32) (x_orders : Int32) (x_kinds : Nat → Int32) (x_numbers : Nat → Int32) (x_values : Nat → Int32) (p1 : Int32) (p2 : Int32) {r : Int32} (hf : fX4_key n_ones n_twos n_settings n_tick p1 p2 = some r) : MetRI l yX4_key cX4_key 3 (some .int) 6 136 [.ref ob, .int p1, .int p2] (dC, dI) (tyS cyI cyC cyO) (wAll cyI cyC cyO ob n0 n1 n2 n3 t0 t1 t2 t3 s0 aR ro r1 r2 r3 x0 x1 x2 x3 x4 n_ones n_twos n_settings n_tick n_energy n_valuesPut t_ones t_twos t_settings t_tick t_energy t_valuesPut s_ring s_oldest s_count x_signs x_length x_position x_complete x_orders x_kinds x_numbers x_values) r := by
  refine metRI_of (by decide) (Nat.le_of_ble_eq_true rfl) ?_
  intro p e s m below meth c ls hC hr hlk hP hK hl
  have hC : CallFix p m c cX4_key 3 s [.ref ob, .int p1, .int p2].toArray wA RX4 := hC
  obtain ⟨hx, hb, hml, hown, hts⟩ := id hC
  have hS : va_S kF s.heap s.heap [] := va_S.rf
  have hl : lv_has ls 3 [(0, .ref ob), (1, .int p1), (2, .int p2)] := hl
  have h := hf
  unfold fX4_key at h
  obtain ⟨H, hH⟩ : ∃ H, H = s.heap := ⟨_, rfl⟩
  obtain ⟨locs, hlo⟩ : ∃ locs : List Loc, locs = [] := ⟨_, rfl⟩
  rw [← hH] at hP
  rw [← hlo] at hS
  have hS : va_S kF s.heap H locs := by rw [hH]; exact hS
  show W p l e (k_rm 6 136) s m [.ref ob, .int p1, .int p2].toArray below meth c s.heap [] 0 0 _ _
  rw [← hlo, ← hH]
  refine lv_iload_n hx hb dX4_key_0 rfl (lv_at hl 1 rfl) ?_
  refine lv_bipush (v := 16) hx hb dX4_key_1 (by decide) ?_
  obtain ⟨z1, hc3, h⟩ := k_b1_e h
  refine g_callRI_S (As := [.int p1, .int 16]) (rest := []) hC (mX4_isIndex l dC dI cyI cyC cyO p1 16 hc3) q80 q81 q8 q82 2 hdX4_isIndex ⟨Nat.le_of_ble_eq_true rfl, Nat.le_of_ble_eq_true rfl⟩ ⟨Nat.le_of_ble_eq_true rfl, Nat.le_of_ble_eq_true rfl⟩ rfl rfl hl.1 (Nat.le_of_ble_eq_true rfl) va_P_nil hK hS dX4_key_3 (fun H locs hk hS => ?_)
  have hP := k_kept hP hk
  obtain ⟨K23, hK23, h⟩ := k_j1_e h
  have J23 : ∀ (z2 : Int32) (H : Heap) (locs : List Loc) (ls : Array Slot), K23 z2 = some r → va_P (dC, dI) vwCl (wAll cyI cyC cyO ob n0 n1 n2 n3 t0 t1 t2 t3 s0 aR ro r1 r2 r3 x0 x1 x2 x3 x4 n_ones n_twos n_settings n_tick n_energy n_valuesPut t_ones t_twos t_settings t_tick t_energy t_valuesPut s_ring s_oldest s_count x_signs x_length x_position x_complete x_orders x_kinds x_numbers x_values) H → va_S kF s.heap H locs → lv_has ls 3 [(0, .ref ob), (1, .int p1), (2, .int p2)] → W p l e (k_rm 6 136) s m [.ref ob, .int p1, .int p2].toArray below meth c H locs 0 0 (MQ below (qRI r) [.ref ob, .int p1, .int p2].toArray s 0 0 kF) (F0 m 23 ls [.int z2]) := by
    intro z2 H locs ls h hP hS hl
    have h := k_a1 hK23 h
    obtain ⟨hv, h⟩ := k_req_e h
    refine g_callRV_S (As := [.int z2]) (rest := []) hC (mX4_requireArgument l (dC, dI) (tyS cyI cyC cyO) z2 hv) q83 q84 q8 q85 1 hdX4_requireArgument ⟨Nat.le_of_ble_eq_true rfl, Nat.le_of_ble_eq_true rfl⟩ ⟨Nat.le_of_ble_eq_true rfl, Nat.le_of_ble_eq_true rfl⟩ rfl rfl hl.1 (Nat.le_of_ble_eq_true rfl) va_P_nil hK hS dX4_key_23 (fun H locs hk hS => ?_)
    have hP := k_kept hP hk
    refine lv_aload_n hx hb dX4_key_26 rfl (lv_at hl 0 rfl) ?_
    refine lv_iload_n hx hb dX4_key_27 rfl (lv_at hl 1 rfl) ?_
    refine lv_iload_n hx hb dX4_key_28 rfl (lv_at hl 2 rfl) ?_
    obtain ⟨z3, hc29, h⟩ := k_b1_e h
    refine g_callRI_V (As := [.int p1, .int p2]) (rest := []) hC (mX4_keyProperty l dC dI cyI cyC cyO ob n0 n1 n2 n3 t0 t1 t2 t3 s0 aR ro r1 r2 r3 x0 x1 x2 x3 x4 n_ones n_twos n_settings n_tick n_energy n_valuesPut t_ones t_twos t_settings t_tick t_energy t_valuesPut s_ring s_oldest s_count x_signs x_length x_position x_complete x_orders x_kinds x_numbers x_values p1 p2 hc29) q261 q262 q2 q8 q263 2 hdX4_keyProperty ⟨Nat.le_of_ble_eq_true rfl, Nat.le_of_ble_eq_true rfl⟩ ⟨Nat.le_of_ble_eq_true rfl, Nat.le_of_ble_eq_true rfl⟩ rfl rfl hl.1 (Nat.le_of_ble_eq_true rfl) hP hK (va_recv hK hP (ci := 3) (q0 := 0) rfl rfl) hS dX4_key_29 (fun H locs hk hS => ?_)
    have hP := k_kept hP hk
    exact g_retRI hx hb hr hlk hS h dX4_key_32
  refine g_if_eq (tgt := 22) hx hb dX4_key_6 (by decide) h (fun h => ?_) (fun h => ?_)
  · refine lv_iconst (v := 0) hx hb dX4_key_22 (by decide) ?_
    exact J23 0 _ _ _ h hP hS (lv_sub hl [0, 1, 2] rfl)
  · refine lv_iload_n hx hb dX4_key_9 rfl (lv_at hl 2 rfl) ?_
    refine lv_bipush (v := 6) hx hb dX4_key_10 (by decide) ?_
    obtain ⟨z4, hc12, h⟩ := k_b1_e h
    refine g_callRI_S (As := [.int p2, .int 6]) (rest := []) hC (mX4_isIndex l dC dI cyI cyC cyO p2 6 hc12) q80 q81 q8 q82 2 hdX4_isIndex ⟨Nat.le_of_ble_eq_true rfl, Nat.le_of_ble_eq_true rfl⟩ ⟨Nat.le_of_ble_eq_true rfl, Nat.le_of_ble_eq_true rfl⟩ rfl rfl hl.1 (Nat.le_of_ble_eq_true rfl) va_P_nil hK hS dX4_key_12 (fun H locs hk hS => ?_)
    have hP := k_kept hP hk
    refine g_if_eq (tgt := 22) hx hb dX4_key_15 (by decide) h (fun h => ?_) (fun h => ?_)
    · refine lv_iconst (v := 0) hx hb dX4_key_22 (by decide) ?_
      exact J23 0 _ _ _ h hP hS (lv_sub hl [0, 1, 2] rfl)
    · refine lv_iconst (v := 1) hx hb dX4_key_18 (by decide) ?_
      refine lv_goto (tgt := 23) hx hb dX4_key_19 (by decide) ?_
      exact J23 1 _ _ _ h hP hS (lv_sub hl [0, 1, 2] rfl)
def fX4_history (n_ones : Nat → Int32) (n_twos : Nat → Int32) (n_settings : Nat → Int32) (n_tick : Int32) (p1 : Int32) (p2 : Int32) : Option (Int32) :=
  k_b1 (fX4_isIndex p1 16) fun (z1 : Int32) =>
  k_j1
  (fun (z2 : Int32) =>
    k_if (z2 = 0) none <|
    k_b1 (fX3_earlierValue n_ones n_twos n_settings n_tick p1 p2) fun (z3 : Int32) =>
    some z3)
  (fun K18 =>
  k_if (z1 = 0)
  (
    K18 0)
  (
    k_if (p2 < 0)
    (
      K18 0)
    (
      K18 1)))
theorem hdX4_history : yX4_history.cls = RX4 ∧ yX4_history.cls ≠ "java/lang/invoke/MethodHandle" ∧ yX4_history.cls ≠ "java/lang/invoke/VarHandle" ∧ (parseMethodDescriptor yX4_history.desc).map (fun d => d.parameters.length) = some 2 := by decide +kernel
set_option maxRecDepth 100000 in
set_option maxHeartbeats 4000000 in
theorem mX4_history (l : Launch) (dC : Nat → ClassId) (dI : Nat → Nat → Nat) (cyI cyC cyO : ClassId) (ob : Nat) (n0 : Nat) (n1 : Nat) (n2 : Nat) (n3 : Nat) (t0 : Nat) (t1 : Nat) (t2 : Nat) (t3 : Nat) (s0 : Nat) (aR : Nat) (ro : Nat → Nat) (r1 : Nat → Nat) (r2 : Nat → Nat) (r3 : Nat → Nat) (x0 : Nat) (x1 : Nat) (x2 : Nat) (x3 : Nat) (x4 : Nat) (n_ones : Nat → Int32) (n_twos : Nat → Int32) (n_settings : Nat → Int32) (n_tick : Int32) (n_energy : Int32) (n_valuesPut : Int32) (t_ones : Nat → Int32) (t_twos : Nat → Int32) (t_settings : Nat → Int32) (t_tick : Int32) (t_energy : Int32) (t_valuesPut : Int32) (s_ring : Nat → SV) (s_oldest : Int32) (s_count : Int32) (x_signs : Nat → Int32) (x_length : Int32) (x_position : Int32) (x_complete : Int32) (x_orders : Int32) (x_kinds : Nat → Int32) (x_numbers : Nat → Int32) (x_values : Nat → Int32) (p1 : Int32) (p2 : Int32) {r : Int32} (hf : fX4_history n_ones n_twos n_settings n_tick p1 p2 = some r) : MetRI l yX4_history cX4_history 3 (some .int) 4 96 [.ref ob, .int p1, .int p2] (dC, dI) (tyS cyI cyC cyO) (wAll cyI cyC cyO ob n0 n1 n2 n3 t0 t1 t2 t3 s0 aR ro r1 r2 r3 x0 x1 x2 x3 x4 n_ones n_twos n_settings n_tick n_energy n_valuesPut t_ones t_twos t_settings t_tick t_energy t_valuesPut s_ring s_oldest s_count x_signs x_length x_position x_complete x_orders x_kinds x_numbers x_values) r := by
  refine metRI_of (by decide) (Nat.le_of_ble_eq_true rfl) ?_
  intro p e s m below meth c ls hC hr hlk hP hK hl
  have hC : CallFix p m c cX4_history 3 s [.ref ob, .int p1, .int p2].toArray wA RX4 := hC
  obtain ⟨hx, hb, hml, hown, hts⟩ := id hC
  have hS : va_S kF s.heap s.heap [] := va_S.rf
  have hl : lv_has ls 3 [(0, .ref ob), (1, .int p1), (2, .int p2)] := hl
  have h := hf
  unfold fX4_history at h
  obtain ⟨H, hH⟩ : ∃ H, H = s.heap := ⟨_, rfl⟩
  obtain ⟨locs, hlo⟩ : ∃ locs : List Loc, locs = [] := ⟨_, rfl⟩
  rw [← hH] at hP
  rw [← hlo] at hS
  have hS : va_S kF s.heap H locs := by rw [hH]; exact hS
  show W p l e (k_rm 4 96) s m [.ref ob, .int p1, .int p2].toArray below meth c s.heap [] 0 0 _ _
  rw [← hlo, ← hH]
  refine lv_iload_n hx hb dX4_history_0 rfl (lv_at hl 1 rfl) ?_
  refine lv_bipush (v := 16) hx hb dX4_history_1 (by decide) ?_
  obtain ⟨z1, hc3, h⟩ := k_b1_e h
  refine g_callRI_S (As := [.int p1, .int 16]) (rest := []) hC (mX4_isIndex l dC dI cyI cyC cyO p1 16 hc3) q80 q81 q8 q82 2 hdX4_isIndex ⟨Nat.le_of_ble_eq_true rfl, Nat.le_of_ble_eq_true rfl⟩ ⟨Nat.le_of_ble_eq_true rfl, Nat.le_of_ble_eq_true rfl⟩ rfl rfl hl.1 (Nat.le_of_ble_eq_true rfl) va_P_nil hK hS dX4_history_3 (fun H locs hk hS => ?_)
  have hP := k_kept hP hk
  obtain ⟨K18, hK18, h⟩ := k_j1_e h
  have J18 : ∀ (z2 : Int32) (H : Heap) (locs : List Loc) (ls : Array Slot), K18 z2 = some r → va_P (dC, dI) vwCl (wAll cyI cyC cyO ob n0 n1 n2 n3 t0 t1 t2 t3 s0 aR ro r1 r2 r3 x0 x1 x2 x3 x4 n_ones n_twos n_settings n_tick n_energy n_valuesPut t_ones t_twos t_settings t_tick t_energy t_valuesPut s_ring s_oldest s_count x_signs x_length x_position x_complete x_orders x_kinds x_numbers x_values) H → va_S kF s.heap H locs → lv_has ls 3 [(0, .ref ob), (1, .int p1), (2, .int p2)] → W p l e (k_rm 4 96) s m [.ref ob, .int p1, .int p2].toArray below meth c H locs 0 0 (MQ below (qRI r) [.ref ob, .int p1, .int p2].toArray s 0 0 kF) (F0 m 18 ls [.int z2]) := by
    intro z2 H locs ls h hP hS hl
    have h := k_a1 hK18 h
    obtain ⟨hv, h⟩ := k_req_e h
    refine g_callRV_S (As := [.int z2]) (rest := []) hC (mX4_requireArgument l (dC, dI) (tyS cyI cyC cyO) z2 hv) q83 q84 q8 q85 1 hdX4_requireArgument ⟨Nat.le_of_ble_eq_true rfl, Nat.le_of_ble_eq_true rfl⟩ ⟨Nat.le_of_ble_eq_true rfl, Nat.le_of_ble_eq_true rfl⟩ rfl rfl hl.1 (Nat.le_of_ble_eq_true rfl) va_P_nil hK hS dX4_history_18 (fun H locs hk hS => ?_)
    have hP := k_kept hP hk
    refine lv_aload_n hx hb dX4_history_21 rfl (lv_at hl 0 rfl) ?_
    refine va_get (D := (dC, dI)) (ci := 3) (v := .ref n0) (C := RX4) (T := TX4) (N := 4) hx hb hts iaX4 hown hK hP 0 rfl rfl 0 (by decide) (hts _ q72) (fun _ h9 => h9) rfl dX4_history_22 ?_
    refine lv_iload_n hx hb dX4_history_25 rfl (lv_at hl 1 rfl) ?_
    refine lv_iload_n hx hb dX4_history_26 rfl (lv_at hl 2 rfl) ?_
    obtain ⟨z3, hc27, h⟩ := k_b1_e h
    refine g_callRI_V (As := [.int p1, .int p2]) (rest := []) hC (mX3_earlierValue l dC dI cyI cyC cyO n0 n1 n2 n3 n_ones n_twos n_settings n_tick n_energy n_valuesPut p1 p2 hc27) q462 q463 q464 q9 q465 2 hdX3_earlierValue ⟨Nat.le_of_ble_eq_true rfl, Nat.le_of_ble_eq_true rfl⟩ ⟨Nat.le_of_ble_eq_true rfl, Nat.le_of_ble_eq_true rfl⟩ rfl rfl hl.1 (Nat.le_of_ble_eq_true rfl) (hP.sub (ws' := (wX3 cyI cyC n0 n1 n2 n3 n_ones n_twos n_settings n_tick n_energy n_valuesPut)) [1, 2, 3, 4] rfl) hK (va_recv hK hP (ci := 2) (q0 := 1) rfl rfl) hS dX4_history_27 (fun H locs hk hS => ?_)
    have hP := k_kept hP hk
    exact g_retRI hx hb hr hlk hS h dX4_history_30
  refine g_if_eq (tgt := 17) hx hb dX4_history_6 (by decide) h (fun h => ?_) (fun h => ?_)
  · refine lv_iconst (v := 0) hx hb dX4_history_17 (by decide) ?_
    exact J18 0 _ _ _ h hP hS (lv_sub hl [0, 1, 2] rfl)
  · refine lv_iload_n hx hb dX4_history_9 rfl (lv_at hl 2 rfl) ?_
    refine g_if_lt (tgt := 17) hx hb dX4_history_10 (by decide) h (fun h => ?_) (fun h => ?_)
    · refine lv_iconst (v := 0) hx hb dX4_history_17 (by decide) ?_
      exact J18 0 _ _ _ h hP hS (lv_sub hl [0, 1, 2] rfl)
    · refine lv_iconst (v := 1) hx hb dX4_history_13 (by decide) ?_
      refine lv_goto (tgt := 18) hx hb dX4_history_14 (by decide) ?_
      exact J18 1 _ _ _ h hP hS (lv_sub hl [0, 1, 2] rfl)
def fX4_countOf (n_ones : Nat → Int32) (n_twos : Nat → Int32) (n_settings : Nat → Int32) (n_tick : Int32) (n_energy : Int32) (n_valuesPut : Int32) (s_count : Int32) (p1 : Int32) : Option (Int32) :=
  k_if (p1 = 0)
  (
    some n_tick)
  (
    k_if (p1 = 1)
    (
      k_let (p1 - 1) fun (z1 : Int32) =>
      k_b1 (fX3_rowsOfKind n_ones n_twos n_settings n_tick z1) fun (z2 : Int32) =>
      some z2)
    (
      k_if (p1 = 2)
      (
        k_let (p1 - 1) fun (z3 : Int32) =>
        k_b1 (fX3_rowsOfKind n_ones n_twos n_settings n_tick z3) fun (z4 : Int32) =>
        some z4)
      (
        k_if (p1 = 3)
        (
          k_let (p1 - 1) fun (z5 : Int32) =>
          k_b1 (fX3_rowsOfKind n_ones n_twos n_settings n_tick z5) fun (z6 : Int32) =>
          some z6)
        (
          k_if (p1 = 4)
          (
            k_let (p1 - 1) fun (z7 : Int32) =>
            k_b1 (fX3_rowsOfKind n_ones n_twos n_settings n_tick z7) fun (z8 : Int32) =>
            some z8)
          (
            k_if (p1 = 5)
            (
              k_let (p1 - 1) fun (z9 : Int32) =>
              k_b1 (fX3_rowsOfKind n_ones n_twos n_settings n_tick z9) fun (z10 : Int32) =>
              some z10)
            (
              k_if (p1 = 6)
              (
                k_b1 (fX3_lockedRows n_ones n_twos n_tick) fun (z11 : Int32) =>
                some z11)
              (
                k_if (p1 = 7)
                (
                  k_b1 (fX3_allDoubtfulFuses n_ones n_twos) fun (z12 : Int32) =>
                  some z12)
                (
                  k_if (p1 = 8)
                  (
                    some n_energy)
                  (
                    k_if (p1 = 9)
                    (
                      k_b1 (fX3_keysWithValue n_ones n_twos n_settings n_tick) fun (z13 : Int32) =>
                      some z13)
                    (
                      k_if (p1 = 10)
                      (
                        k_b1 (fX3_nextRow n_ones n_twos n_settings n_tick) fun (z14 : Int32) =>
                        some z14)
                      (
                        k_if (p1 = 11)
                        (
                          some n_valuesPut)
                        (
                          k_if (p1 = 12)
                          (
                            some s_count)
                          (
                            k_let (p1 - 1) fun (z15 : Int32) =>
                            k_b1 (fX3_rowsOfKind n_ones n_twos n_settings n_tick z15) fun (z16 : Int32) =>
                            some z16)))))))))))))
theorem hdX4_countOf : yX4_countOf.cls = RX4 ∧ yX4_countOf.cls ≠ "java/lang/invoke/MethodHandle" ∧ yX4_countOf.cls ≠ "java/lang/invoke/VarHandle" ∧ (parseMethodDescriptor yX4_countOf.desc).map (fun d => d.parameters.length) = some 1 := by decide +kernel
set_option maxRecDepth 100000 in
set_option maxHeartbeats 4000000 in
theorem mX4_countOf (l : Launch) (dC : Nat → ClassId) (dI : Nat → Nat → Nat) (cyI cyC cyO : ClassId) (ob : Nat) (n0 : Nat) (n1 : Nat) (n2 : Nat) (n3 : Nat) (t0 : Nat) (t1 : Nat) (t2 : Nat) (t3 : Nat) (s0 : Nat) (aR : Nat) (ro : Nat → Nat) (r1 : Nat → Nat) (r2 : Nat → Nat) (r3 : Nat → Nat) (x0 : Nat) (x1 : Nat) (x2 : Nat) (x3 : Nat) (x4 : Nat) (n_ones : Nat → Int32) (n_twos : Nat → Int32) (n_settings : Nat → Int32) (n_tick : Int32) (n_energy : Int32) (n_valuesPut : Int32) (t_ones : Nat → Int32) (t_twos : Nat → Int32) (t_settings : Nat → Int32) (t_tick : Int32) (t_energy : Int32) (t_valuesPut : Int32) (s_ring : Nat → SV) (s_oldest : Int32) (s_count : Int32) (x_signs : Nat → Int32) (x_length : Int32) (x_position : Int32) (x_complete : Int32) (x_orders : Int32) (x_kinds : Nat → Int32) (x_numbers : Nat → Int32) (x_values : Nat → Int32) (p1 : Int32) {r : Int32} (hf : fX4_countOf n_ones n_twos n_settings n_tick n_energy n_valuesPut s_count p1 = some r) : MetRI l yX4_countOf cX4_countOf 2 (some .int) 4 92 [.ref ob, .int p1] (dC, dI) (tyS cyI cyC cyO) (wAll cyI cyC cyO ob n0 n1 n2 n3 t0 t1 t2 t3 s0 aR ro r1 r2 r3 x0 x1 x2 x3 x4 n_ones n_twos n_settings n_tick n_energy n_valuesPut t_ones t_twos t_settings t_tick t_energy t_valuesPut s_ring s_oldest s_count x_signs x_length x_position x_complete x_orders x_kinds x_numbers x_values) r := by
  refine metRI_of (by decide) (Nat.le_of_ble_eq_true rfl) ?_
  intro p e s m below meth c ls hC hr hlk hP hK hl
  have hC : CallFix p m c cX4_countOf 2 s [.ref ob, .int p1].toArray wA RX4 := hC
  obtain ⟨hx, hb, hml, hown, hts⟩ := id hC
  have hS : va_S kF s.heap s.heap [] := va_S.rf
  have hl : lv_has ls 2 [(0, .ref ob), (1, .int p1)] := hl
  have h := hf
  unfold fX4_countOf at h
  obtain ⟨H, hH⟩ : ∃ H, H = s.heap := ⟨_, rfl⟩
  obtain ⟨locs, hlo⟩ : ∃ locs : List Loc, locs = [] := ⟨_, rfl⟩
  rw [← hH] at hP
  rw [← hlo] at hS
  have hS : va_S kF s.heap H locs := by rw [hH]; exact hS
  show W p l e (k_rm 4 92) s m [.ref ob, .int p1].toArray below meth c s.heap [] 0 0 _ _
  rw [← hlo, ← hH]
  refine lv_iload_n hx hb dX4_countOf_0 rfl (lv_at hl 1 rfl) ?_
  refine g_arm (v := 0) (off := 67) (tgt := 68) hx hb dX4_countOf_1 (by decide) (by decide) (by decide +kernel) (by decide) h (fun _ h => ?_) (fun nq0 h => ?_)
  · refine lv_aload_n hx hb dX4_countOf_68 rfl (lv_at hl 0 rfl) ?_
    refine va_get (D := (dC, dI)) (ci := 3) (v := .ref n0) (C := RX4) (T := TX4) (N := 4) hx hb hts iaX4 hown hK hP 0 rfl rfl 0 (by decide) (hts _ q72) (fun _ h9 => h9) rfl dX4_countOf_69 ?_
    refine va_get (D := (dC, dI)) (ci := 2) (v := .int n_tick) (C := RX3) (T := TX3) (N := 6) hx hb hts iaX3 hown hK hP 1 rfl rfl 3 (by decide) (hts _ q43) (fun _ h9 => h9) rfl dX4_countOf_72 ?_
    exact g_retRI hx hb hr hlk hS h dX4_countOf_75
  · skip
    refine g_arm (v := 1) (off := 131) (tgt := 132) hx hb dX4_countOf_1 (by decide) (by decide) (by decide +kernel) (by decide) h (fun _ h => ?_) (fun nq1 h => ?_)
    · refine lv_aload_n hx hb dX4_countOf_132 rfl (lv_at hl 0 rfl) ?_
      refine va_get (D := (dC, dI)) (ci := 3) (v := .ref n0) (C := RX4) (T := TX4) (N := 4) hx hb hts iaX4 hown hK hP 0 rfl rfl 0 (by decide) (hts _ q72) (fun _ h9 => h9) rfl dX4_countOf_133 ?_
      refine lv_iload_n hx hb dX4_countOf_136 rfl (lv_at hl 1 rfl) ?_
      refine lv_iconst (v := 1) hx hb dX4_countOf_137 (by decide) ?_
      refine g_isub hx hb dX4_countOf_138 h (fun z1 h => ?_)
      obtain ⟨z2, hc139, h⟩ := k_b1_e h
      refine g_callRI_V (As := [.int z1]) (rest := []) hC (mX3_rowsOfKind l dC dI cyI cyC cyO n0 n1 n2 n3 n_ones n_twos n_settings n_tick n_energy n_valuesPut z1 hc139) q323 q324 q325 q9 q326 1 hdX3_rowsOfKind ⟨Nat.le_of_ble_eq_true rfl, Nat.le_of_ble_eq_true rfl⟩ ⟨Nat.le_of_ble_eq_true rfl, Nat.le_of_ble_eq_true rfl⟩ rfl rfl hl.1 (Nat.le_of_ble_eq_true rfl) (hP.sub (ws' := (wX3 cyI cyC n0 n1 n2 n3 n_ones n_twos n_settings n_tick n_energy n_valuesPut)) [1, 2, 3, 4] rfl) hK (va_recv hK hP (ci := 2) (q0 := 1) rfl rfl) hS dX4_countOf_139 (fun H locs hk hS => ?_)
      have hP := k_kept hP hk
      exact g_retRI hx hb hr hlk hS h dX4_countOf_142
    · skip
      refine g_arm (v := 2) (off := 131) (tgt := 132) hx hb dX4_countOf_1 (by decide) (by decide) (by decide +kernel) (by decide) h (fun _ h => ?_) (fun nq2 h => ?_)
      · refine lv_aload_n hx hb dX4_countOf_132 rfl (lv_at hl 0 rfl) ?_
        refine va_get (D := (dC, dI)) (ci := 3) (v := .ref n0) (C := RX4) (T := TX4) (N := 4) hx hb hts iaX4 hown hK hP 0 rfl rfl 0 (by decide) (hts _ q72) (fun _ h9 => h9) rfl dX4_countOf_133 ?_
        refine lv_iload_n hx hb dX4_countOf_136 rfl (lv_at hl 1 rfl) ?_
        refine lv_iconst (v := 1) hx hb dX4_countOf_137 (by decide) ?_
        refine g_isub hx hb dX4_countOf_138 h (fun z3 h => ?_)
        obtain ⟨z4, hc139, h⟩ := k_b1_e h
        refine g_callRI_V (As := [.int z3]) (rest := []) hC (mX3_rowsOfKind l dC dI cyI cyC cyO n0 n1 n2 n3 n_ones n_twos n_settings n_tick n_energy n_valuesPut z3 hc139) q323 q324 q325 q9 q326 1 hdX3_rowsOfKind ⟨Nat.le_of_ble_eq_true rfl, Nat.le_of_ble_eq_true rfl⟩ ⟨Nat.le_of_ble_eq_true rfl, Nat.le_of_ble_eq_true rfl⟩ rfl rfl hl.1 (Nat.le_of_ble_eq_true rfl) (hP.sub (ws' := (wX3 cyI cyC n0 n1 n2 n3 n_ones n_twos n_settings n_tick n_energy n_valuesPut)) [1, 2, 3, 4] rfl) hK (va_recv hK hP (ci := 2) (q0 := 1) rfl rfl) hS dX4_countOf_139 (fun H locs hk hS => ?_)
        have hP := k_kept hP hk
        exact g_retRI hx hb hr hlk hS h dX4_countOf_142
      · skip
        refine g_arm (v := 3) (off := 131) (tgt := 132) hx hb dX4_countOf_1 (by decide) (by decide) (by decide +kernel) (by decide) h (fun _ h => ?_) (fun nq3 h => ?_)
        · refine lv_aload_n hx hb dX4_countOf_132 rfl (lv_at hl 0 rfl) ?_
          refine va_get (D := (dC, dI)) (ci := 3) (v := .ref n0) (C := RX4) (T := TX4) (N := 4) hx hb hts iaX4 hown hK hP 0 rfl rfl 0 (by decide) (hts _ q72) (fun _ h9 => h9) rfl dX4_countOf_133 ?_
          refine lv_iload_n hx hb dX4_countOf_136 rfl (lv_at hl 1 rfl) ?_
          refine lv_iconst (v := 1) hx hb dX4_countOf_137 (by decide) ?_
          refine g_isub hx hb dX4_countOf_138 h (fun z5 h => ?_)
          obtain ⟨z6, hc139, h⟩ := k_b1_e h
          refine g_callRI_V (As := [.int z5]) (rest := []) hC (mX3_rowsOfKind l dC dI cyI cyC cyO n0 n1 n2 n3 n_ones n_twos n_settings n_tick n_energy n_valuesPut z5 hc139) q323 q324 q325 q9 q326 1 hdX3_rowsOfKind ⟨Nat.le_of_ble_eq_true rfl, Nat.le_of_ble_eq_true rfl⟩ ⟨Nat.le_of_ble_eq_true rfl, Nat.le_of_ble_eq_true rfl⟩ rfl rfl hl.1 (Nat.le_of_ble_eq_true rfl) (hP.sub (ws' := (wX3 cyI cyC n0 n1 n2 n3 n_ones n_twos n_settings n_tick n_energy n_valuesPut)) [1, 2, 3, 4] rfl) hK (va_recv hK hP (ci := 2) (q0 := 1) rfl rfl) hS dX4_countOf_139 (fun H locs hk hS => ?_)
          have hP := k_kept hP hk
          exact g_retRI hx hb hr hlk hS h dX4_countOf_142
        · skip
          refine g_arm (v := 4) (off := 131) (tgt := 132) hx hb dX4_countOf_1 (by decide) (by decide) (by decide +kernel) (by decide) h (fun _ h => ?_) (fun nq4 h => ?_)
          · refine lv_aload_n hx hb dX4_countOf_132 rfl (lv_at hl 0 rfl) ?_
            refine va_get (D := (dC, dI)) (ci := 3) (v := .ref n0) (C := RX4) (T := TX4) (N := 4) hx hb hts iaX4 hown hK hP 0 rfl rfl 0 (by decide) (hts _ q72) (fun _ h9 => h9) rfl dX4_countOf_133 ?_
            refine lv_iload_n hx hb dX4_countOf_136 rfl (lv_at hl 1 rfl) ?_
            refine lv_iconst (v := 1) hx hb dX4_countOf_137 (by decide) ?_
            refine g_isub hx hb dX4_countOf_138 h (fun z7 h => ?_)
            obtain ⟨z8, hc139, h⟩ := k_b1_e h
            refine g_callRI_V (As := [.int z7]) (rest := []) hC (mX3_rowsOfKind l dC dI cyI cyC cyO n0 n1 n2 n3 n_ones n_twos n_settings n_tick n_energy n_valuesPut z7 hc139) q323 q324 q325 q9 q326 1 hdX3_rowsOfKind ⟨Nat.le_of_ble_eq_true rfl, Nat.le_of_ble_eq_true rfl⟩ ⟨Nat.le_of_ble_eq_true rfl, Nat.le_of_ble_eq_true rfl⟩ rfl rfl hl.1 (Nat.le_of_ble_eq_true rfl) (hP.sub (ws' := (wX3 cyI cyC n0 n1 n2 n3 n_ones n_twos n_settings n_tick n_energy n_valuesPut)) [1, 2, 3, 4] rfl) hK (va_recv hK hP (ci := 2) (q0 := 1) rfl rfl) hS dX4_countOf_139 (fun H locs hk hS => ?_)
            have hP := k_kept hP hk
            exact g_retRI hx hb hr hlk hS h dX4_countOf_142
          · skip
            refine g_arm (v := 5) (off := 131) (tgt := 132) hx hb dX4_countOf_1 (by decide) (by decide) (by decide +kernel) (by decide) h (fun _ h => ?_) (fun nq5 h => ?_)
            · refine lv_aload_n hx hb dX4_countOf_132 rfl (lv_at hl 0 rfl) ?_
              refine va_get (D := (dC, dI)) (ci := 3) (v := .ref n0) (C := RX4) (T := TX4) (N := 4) hx hb hts iaX4 hown hK hP 0 rfl rfl 0 (by decide) (hts _ q72) (fun _ h9 => h9) rfl dX4_countOf_133 ?_
              refine lv_iload_n hx hb dX4_countOf_136 rfl (lv_at hl 1 rfl) ?_
              refine lv_iconst (v := 1) hx hb dX4_countOf_137 (by decide) ?_
              refine g_isub hx hb dX4_countOf_138 h (fun z9 h => ?_)
              obtain ⟨z10, hc139, h⟩ := k_b1_e h
              refine g_callRI_V (As := [.int z9]) (rest := []) hC (mX3_rowsOfKind l dC dI cyI cyC cyO n0 n1 n2 n3 n_ones n_twos n_settings n_tick n_energy n_valuesPut z9 hc139) q323 q324 q325 q9 q326 1 hdX3_rowsOfKind ⟨Nat.le_of_ble_eq_true rfl, Nat.le_of_ble_eq_true rfl⟩ ⟨Nat.le_of_ble_eq_true rfl, Nat.le_of_ble_eq_true rfl⟩ rfl rfl hl.1 (Nat.le_of_ble_eq_true rfl) (hP.sub (ws' := (wX3 cyI cyC n0 n1 n2 n3 n_ones n_twos n_settings n_tick n_energy n_valuesPut)) [1, 2, 3, 4] rfl) hK (va_recv hK hP (ci := 2) (q0 := 1) rfl rfl) hS dX4_countOf_139 (fun H locs hk hS => ?_)
              have hP := k_kept hP hk
              exact g_retRI hx hb hr hlk hS h dX4_countOf_142
            · skip
              refine g_arm (v := 6) (off := 75) (tgt := 76) hx hb dX4_countOf_1 (by decide) (by decide) (by decide +kernel) (by decide) h (fun _ h => ?_) (fun nq6 h => ?_)
              · refine lv_aload_n hx hb dX4_countOf_76 rfl (lv_at hl 0 rfl) ?_
                refine va_get (D := (dC, dI)) (ci := 3) (v := .ref n0) (C := RX4) (T := TX4) (N := 4) hx hb hts iaX4 hown hK hP 0 rfl rfl 0 (by decide) (hts _ q72) (fun _ h9 => h9) rfl dX4_countOf_77 ?_
                obtain ⟨z11, hc80, h⟩ := k_b1_e h
                refine g_callRI_V (As := []) (rest := []) hC (mX3_lockedRows l dC dI cyI cyC cyO n0 n1 n2 n3 n_ones n_twos n_settings n_tick n_energy n_valuesPut hc80) q212 q213 q214 q9 q215 0 hdX3_lockedRows ⟨Nat.le_of_ble_eq_true rfl, Nat.le_of_ble_eq_true rfl⟩ ⟨Nat.le_of_ble_eq_true rfl, Nat.le_of_ble_eq_true rfl⟩ rfl rfl hl.1 (Nat.le_of_ble_eq_true rfl) (hP.sub (ws' := (wX3 cyI cyC n0 n1 n2 n3 n_ones n_twos n_settings n_tick n_energy n_valuesPut)) [1, 2, 3, 4] rfl) hK (va_recv hK hP (ci := 2) (q0 := 1) rfl rfl) hS dX4_countOf_80 (fun H locs hk hS => ?_)
                have hP := k_kept hP hk
                exact g_retRI hx hb hr hlk hS h dX4_countOf_83
              · skip
                refine g_arm (v := 7) (off := 83) (tgt := 84) hx hb dX4_countOf_1 (by decide) (by decide) (by decide +kernel) (by decide) h (fun _ h => ?_) (fun nq7 h => ?_)
                · refine lv_aload_n hx hb dX4_countOf_84 rfl (lv_at hl 0 rfl) ?_
                  refine va_get (D := (dC, dI)) (ci := 3) (v := .ref n0) (C := RX4) (T := TX4) (N := 4) hx hb hts iaX4 hown hK hP 0 rfl rfl 0 (by decide) (hts _ q72) (fun _ h9 => h9) rfl dX4_countOf_85 ?_
                  obtain ⟨z12, hc88, h⟩ := k_b1_e h
                  refine g_callRI_V (As := []) (rest := []) hC (mX3_allDoubtfulFuses l dC dI cyI cyC cyO n0 n1 n2 n3 n_ones n_twos n_settings n_tick n_energy n_valuesPut hc88) q306 q307 q308 q9 q309 0 hdX3_allDoubtfulFuses ⟨Nat.le_of_ble_eq_true rfl, Nat.le_of_ble_eq_true rfl⟩ ⟨Nat.le_of_ble_eq_true rfl, Nat.le_of_ble_eq_true rfl⟩ rfl rfl hl.1 (Nat.le_of_ble_eq_true rfl) (hP.sub (ws' := (wX3 cyI cyC n0 n1 n2 n3 n_ones n_twos n_settings n_tick n_energy n_valuesPut)) [1, 2, 3, 4] rfl) hK (va_recv hK hP (ci := 2) (q0 := 1) rfl rfl) hS dX4_countOf_88 (fun H locs hk hS => ?_)
                  have hP := k_kept hP hk
                  exact g_retRI hx hb hr hlk hS h dX4_countOf_91
                · skip
                  refine g_arm (v := 8) (off := 91) (tgt := 92) hx hb dX4_countOf_1 (by decide) (by decide) (by decide +kernel) (by decide) h (fun _ h => ?_) (fun nq8 h => ?_)
                  · refine lv_aload_n hx hb dX4_countOf_92 rfl (lv_at hl 0 rfl) ?_
                    refine va_get (D := (dC, dI)) (ci := 3) (v := .ref n0) (C := RX4) (T := TX4) (N := 4) hx hb hts iaX4 hown hK hP 0 rfl rfl 0 (by decide) (hts _ q72) (fun _ h9 => h9) rfl dX4_countOf_93 ?_
                    refine va_get (D := (dC, dI)) (ci := 2) (v := .int n_energy) (C := RX3) (T := TX3) (N := 6) hx hb hts iaX3 hown hK hP 1 rfl rfl 4 (by decide) (hts _ q45) (fun _ h9 => h9) rfl dX4_countOf_96 ?_
                    exact g_retRI hx hb hr hlk hS h dX4_countOf_99
                  · skip
                    refine g_arm (v := 9) (off := 99) (tgt := 100) hx hb dX4_countOf_1 (by decide) (by decide) (by decide +kernel) (by decide) h (fun _ h => ?_) (fun nq9 h => ?_)
                    · refine lv_aload_n hx hb dX4_countOf_100 rfl (lv_at hl 0 rfl) ?_
                      refine va_get (D := (dC, dI)) (ci := 3) (v := .ref n0) (C := RX4) (T := TX4) (N := 4) hx hb hts iaX4 hown hK hP 0 rfl rfl 0 (by decide) (hts _ q72) (fun _ h9 => h9) rfl dX4_countOf_101 ?_
                      obtain ⟨z13, hc104, h⟩ := k_b1_e h
                      refine g_callRI_V (As := []) (rest := []) hC (mX3_keysWithValue l dC dI cyI cyC cyO n0 n1 n2 n3 n_ones n_twos n_settings n_tick n_energy n_valuesPut hc104) q311 q312 q313 q9 q314 0 hdX3_keysWithValue ⟨Nat.le_of_ble_eq_true rfl, Nat.le_of_ble_eq_true rfl⟩ ⟨Nat.le_of_ble_eq_true rfl, Nat.le_of_ble_eq_true rfl⟩ rfl rfl hl.1 (Nat.le_of_ble_eq_true rfl) (hP.sub (ws' := (wX3 cyI cyC n0 n1 n2 n3 n_ones n_twos n_settings n_tick n_energy n_valuesPut)) [1, 2, 3, 4] rfl) hK (va_recv hK hP (ci := 2) (q0 := 1) rfl rfl) hS dX4_countOf_104 (fun H locs hk hS => ?_)
                      have hP := k_kept hP hk
                      exact g_retRI hx hb hr hlk hS h dX4_countOf_107
                    · skip
                      refine g_arm (v := 10) (off := 107) (tgt := 108) hx hb dX4_countOf_1 (by decide) (by decide) (by decide +kernel) (by decide) h (fun _ h => ?_) (fun nq10 h => ?_)
                      · refine lv_aload_n hx hb dX4_countOf_108 rfl (lv_at hl 0 rfl) ?_
                        refine va_get (D := (dC, dI)) (ci := 3) (v := .ref n0) (C := RX4) (T := TX4) (N := 4) hx hb hts iaX4 hown hK hP 0 rfl rfl 0 (by decide) (hts _ q72) (fun _ h9 => h9) rfl dX4_countOf_109 ?_
                        obtain ⟨z14, hc112, h⟩ := k_b1_e h
                        refine g_callRI_V (As := []) (rest := []) hC (mX3_nextRow l dC dI cyI cyC cyO n0 n1 n2 n3 n_ones n_twos n_settings n_tick n_energy n_valuesPut hc112) q315 q316 q317 q9 q318 0 hdX3_nextRow ⟨Nat.le_of_ble_eq_true rfl, Nat.le_of_ble_eq_true rfl⟩ ⟨Nat.le_of_ble_eq_true rfl, Nat.le_of_ble_eq_true rfl⟩ rfl rfl hl.1 (Nat.le_of_ble_eq_true rfl) (hP.sub (ws' := (wX3 cyI cyC n0 n1 n2 n3 n_ones n_twos n_settings n_tick n_energy n_valuesPut)) [1, 2, 3, 4] rfl) hK (va_recv hK hP (ci := 2) (q0 := 1) rfl rfl) hS dX4_countOf_112 (fun H locs hk hS => ?_)
                        have hP := k_kept hP hk
                        exact g_retRI hx hb hr hlk hS h dX4_countOf_115
                      · skip
                        refine g_arm (v := 11) (off := 115) (tgt := 116) hx hb dX4_countOf_1 (by decide) (by decide) (by decide +kernel) (by decide) h (fun _ h => ?_) (fun nq11 h => ?_)
                        · refine lv_aload_n hx hb dX4_countOf_116 rfl (lv_at hl 0 rfl) ?_
                          refine va_get (D := (dC, dI)) (ci := 3) (v := .ref n0) (C := RX4) (T := TX4) (N := 4) hx hb hts iaX4 hown hK hP 0 rfl rfl 0 (by decide) (hts _ q72) (fun _ h9 => h9) rfl dX4_countOf_117 ?_
                          refine va_get (D := (dC, dI)) (ci := 2) (v := .int n_valuesPut) (C := RX3) (T := TX3) (N := 6) hx hb hts iaX3 hown hK hP 1 rfl rfl 5 (by decide) (hts _ q47) (fun _ h9 => h9) rfl dX4_countOf_120 ?_
                          exact g_retRI hx hb hr hlk hS h dX4_countOf_123
                        · skip
                          refine g_arm (v := 12) (off := 123) (tgt := 124) hx hb dX4_countOf_1 (by decide) (by decide) (by decide +kernel) (by decide) h (fun _ h => ?_) (fun nq12 h => ?_)
                          · refine lv_aload_n hx hb dX4_countOf_124 rfl (lv_at hl 0 rfl) ?_
                            refine va_get (D := (dC, dI)) (ci := 3) (v := .ref s0) (C := RX4) (T := TX4) (N := 4) hx hb hts iaX4 hown hK hP 0 rfl rfl 2 (by decide) (hts _ q74) (fun _ h9 => h9) rfl dX4_countOf_125 ?_
                            refine va_get (D := (dC, dI)) (ci := 1) (v := .int s_count) (C := RX2) (T := TX2) (N := 3) hx hb hts iaX2 hown hK hP 9 rfl rfl 2 (by decide) (hts _ q60) (fun _ h9 => h9) rfl dX4_countOf_128 ?_
                            exact g_retRI hx hb hr hlk hS h dX4_countOf_131
                          · skip
                            refine lv_tableOut (tgt := 132) hx hb dX4_countOf_1 (by have zq0 := g_ne (z := 0) (by decide) nq0; have zq1 := g_ne (z := 1) (by decide) nq1; have zq2 := g_ne (z := 2) (by decide) nq2; have zq3 := g_ne (z := 3) (by decide) nq3; have zq4 := g_ne (z := 4) (by decide) nq4; have zq5 := g_ne (z := 5) (by decide) nq5; have zq6 := g_ne (z := 6) (by decide) nq6; have zq7 := g_ne (z := 7) (by decide) nq7; have zq8 := g_ne (z := 8) (by decide) nq8; have zq9 := g_ne (z := 9) (by decide) nq9; have zq10 := g_ne (z := 10) (by decide) nq10; have zq11 := g_ne (z := 11) (by decide) nq11; have zq12 := g_ne (z := 12) (by decide) nq12; omega) (by decide) ?_
                            refine lv_aload_n hx hb dX4_countOf_132 rfl (lv_at hl 0 rfl) ?_
                            refine va_get (D := (dC, dI)) (ci := 3) (v := .ref n0) (C := RX4) (T := TX4) (N := 4) hx hb hts iaX4 hown hK hP 0 rfl rfl 0 (by decide) (hts _ q72) (fun _ h9 => h9) rfl dX4_countOf_133 ?_
                            refine lv_iload_n hx hb dX4_countOf_136 rfl (lv_at hl 1 rfl) ?_
                            refine lv_iconst (v := 1) hx hb dX4_countOf_137 (by decide) ?_
                            refine g_isub hx hb dX4_countOf_138 h (fun z15 h => ?_)
                            obtain ⟨z16, hc139, h⟩ := k_b1_e h
                            refine g_callRI_V (As := [.int z15]) (rest := []) hC (mX3_rowsOfKind l dC dI cyI cyC cyO n0 n1 n2 n3 n_ones n_twos n_settings n_tick n_energy n_valuesPut z15 hc139) q323 q324 q325 q9 q326 1 hdX3_rowsOfKind ⟨Nat.le_of_ble_eq_true rfl, Nat.le_of_ble_eq_true rfl⟩ ⟨Nat.le_of_ble_eq_true rfl, Nat.le_of_ble_eq_true rfl⟩ rfl rfl hl.1 (Nat.le_of_ble_eq_true rfl) (hP.sub (ws' := (wX3 cyI cyC n0 n1 n2 n3 n_ones n_twos n_settings n_tick n_energy n_valuesPut)) [1, 2, 3, 4] rfl) hK (va_recv hK hP (ci := 2) (q0 := 1) rfl rfl) hS dX4_countOf_139 (fun H locs hk hS => ?_)
                            have hP := k_kept hP hk
                            exact g_retRI hx hb hr hlk hS h dX4_countOf_142
