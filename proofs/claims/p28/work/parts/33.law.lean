def fL_put (n_ones : Nat → Int32) (n_twos : Nat → Int32) (n_settings : Nat → Int32) (n_tick : Int32) (n_energy : Int32) (n_valuesPut : Int32) (t_ones : Nat → Int32) (t_twos : Nat → Int32) (t_settings : Nat → Int32) (t_tick : Int32) (t_energy : Int32) (t_valuesPut : Int32) (s_ring : Nat → SV) (s_oldest : Int32) (s_count : Int32) (p1 : Int32) (p2 : Int32) : Option (Int32 × (Nat → Int32) × (Nat → Int32) × Int32 × Int32 × (Nat → Int32) × (Nat → Int32) × (Nat → Int32) × Int32 × Int32 × Int32 × (Nat → SV) × Int32 × Int32) :=
  k_b1 (fX4_count n_ones n_twos n_settings n_tick n_energy n_valuesPut s_count 10) fun (z1 : Int32) =>
  k_b7 (fX4_ifPut n_ones n_twos n_settings n_tick n_energy n_valuesPut t_ones t_twos t_settings t_tick t_energy t_valuesPut p1 p2 0) fun (z2 : Int32) (c3 : Nat → Int32) (c4 : Nat → Int32) (c5 : Nat → Int32) (c6 : Int32) (c7 : Int32) (c8 : Int32) =>
  k_if (z1 = ((-1)))
  (
    k_if (z2 = ((-1)))
    (
      k_b7 (fX4_ifPut n_ones n_twos n_settings n_tick n_energy n_valuesPut c3 c4 c5 c6 c7 c8 p1 p2 3) fun (z75 : Int32) (c76 : Nat → Int32) (c77 : Nat → Int32) (c78 : Nat → Int32) (c79 : Int32) (c80 : Int32) (c81 : Int32) =>
      k_if (z75 = ((-1)))
      (
        some (1, n_ones, n_twos, n_energy, n_valuesPut, c76, c77, c78, c79, c80, c81, s_ring, s_oldest, s_count))
      (
        some (0, n_ones, n_twos, n_energy, n_valuesPut, c76, c77, c78, c79, c80, c81, s_ring, s_oldest, s_count)))
    (
      some (0, n_ones, n_twos, n_energy, n_valuesPut, c3, c4, c5, c6, c7, c8, s_ring, s_oldest, s_count)))
  (
    k_b7 (fX4_ifPut n_ones n_twos n_settings n_tick n_energy n_valuesPut c3 c4 c5 c6 c7 c8 p1 p2 1) fun (z9 : Int32) (c10 : Nat → Int32) (c11 : Nat → Int32) (c12 : Nat → Int32) (c13 : Int32) (c14 : Int32) (c15 : Int32) =>
    k_b1 (fX4_count n_ones n_twos n_settings n_tick n_energy n_valuesPut s_count 8) fun (z16 : Int32) =>
    k_b7 (fX4_ifPut n_ones n_twos n_settings n_tick n_energy n_valuesPut c10 c11 c12 c13 c14 c15 p1 p2 2) fun (z17 : Int32) (c18 : Nat → Int32) (c19 : Nat → Int32) (c20 : Nat → Int32) (c21 : Int32) (c22 : Int32) (c23 : Int32) =>
    k_let (z16 + z17) fun (z24 : Int32) =>
    k_b7 (fX4_ifPut n_ones n_twos n_settings n_tick n_energy n_valuesPut c18 c19 c20 c21 c22 c23 p1 p2 3) fun (z25 : Int32) (c26 : Nat → Int32) (c27 : Nat → Int32) (c28 : Nat → Int32) (c29 : Int32) (c30 : Int32) (c31 : Int32) =>
    k_b7 (fX4_ifPut n_ones n_twos n_settings n_tick n_energy n_valuesPut c26 c27 c28 c29 c30 c31 p1 p2 4) fun (z32 : Int32) (c33 : Nat → Int32) (c34 : Nat → Int32) (c35 : Nat → Int32) (c36 : Int32) (c37 : Int32) (c38 : Int32) =>
    k_b1 (fX4_key n_ones n_twos n_settings n_tick p1 2) fun (z39 : Int32) =>
    k_b1 (fX4_count n_ones n_twos n_settings n_tick n_energy n_valuesPut s_count 11) fun (z40 : Int32) =>
    k_b1 (fX4_setting n_settings 1) fun (z41 : Int32) =>
    k_j1
    (fun (z42 : Int32) =>
      k_b1 (fX4_row n_ones n_twos n_settings n_tick z1 1) fun (z43 : Int32) =>
      k_j1
      (fun (z44 : Int32) =>
        k_j8
        (fun (z45 : Int32) (c46 : Nat → Int32) (c47 : Nat → Int32) (c48 : Int32) (c49 : Int32) (c50 : Nat → SV) (c51 : Int32) (c52 : Int32) =>
          k_j1
          (fun (z53 : Int32) =>
            k_if (z53 = 0)
            (
              some (0, c46, c47, c48, c49, c33, c34, c35, c36, c37, c38, c50, c51, c52))
            (
              k_if (z42 = 0)
              (
                some (1, c46, c47, c48, c49, c33, c34, c35, c36, c37, c38, c50, c51, c52))
              (
                k_if (z2 = 1)
                (
                  k_if (z9 = 4)
                  (
                    k_if (z25 = p2)
                    (
                      k_b1 (fX4_key c46 c47 n_settings n_tick p1 1) fun (z54 : Int32) =>
                      k_if (z54 = z1)
                      (
                        k_b1 (fX4_row c46 c47 n_settings n_tick z1 2) fun (z55 : Int32) =>
                        k_if (z55 = p1)
                        (
                          k_b1 (fX4_row c46 c47 n_settings n_tick z1 3) fun (z56 : Int32) =>
                          k_if (z56 = p2)
                          (
                            k_b1 (fX4_row c46 c47 n_settings n_tick z1 5) fun (z57 : Int32) =>
                            k_b1 (fX4_row c46 c47 n_settings n_tick z1 4) fun (z58 : Int32) =>
                            k_if (z57 = z58)
                            (
                              some (1, c46, c47, c48, c49, c33, c34, c35, c36, c37, c38, c50, c51, c52))
                            (
                              some (0, c46, c47, c48, c49, c33, c34, c35, c36, c37, c38, c50, c51, c52)))
                          (
                            some (0, c46, c47, c48, c49, c33, c34, c35, c36, c37, c38, c50, c51, c52)))
                        (
                          some (0, c46, c47, c48, c49, c33, c34, c35, c36, c37, c38, c50, c51, c52)))
                      (
                        some (0, c46, c47, c48, c49, c33, c34, c35, c36, c37, c38, c50, c51, c52)))
                    (
                      some (0, c46, c47, c48, c49, c33, c34, c35, c36, c37, c38, c50, c51, c52)))
                  (
                    some (0, c46, c47, c48, c49, c33, c34, c35, c36, c37, c38, c50, c51, c52)))
                (
                  some (0, c46, c47, c48, c49, c33, c34, c35, c36, c37, c38, c50, c51, c52)))))
          (fun K266 =>
          k_if (z45 = 0)
          (
            K266 0)
          (
            k_if (z2 < 1)
            (
              K266 0)
            (
              k_b1 (fX4_setting n_settings 2) fun (z59 : Int32) =>
              k_if (z59 < z2)
              (
                K266 0)
              (
                k_b1 (fX4_setting n_settings 3) fun (z60 : Int32) =>
                k_if (z60 = 1)
                (
                  K266 1)
                (
                  k_if (z32 = 0)
                  (
                    K266 1)
                  (
                    K266 0)))))))
        (fun K224 =>
        k_if (z44 = 0)
        (
          K224 0 n_ones n_twos n_energy n_valuesPut s_ring s_oldest s_count)
        (
          k_b8 (fX4_put n_ones n_twos n_settings n_tick n_energy n_valuesPut s_ring s_oldest s_count p1 p2) fun (z61 : Int32) (c62 : Nat → Int32) (c63 : Nat → Int32) (c64 : Int32) (c65 : Int32) (c66 : Nat → SV) (c67 : Int32) (c68 : Int32) =>
          k_if (z61 = z2)
          (
            k_b1 (fX4_row c62 c63 n_settings n_tick z1 1) fun (z69 : Int32) =>
            k_if (z69 = z9)
            (
              k_b1 (fX4_count c62 c63 n_settings n_tick c64 c65 c68 8) fun (z70 : Int32) =>
              k_if (z70 = z24)
              (
                k_b1 (fX4_key c62 c63 n_settings n_tick p1 0) fun (z71 : Int32) =>
                k_if (z71 = z25)
                (
                  k_b1 (fX4_count c62 c63 n_settings n_tick c64 c65 c68 11) fun (z72 : Int32) =>
                  k_let (z40 + 1) fun (z73 : Int32) =>
                  k_if (z72 = z73)
                  (
                    k_if (z32 < 0)
                    (
                      K224 0 c62 c63 c64 c65 c66 c67 c68)
                    (
                      k_if (z39 < z32)
                      (
                        K224 0 c62 c63 c64 c65 c66 c67 c68)
                      (
                        K224 1 c62 c63 c64 c65 c66 c67 c68)))
                  (
                    K224 0 c62 c63 c64 c65 c66 c67 c68))
                (
                  K224 0 c62 c63 c64 c65 c66 c67 c68))
              (
                K224 0 c62 c63 c64 c65 c66 c67 c68))
            (
              K224 0 c62 c63 c64 c65 c66 c67 c68))
          (
            K224 0 c62 c63 c64 c65 c66 c67 c68))))
      (fun K143 =>
      k_if (z43 = 0)
      (
        k_b1 (fX4_row n_ones n_twos n_settings n_tick z1 7) fun (z74 : Int32) =>
        k_if (z74 = 0)
        (
          K143 1)
        (
          K143 0))
      (
        K143 0)))
    (fun K117 =>
    k_if (z41 = 3)
    (
      K117 1)
    (
      K117 0)))
theorem hdL_put : yL_put.cls ≠ "java/lang/invoke/MethodHandle" ∧ yL_put.cls ≠ "java/lang/invoke/VarHandle" ∧ (parseMethodDescriptor yL_put.desc).map (fun d => d.parameters.length) = some 3 := by decide +kernel
set_option maxRecDepth 100000 in
set_option maxHeartbeats 4000000 in
theorem mL_put (l : Launch) (dC : Nat → ClassId) (dI : Nat → Nat → Nat) (cyI cyC cyO : ClassId) (ob : Nat) (n0 : Nat) (n1 : Nat) (n2 : Nat) (n3 : Nat) (t0 : Nat) (t1 : Nat) (t2 : Nat) (t3 : Nat) (s0 : Nat) (aR : Nat) (ro : Nat → Nat) (r1 : Nat → Nat) (r2 : Nat → Nat) (r3 : Nat → Nat) (x0 : Nat) (x1 : Nat) (x2 : Nat) (x3 : Nat) (x4 : Nat) (n_ones : Nat → Int32) (n_twos : Nat → Int32) (n_settings : Nat → Int32) (n_tick : Int32) (n_energy : Int32) (n_valuesPut : Int32) (t_ones : Nat → Int32) (t_twos : Nat → Int32) (t_settings : Nat → Int32) (t_tick : Int32) (t_energy : Int32) (t_valuesPut : Int32) (s_ring : Nat → SV) (s_oldest : Int32) (s_count : Int32) (x_signs : Nat → Int32) (x_length : Int32) (x_position : Int32) (x_complete : Int32) (x_orders : Int32) (x_kinds : Nat → Int32) (x_numbers : Nat → Int32) (x_values : Nat → Int32) (p1 : Int32) (p2 : Int32) {r : Int32} {r_n_ones : Nat → Int32} {r_n_twos : Nat → Int32} {r_n_energy : Int32} {r_n_valuesPut : Int32} {r_t_ones : Nat → Int32} {r_t_twos : Nat → Int32} {r_t_settings : Nat → Int32} {r_t_tick : Int32} {r_t_energy : Int32} {r_t_valuesPut : Int32} {r_s_ring : Nat → SV} {r_s_oldest : Int32} {r_s_count : Int32} (hf : fL_put n_ones n_twos n_settings n_tick n_energy n_valuesPut t_ones t_twos t_settings t_tick t_energy t_valuesPut s_ring s_oldest s_count p1 p2 = some (r, r_n_ones, r_n_twos, r_n_energy, r_n_valuesPut, r_t_ones, r_t_twos, r_t_settings, r_t_tick, r_t_energy, r_t_valuesPut, r_s_ring, r_s_oldest, r_s_count)) : MetMI l yL_put cL_put 13 (some .boolean) 7 160 [.ref ob, .int p1, .int p2] (dC, dI) (tyS cyI cyC cyO) (wAll cyI cyC cyO ob n0 n1 n2 n3 t0 t1 t2 t3 s0 aR ro r1 r2 r3 x0 x1 x2 x3 x4 n_ones n_twos n_settings n_tick n_energy n_valuesPut t_ones t_twos t_settings t_tick t_energy t_valuesPut s_ring s_oldest s_count x_signs x_length x_position x_complete x_orders x_kinds x_numbers x_values) (wAll cyI cyC cyO ob n0 n1 n2 n3 t0 t1 t2 t3 s0 aR ro r1 r2 r3 x0 x1 x2 x3 x4 r_n_ones r_n_twos n_settings n_tick r_n_energy r_n_valuesPut r_t_ones r_t_twos r_t_settings r_t_tick r_t_energy r_t_valuesPut r_s_ring r_s_oldest r_s_count x_signs x_length x_position x_complete x_orders x_kinds x_numbers x_values) r := by
  refine metMI_of (by decide) (Nat.le_of_ble_eq_true rfl) ?_
  intro p e s m below meth c ls hC hr hlk hP hK hD hl
  have hC : CallFix p m c cL_put 13 s [.ref ob, .int p1, .int p2].toArray wA RL := hC
  obtain ⟨hx, hb, hml, hown, hts⟩ := id hC
  have hS : va_S (k_A (wAll cyI cyC cyO ob n0 n1 n2 n3 t0 t1 t2 t3 s0 aR ro r1 r2 r3 x0 x1 x2 x3 x4 n_ones n_twos n_settings n_tick n_energy n_valuesPut t_ones t_twos t_settings t_tick t_energy t_valuesPut s_ring s_oldest s_count x_signs x_length x_position x_complete x_orders x_kinds x_numbers x_values)) s.heap s.heap [] := va_S.rf
  have hl : lv_has ls 13 [(0, .ref ob), (1, .int p1), (2, .int p2)] := hl
  have h := hf
  unfold fL_put at h
  obtain ⟨H, hH⟩ : ∃ H, H = s.heap := ⟨_, rfl⟩
  obtain ⟨locs, hlo⟩ : ∃ locs : List Loc, locs = [] := ⟨_, rfl⟩
  rw [← hH] at hP
  rw [← hlo] at hS
  have hS : va_S (k_A (wAll cyI cyC cyO ob n0 n1 n2 n3 t0 t1 t2 t3 s0 aR ro r1 r2 r3 x0 x1 x2 x3 x4 n_ones n_twos n_settings n_tick n_energy n_valuesPut t_ones t_twos t_settings t_tick t_energy t_valuesPut s_ring s_oldest s_count x_signs x_length x_position x_complete x_orders x_kinds x_numbers x_values)) s.heap H locs := by rw [hH]; exact hS
  show W p l e (k_rm 7 160) s m [.ref ob, .int p1, .int p2].toArray below meth c s.heap [] 0 0 _ _
  rw [← hlo, ← hH]
  refine lv_aload_n hx hb dL_put_0 rfl (lv_at hl 0 rfl) ?_
  refine lv_bipush (v := 10) hx hb dL_put_1 (by decide) ?_
  obtain ⟨z1, hc3, h⟩ := k_b1_e h
  refine g_callRI_V (As := [.int 10]) (rest := []) hC (mX4_count l dC dI cyI cyC cyO ob n0 n1 n2 n3 t0 t1 t2 t3 s0 aR ro r1 r2 r3 x0 x1 x2 x3 x4 n_ones n_twos n_settings n_tick n_energy n_valuesPut t_ones t_twos t_settings t_tick t_energy t_valuesPut s_ring s_oldest s_count x_signs x_length x_position x_complete x_orders x_kinds x_numbers x_values 10 hc3) q299 q300 q301 q8 q302 1 hdX4_count ⟨Nat.le_of_ble_eq_true rfl, Nat.le_of_ble_eq_true rfl⟩ ⟨Nat.le_of_ble_eq_true rfl, Nat.le_of_ble_eq_true rfl⟩ rfl rfl hl.1 (Nat.le_of_ble_eq_true rfl) hP hK (va_recv hK hP (ci := 3) (q0 := 0) rfl rfl) hS dL_put_3 (fun H locs hk hS => ?_)
  have hP := k_kept hP hk
  refine lv_istore_n (lv' := [(3, .int z1), (0, .ref ob), (1, .int p1), (2, .int p2)]) hx hb dL_put_6 rfl hl (by decide) rfl (fun ls hl => ?_)
  refine lv_aload_n hx hb dL_put_7 rfl (lv_at hl 1 rfl) ?_
  refine lv_iload_n hx hb dL_put_8 rfl (lv_at hl 2 rfl) ?_
  refine lv_iload_n hx hb dL_put_9 rfl (lv_at hl 3 rfl) ?_
  refine lv_iconst (v := 0) hx hb dL_put_10 (by decide) ?_
  obtain ⟨z2, c3, c4, c5, c6, c7, c8, hc11, h⟩ := k_b7_e h
  refine g_callMI_V (As := [.int p1, .int p2, .int 0]) (rest := []) hC (mX4_ifPut l dC dI cyI cyC cyO ob n0 n1 n2 n3 t0 t1 t2 t3 s0 aR ro r1 r2 r3 x0 x1 x2 x3 x4 n_ones n_twos n_settings n_tick n_energy n_valuesPut t_ones t_twos t_settings t_tick t_energy t_valuesPut s_ring s_oldest s_count x_signs x_length x_position x_complete x_orders x_kinds x_numbers x_values p1 p2 0 hc11) q331 q332 q333 q8 q334 3 hdX4_ifPut ⟨Nat.le_of_ble_eq_true rfl, Nat.le_of_ble_eq_true rfl⟩ ⟨Nat.le_of_ble_eq_true rfl, Nat.le_of_ble_eq_true rfl⟩ rfl rfl hl.1 (Nat.le_of_ble_eq_true rfl) hP hK hD (va_recv hK hP (ci := 3) (q0 := 0) rfl rfl) hS dL_put_11 (fun H locs hPn hk hS => ?_)
  have hP : va_P (dC, dI) vwCl (wAll cyI cyC cyO ob n0 n1 n2 n3 t0 t1 t2 t3 s0 aR ro r1 r2 r3 x0 x1 x2 x3 x4 n_ones n_twos n_settings n_tick n_energy n_valuesPut c3 c4 c5 c6 c7 c8 s_ring s_oldest s_count x_signs x_length x_position x_complete x_orders x_kinds x_numbers x_values) H := hPn
  have hD : va_D (k_A (wAll cyI cyC cyO ob n0 n1 n2 n3 t0 t1 t2 t3 s0 aR ro r1 r2 r3 x0 x1 x2 x3 x4 n_ones n_twos n_settings n_tick n_energy n_valuesPut t_ones t_twos t_settings t_tick t_energy t_valuesPut s_ring s_oldest s_count x_signs x_length x_position x_complete x_orders x_kinds x_numbers x_values)) (wAll cyI cyC cyO ob n0 n1 n2 n3 t0 t1 t2 t3 s0 aR ro r1 r2 r3 x0 x1 x2 x3 x4 n_ones n_twos n_settings n_tick n_energy n_valuesPut c3 c4 c5 c6 c7 c8 s_ring s_oldest s_count x_signs x_length x_position x_complete x_orders x_kinds x_numbers x_values) := k_Dm hD rfl
  refine lv_istore (lv' := [(4, .int z2), (3, .int z1), (0, .ref ob), (1, .int p1), (2, .int p2)]) hx hb dL_put_14 hl (by decide) rfl (fun ls hl => ?_)
  refine lv_iload_n hx hb dL_put_16 rfl (lv_at hl 1 rfl) ?_
  refine lv_iconst (v := (-1)) hx hb dL_put_17 (by decide) ?_
  refine g_icmp_ne (tgt := 44) hx hb dL_put_18 (by decide) h (fun h => ?_) (fun h => ?_)
  · refine lv_aload_n hx hb dL_put_44 rfl (lv_at hl 2 rfl) ?_
    refine lv_iload_n hx hb dL_put_45 rfl (lv_at hl 3 rfl) ?_
    refine lv_iload_n hx hb dL_put_46 rfl (lv_at hl 4 rfl) ?_
    refine lv_iconst (v := 1) hx hb dL_put_47 (by decide) ?_
    obtain ⟨z9, c10, c11, c12, c13, c14, c15, hc48, h⟩ := k_b7_e h
    refine g_callMI_V (As := [.int p1, .int p2, .int 1]) (rest := []) hC (mX4_ifPut l dC dI cyI cyC cyO ob n0 n1 n2 n3 t0 t1 t2 t3 s0 aR ro r1 r2 r3 x0 x1 x2 x3 x4 n_ones n_twos n_settings n_tick n_energy n_valuesPut c3 c4 c5 c6 c7 c8 s_ring s_oldest s_count x_signs x_length x_position x_complete x_orders x_kinds x_numbers x_values p1 p2 1 hc48) q331 q332 q333 q8 q334 3 hdX4_ifPut ⟨Nat.le_of_ble_eq_true rfl, Nat.le_of_ble_eq_true rfl⟩ ⟨Nat.le_of_ble_eq_true rfl, Nat.le_of_ble_eq_true rfl⟩ rfl rfl hl.1 (Nat.le_of_ble_eq_true rfl) hP hK hD (va_recv hK hP (ci := 3) (q0 := 0) rfl rfl) hS dL_put_48 (fun H locs hPn hk hS => ?_)
    have hP : va_P (dC, dI) vwCl (wAll cyI cyC cyO ob n0 n1 n2 n3 t0 t1 t2 t3 s0 aR ro r1 r2 r3 x0 x1 x2 x3 x4 n_ones n_twos n_settings n_tick n_energy n_valuesPut c10 c11 c12 c13 c14 c15 s_ring s_oldest s_count x_signs x_length x_position x_complete x_orders x_kinds x_numbers x_values) H := hPn
    have hD : va_D (k_A (wAll cyI cyC cyO ob n0 n1 n2 n3 t0 t1 t2 t3 s0 aR ro r1 r2 r3 x0 x1 x2 x3 x4 n_ones n_twos n_settings n_tick n_energy n_valuesPut t_ones t_twos t_settings t_tick t_energy t_valuesPut s_ring s_oldest s_count x_signs x_length x_position x_complete x_orders x_kinds x_numbers x_values)) (wAll cyI cyC cyO ob n0 n1 n2 n3 t0 t1 t2 t3 s0 aR ro r1 r2 r3 x0 x1 x2 x3 x4 n_ones n_twos n_settings n_tick n_energy n_valuesPut c10 c11 c12 c13 c14 c15 s_ring s_oldest s_count x_signs x_length x_position x_complete x_orders x_kinds x_numbers x_values) := k_Dm hD rfl
    refine lv_istore (lv' := [(5, .int z9), (4, .int z2), (3, .int z1), (0, .ref ob), (1, .int p1), (2, .int p2)]) hx hb dL_put_51 hl (by decide) rfl (fun ls hl => ?_)
    refine lv_aload_n hx hb dL_put_53 rfl (lv_at hl 3 rfl) ?_
    refine lv_bipush (v := 8) hx hb dL_put_54 (by decide) ?_
    obtain ⟨z16, hc56, h⟩ := k_b1_e h
    refine g_callRI_V (As := [.int 8]) (rest := []) hC (mX4_count l dC dI cyI cyC cyO ob n0 n1 n2 n3 t0 t1 t2 t3 s0 aR ro r1 r2 r3 x0 x1 x2 x3 x4 n_ones n_twos n_settings n_tick n_energy n_valuesPut c10 c11 c12 c13 c14 c15 s_ring s_oldest s_count x_signs x_length x_position x_complete x_orders x_kinds x_numbers x_values 8 hc56) q299 q300 q301 q8 q302 1 hdX4_count ⟨Nat.le_of_ble_eq_true rfl, Nat.le_of_ble_eq_true rfl⟩ ⟨Nat.le_of_ble_eq_true rfl, Nat.le_of_ble_eq_true rfl⟩ rfl rfl hl.1 (Nat.le_of_ble_eq_true rfl) hP hK (va_recv hK hP (ci := 3) (q0 := 0) rfl rfl) hS dL_put_56 (fun H locs hk hS => ?_)
    have hP := k_kept hP hk
    refine lv_aload_n hx hb dL_put_59 rfl (lv_at hl 3 rfl) ?_
    refine lv_iload_n hx hb dL_put_60 rfl (lv_at hl 4 rfl) ?_
    refine lv_iload_n hx hb dL_put_61 rfl (lv_at hl 5 rfl) ?_
    refine lv_iconst (v := 2) hx hb dL_put_62 (by decide) ?_
    obtain ⟨z17, c18, c19, c20, c21, c22, c23, hc63, h⟩ := k_b7_e h
    refine g_callMI_V (As := [.int p1, .int p2, .int 2]) (rest := [.int z16]) hC (mX4_ifPut l dC dI cyI cyC cyO ob n0 n1 n2 n3 t0 t1 t2 t3 s0 aR ro r1 r2 r3 x0 x1 x2 x3 x4 n_ones n_twos n_settings n_tick n_energy n_valuesPut c10 c11 c12 c13 c14 c15 s_ring s_oldest s_count x_signs x_length x_position x_complete x_orders x_kinds x_numbers x_values p1 p2 2 hc63) q331 q332 q333 q8 q334 3 hdX4_ifPut ⟨Nat.le_of_ble_eq_true rfl, Nat.le_of_ble_eq_true rfl⟩ ⟨Nat.le_of_ble_eq_true rfl, Nat.le_of_ble_eq_true rfl⟩ rfl rfl hl.1 (Nat.le_of_ble_eq_true rfl) hP hK hD (va_recv hK hP (ci := 3) (q0 := 0) rfl rfl) hS dL_put_63 (fun H locs hPn hk hS => ?_)
    have hP : va_P (dC, dI) vwCl (wAll cyI cyC cyO ob n0 n1 n2 n3 t0 t1 t2 t3 s0 aR ro r1 r2 r3 x0 x1 x2 x3 x4 n_ones n_twos n_settings n_tick n_energy n_valuesPut c18 c19 c20 c21 c22 c23 s_ring s_oldest s_count x_signs x_length x_position x_complete x_orders x_kinds x_numbers x_values) H := hPn
    have hD : va_D (k_A (wAll cyI cyC cyO ob n0 n1 n2 n3 t0 t1 t2 t3 s0 aR ro r1 r2 r3 x0 x1 x2 x3 x4 n_ones n_twos n_settings n_tick n_energy n_valuesPut t_ones t_twos t_settings t_tick t_energy t_valuesPut s_ring s_oldest s_count x_signs x_length x_position x_complete x_orders x_kinds x_numbers x_values)) (wAll cyI cyC cyO ob n0 n1 n2 n3 t0 t1 t2 t3 s0 aR ro r1 r2 r3 x0 x1 x2 x3 x4 n_ones n_twos n_settings n_tick n_energy n_valuesPut c18 c19 c20 c21 c22 c23 s_ring s_oldest s_count x_signs x_length x_position x_complete x_orders x_kinds x_numbers x_values) := k_Dm hD rfl
    refine g_iadd hx hb dL_put_66 h (fun z24 h => ?_)
    refine lv_istore (lv' := [(6, .int z24), (5, .int z9), (4, .int z2), (3, .int z1), (0, .ref ob), (1, .int p1), (2, .int p2)]) hx hb dL_put_67 hl (by decide) rfl (fun ls hl => ?_)
    refine lv_aload_n hx hb dL_put_69 rfl (lv_at hl 4 rfl) ?_
    refine lv_iload_n hx hb dL_put_70 rfl (lv_at hl 5 rfl) ?_
    refine lv_iload_n hx hb dL_put_71 rfl (lv_at hl 6 rfl) ?_
    refine lv_iconst (v := 3) hx hb dL_put_72 (by decide) ?_
    obtain ⟨z25, c26, c27, c28, c29, c30, c31, hc73, h⟩ := k_b7_e h
    refine g_callMI_V (As := [.int p1, .int p2, .int 3]) (rest := []) hC (mX4_ifPut l dC dI cyI cyC cyO ob n0 n1 n2 n3 t0 t1 t2 t3 s0 aR ro r1 r2 r3 x0 x1 x2 x3 x4 n_ones n_twos n_settings n_tick n_energy n_valuesPut c18 c19 c20 c21 c22 c23 s_ring s_oldest s_count x_signs x_length x_position x_complete x_orders x_kinds x_numbers x_values p1 p2 3 hc73) q331 q332 q333 q8 q334 3 hdX4_ifPut ⟨Nat.le_of_ble_eq_true rfl, Nat.le_of_ble_eq_true rfl⟩ ⟨Nat.le_of_ble_eq_true rfl, Nat.le_of_ble_eq_true rfl⟩ rfl rfl hl.1 (Nat.le_of_ble_eq_true rfl) hP hK hD (va_recv hK hP (ci := 3) (q0 := 0) rfl rfl) hS dL_put_73 (fun H locs hPn hk hS => ?_)
    have hP : va_P (dC, dI) vwCl (wAll cyI cyC cyO ob n0 n1 n2 n3 t0 t1 t2 t3 s0 aR ro r1 r2 r3 x0 x1 x2 x3 x4 n_ones n_twos n_settings n_tick n_energy n_valuesPut c26 c27 c28 c29 c30 c31 s_ring s_oldest s_count x_signs x_length x_position x_complete x_orders x_kinds x_numbers x_values) H := hPn
    have hD : va_D (k_A (wAll cyI cyC cyO ob n0 n1 n2 n3 t0 t1 t2 t3 s0 aR ro r1 r2 r3 x0 x1 x2 x3 x4 n_ones n_twos n_settings n_tick n_energy n_valuesPut t_ones t_twos t_settings t_tick t_energy t_valuesPut s_ring s_oldest s_count x_signs x_length x_position x_complete x_orders x_kinds x_numbers x_values)) (wAll cyI cyC cyO ob n0 n1 n2 n3 t0 t1 t2 t3 s0 aR ro r1 r2 r3 x0 x1 x2 x3 x4 n_ones n_twos n_settings n_tick n_energy n_valuesPut c26 c27 c28 c29 c30 c31 s_ring s_oldest s_count x_signs x_length x_position x_complete x_orders x_kinds x_numbers x_values) := k_Dm hD rfl
    refine lv_istore (lv' := [(7, .int z25), (6, .int z24), (5, .int z9), (4, .int z2), (3, .int z1), (0, .ref ob), (1, .int p1), (2, .int p2)]) hx hb dL_put_76 hl (by decide) rfl (fun ls hl => ?_)
    refine lv_aload_n hx hb dL_put_78 rfl (lv_at hl 5 rfl) ?_
    refine lv_iload_n hx hb dL_put_79 rfl (lv_at hl 6 rfl) ?_
    refine lv_iload_n hx hb dL_put_80 rfl (lv_at hl 7 rfl) ?_
    refine lv_iconst (v := 4) hx hb dL_put_81 (by decide) ?_
    obtain ⟨z32, c33, c34, c35, c36, c37, c38, hc82, h⟩ := k_b7_e h
    refine g_callMI_V (As := [.int p1, .int p2, .int 4]) (rest := []) hC (mX4_ifPut l dC dI cyI cyC cyO ob n0 n1 n2 n3 t0 t1 t2 t3 s0 aR ro r1 r2 r3 x0 x1 x2 x3 x4 n_ones n_twos n_settings n_tick n_energy n_valuesPut c26 c27 c28 c29 c30 c31 s_ring s_oldest s_count x_signs x_length x_position x_complete x_orders x_kinds x_numbers x_values p1 p2 4 hc82) q331 q332 q333 q8 q334 3 hdX4_ifPut ⟨Nat.le_of_ble_eq_true rfl, Nat.le_of_ble_eq_true rfl⟩ ⟨Nat.le_of_ble_eq_true rfl, Nat.le_of_ble_eq_true rfl⟩ rfl rfl hl.1 (Nat.le_of_ble_eq_true rfl) hP hK hD (va_recv hK hP (ci := 3) (q0 := 0) rfl rfl) hS dL_put_82 (fun H locs hPn hk hS => ?_)
    have hP : va_P (dC, dI) vwCl (wAll cyI cyC cyO ob n0 n1 n2 n3 t0 t1 t2 t3 s0 aR ro r1 r2 r3 x0 x1 x2 x3 x4 n_ones n_twos n_settings n_tick n_energy n_valuesPut c33 c34 c35 c36 c37 c38 s_ring s_oldest s_count x_signs x_length x_position x_complete x_orders x_kinds x_numbers x_values) H := hPn
    have hD : va_D (k_A (wAll cyI cyC cyO ob n0 n1 n2 n3 t0 t1 t2 t3 s0 aR ro r1 r2 r3 x0 x1 x2 x3 x4 n_ones n_twos n_settings n_tick n_energy n_valuesPut t_ones t_twos t_settings t_tick t_energy t_valuesPut s_ring s_oldest s_count x_signs x_length x_position x_complete x_orders x_kinds x_numbers x_values)) (wAll cyI cyC cyO ob n0 n1 n2 n3 t0 t1 t2 t3 s0 aR ro r1 r2 r3 x0 x1 x2 x3 x4 n_ones n_twos n_settings n_tick n_energy n_valuesPut c33 c34 c35 c36 c37 c38 s_ring s_oldest s_count x_signs x_length x_position x_complete x_orders x_kinds x_numbers x_values) := k_Dm hD rfl
    refine lv_istore (lv' := [(8, .int z32), (7, .int z25), (6, .int z24), (5, .int z9), (4, .int z2), (3, .int z1), (0, .ref ob), (1, .int p1), (2, .int p2)]) hx hb dL_put_85 hl (by decide) rfl (fun ls hl => ?_)
    refine lv_aload_n hx hb dL_put_87 rfl (lv_at hl 6 rfl) ?_
    refine lv_iload_n hx hb dL_put_88 rfl (lv_at hl 7 rfl) ?_
    refine lv_iconst (v := 2) hx hb dL_put_89 (by decide) ?_
    obtain ⟨z39, hc90, h⟩ := k_b1_e h
    refine g_callRI_V (As := [.int p1, .int 2]) (rest := []) hC (mX4_key l dC dI cyI cyC cyO ob n0 n1 n2 n3 t0 t1 t2 t3 s0 aR ro r1 r2 r3 x0 x1 x2 x3 x4 n_ones n_twos n_settings n_tick n_energy n_valuesPut c33 c34 c35 c36 c37 c38 s_ring s_oldest s_count x_signs x_length x_position x_complete x_orders x_kinds x_numbers x_values p1 2 hc90) q257 q258 q259 q8 q260 2 hdX4_key ⟨Nat.le_of_ble_eq_true rfl, Nat.le_of_ble_eq_true rfl⟩ ⟨Nat.le_of_ble_eq_true rfl, Nat.le_of_ble_eq_true rfl⟩ rfl rfl hl.1 (Nat.le_of_ble_eq_true rfl) hP hK (va_recv hK hP (ci := 3) (q0 := 0) rfl rfl) hS dL_put_90 (fun H locs hk hS => ?_)
    have hP := k_kept hP hk
    refine lv_istore (lv' := [(9, .int z39), (8, .int z32), (7, .int z25), (6, .int z24), (5, .int z9), (4, .int z2), (3, .int z1), (0, .ref ob), (1, .int p1), (2, .int p2)]) hx hb dL_put_93 hl (by decide) rfl (fun ls hl => ?_)
    refine lv_aload_n hx hb dL_put_95 rfl (lv_at hl 7 rfl) ?_
    refine lv_bipush (v := 11) hx hb dL_put_96 (by decide) ?_
    obtain ⟨z40, hc98, h⟩ := k_b1_e h
    refine g_callRI_V (As := [.int 11]) (rest := []) hC (mX4_count l dC dI cyI cyC cyO ob n0 n1 n2 n3 t0 t1 t2 t3 s0 aR ro r1 r2 r3 x0 x1 x2 x3 x4 n_ones n_twos n_settings n_tick n_energy n_valuesPut c33 c34 c35 c36 c37 c38 s_ring s_oldest s_count x_signs x_length x_position x_complete x_orders x_kinds x_numbers x_values 11 hc98) q299 q300 q301 q8 q302 1 hdX4_count ⟨Nat.le_of_ble_eq_true rfl, Nat.le_of_ble_eq_true rfl⟩ ⟨Nat.le_of_ble_eq_true rfl, Nat.le_of_ble_eq_true rfl⟩ rfl rfl hl.1 (Nat.le_of_ble_eq_true rfl) hP hK (va_recv hK hP (ci := 3) (q0 := 0) rfl rfl) hS dL_put_98 (fun H locs hk hS => ?_)
    have hP := k_kept hP hk
    refine lv_istore (lv' := [(10, .int z40), (9, .int z39), (8, .int z32), (7, .int z25), (6, .int z24), (5, .int z9), (4, .int z2), (3, .int z1), (0, .ref ob), (1, .int p1), (2, .int p2)]) hx hb dL_put_101 hl (by decide) rfl (fun ls hl => ?_)
    refine lv_aload_n hx hb dL_put_103 rfl (lv_at hl 8 rfl) ?_
    refine lv_iconst (v := 1) hx hb dL_put_104 (by decide) ?_
    obtain ⟨z41, hc105, h⟩ := k_b1_e h
    refine g_callRI_V (As := [.int 1]) (rest := []) hC (mX4_setting l dC dI cyI cyC cyO ob n0 n1 n2 n3 t0 t1 t2 t3 s0 aR ro r1 r2 r3 x0 x1 x2 x3 x4 n_ones n_twos n_settings n_tick n_energy n_valuesPut c33 c34 c35 c36 c37 c38 s_ring s_oldest s_count x_signs x_length x_position x_complete x_orders x_kinds x_numbers x_values 1 hc105) q327 q328 q329 q8 q330 1 hdX4_setting ⟨Nat.le_of_ble_eq_true rfl, Nat.le_of_ble_eq_true rfl⟩ ⟨Nat.le_of_ble_eq_true rfl, Nat.le_of_ble_eq_true rfl⟩ rfl rfl hl.1 (Nat.le_of_ble_eq_true rfl) hP hK (va_recv hK hP (ci := 3) (q0 := 0) rfl rfl) hS dL_put_105 (fun H locs hk hS => ?_)
    have hP := k_kept hP hk
    refine lv_iconst (v := 3) hx hb dL_put_108 (by decide) ?_
    obtain ⟨K117, hK117, h⟩ := k_j1_e h
    have J117 : ∀ (z42 : Int32) (H : Heap) (locs : List Loc) (ls : Array Slot), K117 z42 = some (r, r_n_ones, r_n_twos, r_n_energy, r_n_valuesPut, r_t_ones, r_t_twos, r_t_settings, r_t_tick, r_t_energy, r_t_valuesPut, r_s_ring, r_s_oldest, r_s_count) → va_P (dC, dI) vwCl (wAll cyI cyC cyO ob n0 n1 n2 n3 t0 t1 t2 t3 s0 aR ro r1 r2 r3 x0 x1 x2 x3 x4 n_ones n_twos n_settings n_tick n_energy n_valuesPut c33 c34 c35 c36 c37 c38 s_ring s_oldest s_count x_signs x_length x_position x_complete x_orders x_kinds x_numbers x_values) H → va_S (k_A (wAll cyI cyC cyO ob n0 n1 n2 n3 t0 t1 t2 t3 s0 aR ro r1 r2 r3 x0 x1 x2 x3 x4 n_ones n_twos n_settings n_tick n_energy n_valuesPut t_ones t_twos t_settings t_tick t_energy t_valuesPut s_ring s_oldest s_count x_signs x_length x_position x_complete x_orders x_kinds x_numbers x_values)) s.heap H locs → lv_has ls 13 [(0, .ref ob), (1, .int p1), (2, .int p2), (3, .int z1), (4, .int z2), (5, .int z9), (6, .int z24), (7, .int z25), (8, .int z32), (9, .int z39), (10, .int z40)] → W p l e (k_rm 7 160) s m [.ref ob, .int p1, .int p2].toArray below meth c H locs 0 0 (MQ below (qMI r (dC, dI) (wAll cyI cyC cyO ob n0 n1 n2 n3 t0 t1 t2 t3 s0 aR ro r1 r2 r3 x0 x1 x2 x3 x4 n_ones n_twos n_settings n_tick n_energy n_valuesPut t_ones t_twos t_settings t_tick t_energy t_valuesPut s_ring s_oldest s_count x_signs x_length x_position x_complete x_orders x_kinds x_numbers x_values) (wAll cyI cyC cyO ob n0 n1 n2 n3 t0 t1 t2 t3 s0 aR ro r1 r2 r3 x0 x1 x2 x3 x4 r_n_ones r_n_twos n_settings n_tick r_n_energy r_n_valuesPut r_t_ones r_t_twos r_t_settings r_t_tick r_t_energy r_t_valuesPut r_s_ring r_s_oldest r_s_count x_signs x_length x_position x_complete x_orders x_kinds x_numbers x_values)) [.ref ob, .int p1, .int p2].toArray s 0 0 (k_A (wAll cyI cyC cyO ob n0 n1 n2 n3 t0 t1 t2 t3 s0 aR ro r1 r2 r3 x0 x1 x2 x3 x4 n_ones n_twos n_settings n_tick n_energy n_valuesPut t_ones t_twos t_settings t_tick t_energy t_valuesPut s_ring s_oldest s_count x_signs x_length x_position x_complete x_orders x_kinds x_numbers x_values))) (F0 m 117 ls [.int z42]) := by
      intro z42 H locs ls h hP hS hl
      have h := k_a1 hK117 h
      refine lv_istore (lv' := [(11, .int z42), (0, .ref ob), (1, .int p1), (2, .int p2), (3, .int z1), (4, .int z2), (5, .int z9), (6, .int z24), (7, .int z25), (8, .int z32), (9, .int z39), (10, .int z40)]) hx hb dL_put_117 hl (by decide) rfl (fun ls hl => ?_)
      refine lv_aload_n hx hb dL_put_119 rfl (lv_at hl 1 rfl) ?_
      refine lv_iload_n hx hb dL_put_120 rfl (lv_at hl 4 rfl) ?_
      refine lv_iconst (v := 1) hx hb dL_put_121 (by decide) ?_
      obtain ⟨z43, hc122, h⟩ := k_b1_e h
      refine g_callRI_V (As := [.int z1, .int 1]) (rest := []) hC (mX4_row l dC dI cyI cyC cyO ob n0 n1 n2 n3 t0 t1 t2 t3 s0 aR ro r1 r2 r3 x0 x1 x2 x3 x4 n_ones n_twos n_settings n_tick n_energy n_valuesPut c33 c34 c35 c36 c37 c38 s_ring s_oldest s_count x_signs x_length x_position x_complete x_orders x_kinds x_numbers x_values z1 1 hc122) q231 q232 q233 q8 q234 2 hdX4_row ⟨Nat.le_of_ble_eq_true rfl, Nat.le_of_ble_eq_true rfl⟩ ⟨Nat.le_of_ble_eq_true rfl, Nat.le_of_ble_eq_true rfl⟩ rfl rfl hl.1 (Nat.le_of_ble_eq_true rfl) hP hK (va_recv hK hP (ci := 3) (q0 := 0) rfl rfl) hS dL_put_122 (fun H locs hk hS => ?_)
      have hP := k_kept hP hk
      obtain ⟨K143, hK143, h⟩ := k_j1_e h
      have J143 : ∀ (z44 : Int32) (H : Heap) (locs : List Loc) (ls : Array Slot), K143 z44 = some (r, r_n_ones, r_n_twos, r_n_energy, r_n_valuesPut, r_t_ones, r_t_twos, r_t_settings, r_t_tick, r_t_energy, r_t_valuesPut, r_s_ring, r_s_oldest, r_s_count) → va_P (dC, dI) vwCl (wAll cyI cyC cyO ob n0 n1 n2 n3 t0 t1 t2 t3 s0 aR ro r1 r2 r3 x0 x1 x2 x3 x4 n_ones n_twos n_settings n_tick n_energy n_valuesPut c33 c34 c35 c36 c37 c38 s_ring s_oldest s_count x_signs x_length x_position x_complete x_orders x_kinds x_numbers x_values) H → va_S (k_A (wAll cyI cyC cyO ob n0 n1 n2 n3 t0 t1 t2 t3 s0 aR ro r1 r2 r3 x0 x1 x2 x3 x4 n_ones n_twos n_settings n_tick n_energy n_valuesPut t_ones t_twos t_settings t_tick t_energy t_valuesPut s_ring s_oldest s_count x_signs x_length x_position x_complete x_orders x_kinds x_numbers x_values)) s.heap H locs → lv_has ls 13 [(0, .ref ob), (1, .int p1), (2, .int p2), (3, .int z1), (4, .int z2), (5, .int z9), (6, .int z24), (7, .int z25), (8, .int z32), (9, .int z39), (10, .int z40), (11, .int z42)] → W p l e (k_rm 7 160) s m [.ref ob, .int p1, .int p2].toArray below meth c H locs 0 0 (MQ below (qMI r (dC, dI) (wAll cyI cyC cyO ob n0 n1 n2 n3 t0 t1 t2 t3 s0 aR ro r1 r2 r3 x0 x1 x2 x3 x4 n_ones n_twos n_settings n_tick n_energy n_valuesPut t_ones t_twos t_settings t_tick t_energy t_valuesPut s_ring s_oldest s_count x_signs x_length x_position x_complete x_orders x_kinds x_numbers x_values) (wAll cyI cyC cyO ob n0 n1 n2 n3 t0 t1 t2 t3 s0 aR ro r1 r2 r3 x0 x1 x2 x3 x4 r_n_ones r_n_twos n_settings n_tick r_n_energy r_n_valuesPut r_t_ones r_t_twos r_t_settings r_t_tick r_t_energy r_t_valuesPut r_s_ring r_s_oldest r_s_count x_signs x_length x_position x_complete x_orders x_kinds x_numbers x_values)) [.ref ob, .int p1, .int p2].toArray s 0 0 (k_A (wAll cyI cyC cyO ob n0 n1 n2 n3 t0 t1 t2 t3 s0 aR ro r1 r2 r3 x0 x1 x2 x3 x4 n_ones n_twos n_settings n_tick n_energy n_valuesPut t_ones t_twos t_settings t_tick t_energy t_valuesPut s_ring s_oldest s_count x_signs x_length x_position x_complete x_orders x_kinds x_numbers x_values))) (F0 m 143 ls [.int z44]) := by
        intro z44 H locs ls h hP hS hl
        have h := k_a1 hK143 h
        refine lv_istore (lv' := [(12, .int z44), (0, .ref ob), (1, .int p1), (2, .int p2), (3, .int z1), (4, .int z2), (5, .int z9), (6, .int z24), (7, .int z25), (8, .int z32), (9, .int z39), (10, .int z40), (11, .int z42)]) hx hb dL_put_143 hl (by decide) rfl (fun ls hl => ?_)
        refine lv_iload hx hb dL_put_145 (lv_at hl 0 rfl) ?_
        obtain ⟨K224, hK224, h⟩ := k_j8_e h
        have J224 : ∀ (z45 : Int32) (c46 : Nat → Int32) (c47 : Nat → Int32) (c48 : Int32) (c49 : Int32) (c50 : Nat → SV) (c51 : Int32) (c52 : Int32) (H : Heap) (locs : List Loc) (ls : Array Slot), K224 z45 c46 c47 c48 c49 c50 c51 c52 = some (r, r_n_ones, r_n_twos, r_n_energy, r_n_valuesPut, r_t_ones, r_t_twos, r_t_settings, r_t_tick, r_t_energy, r_t_valuesPut, r_s_ring, r_s_oldest, r_s_count) → va_P (dC, dI) vwCl (wAll cyI cyC cyO ob n0 n1 n2 n3 t0 t1 t2 t3 s0 aR ro r1 r2 r3 x0 x1 x2 x3 x4 c46 c47 n_settings n_tick c48 c49 c33 c34 c35 c36 c37 c38 c50 c51 c52 x_signs x_length x_position x_complete x_orders x_kinds x_numbers x_values) H → va_S (k_A (wAll cyI cyC cyO ob n0 n1 n2 n3 t0 t1 t2 t3 s0 aR ro r1 r2 r3 x0 x1 x2 x3 x4 n_ones n_twos n_settings n_tick n_energy n_valuesPut t_ones t_twos t_settings t_tick t_energy t_valuesPut s_ring s_oldest s_count x_signs x_length x_position x_complete x_orders x_kinds x_numbers x_values)) s.heap H locs → lv_has ls 13 [(0, .ref ob), (1, .int p1), (2, .int p2), (3, .int z1), (4, .int z2), (5, .int z9), (7, .int z25), (8, .int z32), (11, .int z42)] → W p l e (k_rm 7 160) s m [.ref ob, .int p1, .int p2].toArray below meth c H locs 0 0 (MQ below (qMI r (dC, dI) (wAll cyI cyC cyO ob n0 n1 n2 n3 t0 t1 t2 t3 s0 aR ro r1 r2 r3 x0 x1 x2 x3 x4 n_ones n_twos n_settings n_tick n_energy n_valuesPut t_ones t_twos t_settings t_tick t_energy t_valuesPut s_ring s_oldest s_count x_signs x_length x_position x_complete x_orders x_kinds x_numbers x_values) (wAll cyI cyC cyO ob n0 n1 n2 n3 t0 t1 t2 t3 s0 aR ro r1 r2 r3 x0 x1 x2 x3 x4 r_n_ones r_n_twos n_settings n_tick r_n_energy r_n_valuesPut r_t_ones r_t_twos r_t_settings r_t_tick r_t_energy r_t_valuesPut r_s_ring r_s_oldest r_s_count x_signs x_length x_position x_complete x_orders x_kinds x_numbers x_values)) [.ref ob, .int p1, .int p2].toArray s 0 0 (k_A (wAll cyI cyC cyO ob n0 n1 n2 n3 t0 t1 t2 t3 s0 aR ro r1 r2 r3 x0 x1 x2 x3 x4 n_ones n_twos n_settings n_tick n_energy n_valuesPut t_ones t_twos t_settings t_tick t_energy t_valuesPut s_ring s_oldest s_count x_signs x_length x_position x_complete x_orders x_kinds x_numbers x_values))) (F0 m 224 ls [.int z45]) := by
          intro z45 c46 c47 c48 c49 c50 c51 c52 H locs ls h hP hS hl
          have hD : va_D (k_A (wAll cyI cyC cyO ob n0 n1 n2 n3 t0 t1 t2 t3 s0 aR ro r1 r2 r3 x0 x1 x2 x3 x4 n_ones n_twos n_settings n_tick n_energy n_valuesPut t_ones t_twos t_settings t_tick t_energy t_valuesPut s_ring s_oldest s_count x_signs x_length x_position x_complete x_orders x_kinds x_numbers x_values)) (wAll cyI cyC cyO ob n0 n1 n2 n3 t0 t1 t2 t3 s0 aR ro r1 r2 r3 x0 x1 x2 x3 x4 c46 c47 n_settings n_tick c48 c49 c33 c34 c35 c36 c37 c38 c50 c51 c52 x_signs x_length x_position x_complete x_orders x_kinds x_numbers x_values) := k_Dm hD rfl
          have h := k_a8 hK224 h
          refine lv_istore (lv' := [(12, .int z45), (0, .ref ob), (1, .int p1), (2, .int p2), (3, .int z1), (4, .int z2), (5, .int z9), (7, .int z25), (8, .int z32), (11, .int z42)]) hx hb dL_put_224 hl (by decide) rfl (fun ls hl => ?_)
          refine lv_iload hx hb dL_put_226 (lv_at hl 0 rfl) ?_
          obtain ⟨K266, hK266, h⟩ := k_j1_e h
          have J266 : ∀ (z53 : Int32) (H : Heap) (locs : List Loc) (ls : Array Slot), K266 z53 = some (r, r_n_ones, r_n_twos, r_n_energy, r_n_valuesPut, r_t_ones, r_t_twos, r_t_settings, r_t_tick, r_t_energy, r_t_valuesPut, r_s_ring, r_s_oldest, r_s_count) → va_P (dC, dI) vwCl (wAll cyI cyC cyO ob n0 n1 n2 n3 t0 t1 t2 t3 s0 aR ro r1 r2 r3 x0 x1 x2 x3 x4 c46 c47 n_settings n_tick c48 c49 c33 c34 c35 c36 c37 c38 c50 c51 c52 x_signs x_length x_position x_complete x_orders x_kinds x_numbers x_values) H → va_S (k_A (wAll cyI cyC cyO ob n0 n1 n2 n3 t0 t1 t2 t3 s0 aR ro r1 r2 r3 x0 x1 x2 x3 x4 n_ones n_twos n_settings n_tick n_energy n_valuesPut t_ones t_twos t_settings t_tick t_energy t_valuesPut s_ring s_oldest s_count x_signs x_length x_position x_complete x_orders x_kinds x_numbers x_values)) s.heap H locs → lv_has ls 13 [(0, .ref ob), (1, .int p1), (2, .int p2), (3, .int z1), (4, .int z2), (5, .int z9), (7, .int z25), (11, .int z42)] → W p l e (k_rm 7 160) s m [.ref ob, .int p1, .int p2].toArray below meth c H locs 0 0 (MQ below (qMI r (dC, dI) (wAll cyI cyC cyO ob n0 n1 n2 n3 t0 t1 t2 t3 s0 aR ro r1 r2 r3 x0 x1 x2 x3 x4 n_ones n_twos n_settings n_tick n_energy n_valuesPut t_ones t_twos t_settings t_tick t_energy t_valuesPut s_ring s_oldest s_count x_signs x_length x_position x_complete x_orders x_kinds x_numbers x_values) (wAll cyI cyC cyO ob n0 n1 n2 n3 t0 t1 t2 t3 s0 aR ro r1 r2 r3 x0 x1 x2 x3 x4 r_n_ones r_n_twos n_settings n_tick r_n_energy r_n_valuesPut r_t_ones r_t_twos r_t_settings r_t_tick r_t_energy r_t_valuesPut r_s_ring r_s_oldest r_s_count x_signs x_length x_position x_complete x_orders x_kinds x_numbers x_values)) [.ref ob, .int p1, .int p2].toArray s 0 0 (k_A (wAll cyI cyC cyO ob n0 n1 n2 n3 t0 t1 t2 t3 s0 aR ro r1 r2 r3 x0 x1 x2 x3 x4 n_ones n_twos n_settings n_tick n_energy n_valuesPut t_ones t_twos t_settings t_tick t_energy t_valuesPut s_ring s_oldest s_count x_signs x_length x_position x_complete x_orders x_kinds x_numbers x_values))) (F0 m 266 ls [.int z53]) := by
            intro z53 H locs ls h hP hS hl
            have h := k_a1 hK266 h
            refine lv_istore (lv' := [(12, .int z53), (0, .ref ob), (1, .int p1), (2, .int p2), (3, .int z1), (4, .int z2), (5, .int z9), (7, .int z25), (11, .int z42)]) hx hb dL_put_266 hl (by decide) rfl (fun ls hl => ?_)
            refine lv_iload hx hb dL_put_268 (lv_at hl 0 rfl) ?_
            refine g_if_eq (tgt := 345) hx hb dL_put_270 (by decide) h (fun h => ?_) (fun h => ?_)
            · refine lv_iconst (v := 0) hx hb dL_put_345 (by decide) ?_
              obtain ⟨e0, e1, e2, e3, e4, e5, e6, e7, e8, e9, e10, e11, e12, e13⟩ := k_t14 h
              exact g_retMZ hx hb hr (by decide +kernel) hlk hS e0 (by rw [← e1, ← e2, ← e3, ← e4, ← e5, ← e6, ← e7, ← e8, ← e9, ← e10, ← e11, ← e12, ← e13]; exact hP) dL_put_346
            · refine lv_iload hx hb dL_put_273 (lv_at hl 8 rfl) ?_
              refine g_if_eq (tgt := 341) hx hb dL_put_275 (by decide) h (fun h => ?_) (fun h => ?_)
              · refine lv_iconst (v := 1) hx hb dL_put_341 (by decide) ?_
                refine lv_goto (tgt := 346) hx hb dL_put_342 (by decide) ?_
                obtain ⟨e0, e1, e2, e3, e4, e5, e6, e7, e8, e9, e10, e11, e12, e13⟩ := k_t14 h
                exact g_retMZ hx hb hr (by decide +kernel) hlk hS e0 (by rw [← e1, ← e2, ← e3, ← e4, ← e5, ← e6, ← e7, ← e8, ← e9, ← e10, ← e11, ← e12, ← e13]; exact hP) dL_put_346
              · refine lv_iload hx hb dL_put_278 (lv_at hl 5 rfl) ?_
                refine lv_iconst (v := 1) hx hb dL_put_280 (by decide) ?_
                refine g_icmp_ne (tgt := 345) hx hb dL_put_281 (by decide) h (fun h => ?_) (fun h => ?_)
                · refine lv_iconst (v := 0) hx hb dL_put_345 (by decide) ?_
                  obtain ⟨e0, e1, e2, e3, e4, e5, e6, e7, e8, e9, e10, e11, e12, e13⟩ := k_t14 h
                  exact g_retMZ hx hb hr (by decide +kernel) hlk hS e0 (by rw [← e1, ← e2, ← e3, ← e4, ← e5, ← e6, ← e7, ← e8, ← e9, ← e10, ← e11, ← e12, ← e13]; exact hP) dL_put_346
                · refine lv_iload hx hb dL_put_284 (lv_at hl 6 rfl) ?_
                  refine lv_iconst (v := 4) hx hb dL_put_286 (by decide) ?_
                  refine g_icmp_ne (tgt := 345) hx hb dL_put_287 (by decide) h (fun h => ?_) (fun h => ?_)
                  · refine lv_iconst (v := 0) hx hb dL_put_345 (by decide) ?_
                    obtain ⟨e0, e1, e2, e3, e4, e5, e6, e7, e8, e9, e10, e11, e12, e13⟩ := k_t14 h
                    exact g_retMZ hx hb hr (by decide +kernel) hlk hS e0 (by rw [← e1, ← e2, ← e3, ← e4, ← e5, ← e6, ← e7, ← e8, ← e9, ← e10, ← e11, ← e12, ← e13]; exact hP) dL_put_346
                  · refine lv_iload hx hb dL_put_290 (lv_at hl 7 rfl) ?_
                    refine lv_iload_n hx hb dL_put_292 rfl (lv_at hl 3 rfl) ?_
                    refine g_icmp_ne (tgt := 345) hx hb dL_put_293 (by decide) h (fun h => ?_) (fun h => ?_)
                    · refine lv_iconst (v := 0) hx hb dL_put_345 (by decide) ?_
                      obtain ⟨e0, e1, e2, e3, e4, e5, e6, e7, e8, e9, e10, e11, e12, e13⟩ := k_t14 h
                      exact g_retMZ hx hb hr (by decide +kernel) hlk hS e0 (by rw [← e1, ← e2, ← e3, ← e4, ← e5, ← e6, ← e7, ← e8, ← e9, ← e10, ← e11, ← e12, ← e13]; exact hP) dL_put_346
                    · refine lv_aload_n hx hb dL_put_296 rfl (lv_at hl 1 rfl) ?_
                      refine lv_iload_n hx hb dL_put_297 rfl (lv_at hl 2 rfl) ?_
                      refine lv_iconst (v := 1) hx hb dL_put_298 (by decide) ?_
                      obtain ⟨z54, hc299, h⟩ := k_b1_e h
                      refine g_callRI_V (As := [.int p1, .int 1]) (rest := []) hC (mX4_key l dC dI cyI cyC cyO ob n0 n1 n2 n3 t0 t1 t2 t3 s0 aR ro r1 r2 r3 x0 x1 x2 x3 x4 c46 c47 n_settings n_tick c48 c49 c33 c34 c35 c36 c37 c38 c50 c51 c52 x_signs x_length x_position x_complete x_orders x_kinds x_numbers x_values p1 1 hc299) q257 q258 q259 q8 q260 2 hdX4_key ⟨Nat.le_of_ble_eq_true rfl, Nat.le_of_ble_eq_true rfl⟩ ⟨Nat.le_of_ble_eq_true rfl, Nat.le_of_ble_eq_true rfl⟩ rfl rfl hl.1 (Nat.le_of_ble_eq_true rfl) hP hK (va_recv hK hP (ci := 3) (q0 := 0) rfl rfl) hS dL_put_299 (fun H locs hk hS => ?_)
                      have hP := k_kept hP hk
                      refine lv_iload_n hx hb dL_put_302 rfl (lv_at hl 4 rfl) ?_
                      refine g_icmp_ne (tgt := 345) hx hb dL_put_303 (by decide) h (fun h => ?_) (fun h => ?_)
                      · refine lv_iconst (v := 0) hx hb dL_put_345 (by decide) ?_
                        obtain ⟨e0, e1, e2, e3, e4, e5, e6, e7, e8, e9, e10, e11, e12, e13⟩ := k_t14 h
                        exact g_retMZ hx hb hr (by decide +kernel) hlk hS e0 (by rw [← e1, ← e2, ← e3, ← e4, ← e5, ← e6, ← e7, ← e8, ← e9, ← e10, ← e11, ← e12, ← e13]; exact hP) dL_put_346
                      · refine lv_aload_n hx hb dL_put_306 rfl (lv_at hl 1 rfl) ?_
                        refine lv_iload_n hx hb dL_put_307 rfl (lv_at hl 4 rfl) ?_
                        refine lv_iconst (v := 2) hx hb dL_put_308 (by decide) ?_
                        obtain ⟨z55, hc309, h⟩ := k_b1_e h
                        refine g_callRI_V (As := [.int z1, .int 2]) (rest := []) hC (mX4_row l dC dI cyI cyC cyO ob n0 n1 n2 n3 t0 t1 t2 t3 s0 aR ro r1 r2 r3 x0 x1 x2 x3 x4 c46 c47 n_settings n_tick c48 c49 c33 c34 c35 c36 c37 c38 c50 c51 c52 x_signs x_length x_position x_complete x_orders x_kinds x_numbers x_values z1 2 hc309) q231 q232 q233 q8 q234 2 hdX4_row ⟨Nat.le_of_ble_eq_true rfl, Nat.le_of_ble_eq_true rfl⟩ ⟨Nat.le_of_ble_eq_true rfl, Nat.le_of_ble_eq_true rfl⟩ rfl rfl hl.1 (Nat.le_of_ble_eq_true rfl) hP hK (va_recv hK hP (ci := 3) (q0 := 0) rfl rfl) hS dL_put_309 (fun H locs hk hS => ?_)
                        have hP := k_kept hP hk
                        refine lv_iload_n hx hb dL_put_312 rfl (lv_at hl 2 rfl) ?_
                        refine g_icmp_ne (tgt := 345) hx hb dL_put_313 (by decide) h (fun h => ?_) (fun h => ?_)
                        · refine lv_iconst (v := 0) hx hb dL_put_345 (by decide) ?_
                          obtain ⟨e0, e1, e2, e3, e4, e5, e6, e7, e8, e9, e10, e11, e12, e13⟩ := k_t14 h
                          exact g_retMZ hx hb hr (by decide +kernel) hlk hS e0 (by rw [← e1, ← e2, ← e3, ← e4, ← e5, ← e6, ← e7, ← e8, ← e9, ← e10, ← e11, ← e12, ← e13]; exact hP) dL_put_346
                        · refine lv_aload_n hx hb dL_put_316 rfl (lv_at hl 1 rfl) ?_
                          refine lv_iload_n hx hb dL_put_317 rfl (lv_at hl 4 rfl) ?_
                          refine lv_iconst (v := 3) hx hb dL_put_318 (by decide) ?_
                          obtain ⟨z56, hc319, h⟩ := k_b1_e h
                          refine g_callRI_V (As := [.int z1, .int 3]) (rest := []) hC (mX4_row l dC dI cyI cyC cyO ob n0 n1 n2 n3 t0 t1 t2 t3 s0 aR ro r1 r2 r3 x0 x1 x2 x3 x4 c46 c47 n_settings n_tick c48 c49 c33 c34 c35 c36 c37 c38 c50 c51 c52 x_signs x_length x_position x_complete x_orders x_kinds x_numbers x_values z1 3 hc319) q231 q232 q233 q8 q234 2 hdX4_row ⟨Nat.le_of_ble_eq_true rfl, Nat.le_of_ble_eq_true rfl⟩ ⟨Nat.le_of_ble_eq_true rfl, Nat.le_of_ble_eq_true rfl⟩ rfl rfl hl.1 (Nat.le_of_ble_eq_true rfl) hP hK (va_recv hK hP (ci := 3) (q0 := 0) rfl rfl) hS dL_put_319 (fun H locs hk hS => ?_)
                          have hP := k_kept hP hk
                          refine lv_iload_n hx hb dL_put_322 rfl (lv_at hl 3 rfl) ?_
                          refine g_icmp_ne (tgt := 345) hx hb dL_put_323 (by decide) h (fun h => ?_) (fun h => ?_)
                          · refine lv_iconst (v := 0) hx hb dL_put_345 (by decide) ?_
                            obtain ⟨e0, e1, e2, e3, e4, e5, e6, e7, e8, e9, e10, e11, e12, e13⟩ := k_t14 h
                            exact g_retMZ hx hb hr (by decide +kernel) hlk hS e0 (by rw [← e1, ← e2, ← e3, ← e4, ← e5, ← e6, ← e7, ← e8, ← e9, ← e10, ← e11, ← e12, ← e13]; exact hP) dL_put_346
                          · refine lv_aload_n hx hb dL_put_326 rfl (lv_at hl 1 rfl) ?_
                            refine lv_iload_n hx hb dL_put_327 rfl (lv_at hl 4 rfl) ?_
                            refine lv_iconst (v := 5) hx hb dL_put_328 (by decide) ?_
                            obtain ⟨z57, hc329, h⟩ := k_b1_e h
                            refine g_callRI_V (As := [.int z1, .int 5]) (rest := []) hC (mX4_row l dC dI cyI cyC cyO ob n0 n1 n2 n3 t0 t1 t2 t3 s0 aR ro r1 r2 r3 x0 x1 x2 x3 x4 c46 c47 n_settings n_tick c48 c49 c33 c34 c35 c36 c37 c38 c50 c51 c52 x_signs x_length x_position x_complete x_orders x_kinds x_numbers x_values z1 5 hc329) q231 q232 q233 q8 q234 2 hdX4_row ⟨Nat.le_of_ble_eq_true rfl, Nat.le_of_ble_eq_true rfl⟩ ⟨Nat.le_of_ble_eq_true rfl, Nat.le_of_ble_eq_true rfl⟩ rfl rfl hl.1 (Nat.le_of_ble_eq_true rfl) hP hK (va_recv hK hP (ci := 3) (q0 := 0) rfl rfl) hS dL_put_329 (fun H locs hk hS => ?_)
                            have hP := k_kept hP hk
                            refine lv_aload_n hx hb dL_put_332 rfl (lv_at hl 1 rfl) ?_
                            refine lv_iload_n hx hb dL_put_333 rfl (lv_at hl 4 rfl) ?_
                            refine lv_iconst (v := 4) hx hb dL_put_334 (by decide) ?_
                            obtain ⟨z58, hc335, h⟩ := k_b1_e h
                            refine g_callRI_V (As := [.int z1, .int 4]) (rest := [.int z57]) hC (mX4_row l dC dI cyI cyC cyO ob n0 n1 n2 n3 t0 t1 t2 t3 s0 aR ro r1 r2 r3 x0 x1 x2 x3 x4 c46 c47 n_settings n_tick c48 c49 c33 c34 c35 c36 c37 c38 c50 c51 c52 x_signs x_length x_position x_complete x_orders x_kinds x_numbers x_values z1 4 hc335) q231 q232 q233 q8 q234 2 hdX4_row ⟨Nat.le_of_ble_eq_true rfl, Nat.le_of_ble_eq_true rfl⟩ ⟨Nat.le_of_ble_eq_true rfl, Nat.le_of_ble_eq_true rfl⟩ rfl rfl hl.1 (Nat.le_of_ble_eq_true rfl) hP hK (va_recv hK hP (ci := 3) (q0 := 0) rfl rfl) hS dL_put_335 (fun H locs hk hS => ?_)
                            have hP := k_kept hP hk
                            refine g_icmp_ne (tgt := 345) hx hb dL_put_338 (by decide) h (fun h => ?_) (fun h => ?_)
                            · refine lv_iconst (v := 0) hx hb dL_put_345 (by decide) ?_
                              obtain ⟨e0, e1, e2, e3, e4, e5, e6, e7, e8, e9, e10, e11, e12, e13⟩ := k_t14 h
                              exact g_retMZ hx hb hr (by decide +kernel) hlk hS e0 (by rw [← e1, ← e2, ← e3, ← e4, ← e5, ← e6, ← e7, ← e8, ← e9, ← e10, ← e11, ← e12, ← e13]; exact hP) dL_put_346
                            · refine lv_iconst (v := 1) hx hb dL_put_341 (by decide) ?_
                              refine lv_goto (tgt := 346) hx hb dL_put_342 (by decide) ?_
                              obtain ⟨e0, e1, e2, e3, e4, e5, e6, e7, e8, e9, e10, e11, e12, e13⟩ := k_t14 h
                              exact g_retMZ hx hb hr (by decide +kernel) hlk hS e0 (by rw [← e1, ← e2, ← e3, ← e4, ← e5, ← e6, ← e7, ← e8, ← e9, ← e10, ← e11, ← e12, ← e13]; exact hP) dL_put_346
          refine g_if_eq (tgt := 265) hx hb dL_put_228 (by decide) h (fun h => ?_) (fun h => ?_)
          · refine lv_iconst (v := 0) hx hb dL_put_265 (by decide) ?_
            exact J266 0 _ _ _ h hP hS (lv_sub hl [1, 2, 3, 4, 5, 6, 7, 9] rfl)
          · refine lv_iload hx hb dL_put_231 (lv_at hl 5 rfl) ?_
            refine lv_iconst (v := 1) hx hb dL_put_233 (by decide) ?_
            refine g_icmp_lt (tgt := 265) hx hb dL_put_234 (by decide) h (fun h => ?_) (fun h => ?_)
            · refine lv_iconst (v := 0) hx hb dL_put_265 (by decide) ?_
              exact J266 0 _ _ _ h hP hS (lv_sub hl [1, 2, 3, 4, 5, 6, 7, 9] rfl)
            · refine lv_iload hx hb dL_put_237 (lv_at hl 5 rfl) ?_
              refine lv_aload_n hx hb dL_put_239 rfl (lv_at hl 1 rfl) ?_
              refine lv_iconst (v := 2) hx hb dL_put_240 (by decide) ?_
              obtain ⟨z59, hc241, h⟩ := k_b1_e h
              refine g_callRI_V (As := [.int 2]) (rest := [.int z2]) hC (mX4_setting l dC dI cyI cyC cyO ob n0 n1 n2 n3 t0 t1 t2 t3 s0 aR ro r1 r2 r3 x0 x1 x2 x3 x4 c46 c47 n_settings n_tick c48 c49 c33 c34 c35 c36 c37 c38 c50 c51 c52 x_signs x_length x_position x_complete x_orders x_kinds x_numbers x_values 2 hc241) q327 q328 q329 q8 q330 1 hdX4_setting ⟨Nat.le_of_ble_eq_true rfl, Nat.le_of_ble_eq_true rfl⟩ ⟨Nat.le_of_ble_eq_true rfl, Nat.le_of_ble_eq_true rfl⟩ rfl rfl hl.1 (Nat.le_of_ble_eq_true rfl) hP hK (va_recv hK hP (ci := 3) (q0 := 0) rfl rfl) hS dL_put_241 (fun H locs hk hS => ?_)
              have hP := k_kept hP hk
              refine g_icmp_gt (tgt := 265) hx hb dL_put_244 (by decide) h (fun h => ?_) (fun h => ?_)
              · refine lv_iconst (v := 0) hx hb dL_put_265 (by decide) ?_
                exact J266 0 _ _ _ h hP hS (lv_sub hl [1, 2, 3, 4, 5, 6, 7, 9] rfl)
              · refine lv_aload_n hx hb dL_put_247 rfl (lv_at hl 1 rfl) ?_
                refine lv_iconst (v := 3) hx hb dL_put_248 (by decide) ?_
                obtain ⟨z60, hc249, h⟩ := k_b1_e h
                refine g_callRI_V (As := [.int 3]) (rest := []) hC (mX4_setting l dC dI cyI cyC cyO ob n0 n1 n2 n3 t0 t1 t2 t3 s0 aR ro r1 r2 r3 x0 x1 x2 x3 x4 c46 c47 n_settings n_tick c48 c49 c33 c34 c35 c36 c37 c38 c50 c51 c52 x_signs x_length x_position x_complete x_orders x_kinds x_numbers x_values 3 hc249) q327 q328 q329 q8 q330 1 hdX4_setting ⟨Nat.le_of_ble_eq_true rfl, Nat.le_of_ble_eq_true rfl⟩ ⟨Nat.le_of_ble_eq_true rfl, Nat.le_of_ble_eq_true rfl⟩ rfl rfl hl.1 (Nat.le_of_ble_eq_true rfl) hP hK (va_recv hK hP (ci := 3) (q0 := 0) rfl rfl) hS dL_put_249 (fun H locs hk hS => ?_)
                have hP := k_kept hP hk
                refine lv_iconst (v := 1) hx hb dL_put_252 (by decide) ?_
                refine g_icmp_eq (tgt := 261) hx hb dL_put_253 (by decide) h (fun h => ?_) (fun h => ?_)
                · refine lv_iconst (v := 1) hx hb dL_put_261 (by decide) ?_
                  refine lv_goto (tgt := 266) hx hb dL_put_262 (by decide) ?_
                  exact J266 1 _ _ _ h hP hS (lv_sub hl [1, 2, 3, 4, 5, 6, 7, 9] rfl)
                · refine lv_iload hx hb dL_put_256 (lv_at hl 8 rfl) ?_
                  refine g_if_ne (tgt := 265) hx hb dL_put_258 (by decide) h (fun h => ?_) (fun h => ?_)
                  · refine lv_iconst (v := 0) hx hb dL_put_265 (by decide) ?_
                    exact J266 0 _ _ _ h hP hS (lv_sub hl [1, 2, 3, 4, 5, 6, 7, 9] rfl)
                  · refine lv_iconst (v := 1) hx hb dL_put_261 (by decide) ?_
                    refine lv_goto (tgt := 266) hx hb dL_put_262 (by decide) ?_
                    exact J266 1 _ _ _ h hP hS (lv_sub hl [1, 2, 3, 4, 5, 6, 7, 9] rfl)
        refine g_if_eq (tgt := 223) hx hb dL_put_147 (by decide) h (fun h => ?_) (fun h => ?_)
        · refine lv_iconst (v := 0) hx hb dL_put_223 (by decide) ?_
          exact J224 0 n_ones n_twos n_energy n_valuesPut s_ring s_oldest s_count _ _ _ h hP hS (lv_sub hl [1, 2, 3, 4, 5, 6, 8, 9, 12] rfl)
        · refine lv_aload_n hx hb dL_put_150 rfl (lv_at hl 1 rfl) ?_
          refine lv_iload_n hx hb dL_put_151 rfl (lv_at hl 2 rfl) ?_
          refine lv_iload_n hx hb dL_put_152 rfl (lv_at hl 3 rfl) ?_
          obtain ⟨z61, c62, c63, c64, c65, c66, c67, c68, hc153, h⟩ := k_b8_e h
          refine g_callMI_V (As := [.int p1, .int p2]) (rest := []) hC (mX4_put l dC dI cyI cyC cyO ob n0 n1 n2 n3 t0 t1 t2 t3 s0 aR ro r1 r2 r3 x0 x1 x2 x3 x4 n_ones n_twos n_settings n_tick n_energy n_valuesPut c33 c34 c35 c36 c37 c38 s_ring s_oldest s_count x_signs x_length x_position x_complete x_orders x_kinds x_numbers x_values p1 p2 hc153) q394 q395 q396 q8 q397 2 hdX4_put ⟨Nat.le_of_ble_eq_true rfl, Nat.le_of_ble_eq_true rfl⟩ ⟨Nat.le_of_ble_eq_true rfl, Nat.le_of_ble_eq_true rfl⟩ rfl rfl hl.1 (Nat.le_of_ble_eq_true rfl) hP hK hD (va_recv hK hP (ci := 3) (q0 := 0) rfl rfl) hS dL_put_153 (fun H locs hPn hk hS => ?_)
          have hP : va_P (dC, dI) vwCl (wAll cyI cyC cyO ob n0 n1 n2 n3 t0 t1 t2 t3 s0 aR ro r1 r2 r3 x0 x1 x2 x3 x4 c62 c63 n_settings n_tick c64 c65 c33 c34 c35 c36 c37 c38 c66 c67 c68 x_signs x_length x_position x_complete x_orders x_kinds x_numbers x_values) H := hPn
          have hD : va_D (k_A (wAll cyI cyC cyO ob n0 n1 n2 n3 t0 t1 t2 t3 s0 aR ro r1 r2 r3 x0 x1 x2 x3 x4 n_ones n_twos n_settings n_tick n_energy n_valuesPut t_ones t_twos t_settings t_tick t_energy t_valuesPut s_ring s_oldest s_count x_signs x_length x_position x_complete x_orders x_kinds x_numbers x_values)) (wAll cyI cyC cyO ob n0 n1 n2 n3 t0 t1 t2 t3 s0 aR ro r1 r2 r3 x0 x1 x2 x3 x4 c62 c63 n_settings n_tick c64 c65 c33 c34 c35 c36 c37 c38 c66 c67 c68 x_signs x_length x_position x_complete x_orders x_kinds x_numbers x_values) := k_Dm hD rfl
          refine lv_iload hx hb dL_put_156 (lv_at hl 5 rfl) ?_
          refine g_icmp_ne (tgt := 223) hx hb dL_put_158 (by decide) h (fun h => ?_) (fun h => ?_)
          · refine lv_iconst (v := 0) hx hb dL_put_223 (by decide) ?_
            exact J224 0 c62 c63 c64 c65 c66 c67 c68 _ _ _ h hP hS (lv_sub hl [1, 2, 3, 4, 5, 6, 8, 9, 12] rfl)
          · refine lv_aload_n hx hb dL_put_161 rfl (lv_at hl 1 rfl) ?_
            refine lv_iload_n hx hb dL_put_162 rfl (lv_at hl 4 rfl) ?_
            refine lv_iconst (v := 1) hx hb dL_put_163 (by decide) ?_
            obtain ⟨z69, hc164, h⟩ := k_b1_e h
            refine g_callRI_V (As := [.int z1, .int 1]) (rest := []) hC (mX4_row l dC dI cyI cyC cyO ob n0 n1 n2 n3 t0 t1 t2 t3 s0 aR ro r1 r2 r3 x0 x1 x2 x3 x4 c62 c63 n_settings n_tick c64 c65 c33 c34 c35 c36 c37 c38 c66 c67 c68 x_signs x_length x_position x_complete x_orders x_kinds x_numbers x_values z1 1 hc164) q231 q232 q233 q8 q234 2 hdX4_row ⟨Nat.le_of_ble_eq_true rfl, Nat.le_of_ble_eq_true rfl⟩ ⟨Nat.le_of_ble_eq_true rfl, Nat.le_of_ble_eq_true rfl⟩ rfl rfl hl.1 (Nat.le_of_ble_eq_true rfl) hP hK (va_recv hK hP (ci := 3) (q0 := 0) rfl rfl) hS dL_put_164 (fun H locs hk hS => ?_)
            have hP := k_kept hP hk
            refine lv_iload hx hb dL_put_167 (lv_at hl 6 rfl) ?_
            refine g_icmp_ne (tgt := 223) hx hb dL_put_169 (by decide) h (fun h => ?_) (fun h => ?_)
            · refine lv_iconst (v := 0) hx hb dL_put_223 (by decide) ?_
              exact J224 0 c62 c63 c64 c65 c66 c67 c68 _ _ _ h hP hS (lv_sub hl [1, 2, 3, 4, 5, 6, 8, 9, 12] rfl)
            · refine lv_aload_n hx hb dL_put_172 rfl (lv_at hl 1 rfl) ?_
              refine lv_bipush (v := 8) hx hb dL_put_173 (by decide) ?_
              obtain ⟨z70, hc175, h⟩ := k_b1_e h
              refine g_callRI_V (As := [.int 8]) (rest := []) hC (mX4_count l dC dI cyI cyC cyO ob n0 n1 n2 n3 t0 t1 t2 t3 s0 aR ro r1 r2 r3 x0 x1 x2 x3 x4 c62 c63 n_settings n_tick c64 c65 c33 c34 c35 c36 c37 c38 c66 c67 c68 x_signs x_length x_position x_complete x_orders x_kinds x_numbers x_values 8 hc175) q299 q300 q301 q8 q302 1 hdX4_count ⟨Nat.le_of_ble_eq_true rfl, Nat.le_of_ble_eq_true rfl⟩ ⟨Nat.le_of_ble_eq_true rfl, Nat.le_of_ble_eq_true rfl⟩ rfl rfl hl.1 (Nat.le_of_ble_eq_true rfl) hP hK (va_recv hK hP (ci := 3) (q0 := 0) rfl rfl) hS dL_put_175 (fun H locs hk hS => ?_)
              have hP := k_kept hP hk
              refine lv_iload hx hb dL_put_178 (lv_at hl 7 rfl) ?_
              refine g_icmp_ne (tgt := 223) hx hb dL_put_180 (by decide) h (fun h => ?_) (fun h => ?_)
              · refine lv_iconst (v := 0) hx hb dL_put_223 (by decide) ?_
                exact J224 0 c62 c63 c64 c65 c66 c67 c68 _ _ _ h hP hS (lv_sub hl [1, 2, 3, 4, 5, 6, 8, 9, 12] rfl)
              · refine lv_aload_n hx hb dL_put_183 rfl (lv_at hl 1 rfl) ?_
                refine lv_iload_n hx hb dL_put_184 rfl (lv_at hl 2 rfl) ?_
                refine lv_iconst (v := 0) hx hb dL_put_185 (by decide) ?_
                obtain ⟨z71, hc186, h⟩ := k_b1_e h
                refine g_callRI_V (As := [.int p1, .int 0]) (rest := []) hC (mX4_key l dC dI cyI cyC cyO ob n0 n1 n2 n3 t0 t1 t2 t3 s0 aR ro r1 r2 r3 x0 x1 x2 x3 x4 c62 c63 n_settings n_tick c64 c65 c33 c34 c35 c36 c37 c38 c66 c67 c68 x_signs x_length x_position x_complete x_orders x_kinds x_numbers x_values p1 0 hc186) q257 q258 q259 q8 q260 2 hdX4_key ⟨Nat.le_of_ble_eq_true rfl, Nat.le_of_ble_eq_true rfl⟩ ⟨Nat.le_of_ble_eq_true rfl, Nat.le_of_ble_eq_true rfl⟩ rfl rfl hl.1 (Nat.le_of_ble_eq_true rfl) hP hK (va_recv hK hP (ci := 3) (q0 := 0) rfl rfl) hS dL_put_186 (fun H locs hk hS => ?_)
                have hP := k_kept hP hk
                refine lv_iload hx hb dL_put_189 (lv_at hl 8 rfl) ?_
                refine g_icmp_ne (tgt := 223) hx hb dL_put_191 (by decide) h (fun h => ?_) (fun h => ?_)
                · refine lv_iconst (v := 0) hx hb dL_put_223 (by decide) ?_
                  exact J224 0 c62 c63 c64 c65 c66 c67 c68 _ _ _ h hP hS (lv_sub hl [1, 2, 3, 4, 5, 6, 8, 9, 12] rfl)
                · refine lv_aload_n hx hb dL_put_194 rfl (lv_at hl 1 rfl) ?_
                  refine lv_bipush (v := 11) hx hb dL_put_195 (by decide) ?_
                  obtain ⟨z72, hc197, h⟩ := k_b1_e h
                  refine g_callRI_V (As := [.int 11]) (rest := []) hC (mX4_count l dC dI cyI cyC cyO ob n0 n1 n2 n3 t0 t1 t2 t3 s0 aR ro r1 r2 r3 x0 x1 x2 x3 x4 c62 c63 n_settings n_tick c64 c65 c33 c34 c35 c36 c37 c38 c66 c67 c68 x_signs x_length x_position x_complete x_orders x_kinds x_numbers x_values 11 hc197) q299 q300 q301 q8 q302 1 hdX4_count ⟨Nat.le_of_ble_eq_true rfl, Nat.le_of_ble_eq_true rfl⟩ ⟨Nat.le_of_ble_eq_true rfl, Nat.le_of_ble_eq_true rfl⟩ rfl rfl hl.1 (Nat.le_of_ble_eq_true rfl) hP hK (va_recv hK hP (ci := 3) (q0 := 0) rfl rfl) hS dL_put_197 (fun H locs hk hS => ?_)
                  have hP := k_kept hP hk
                  refine lv_iload hx hb dL_put_200 (lv_at hl 11 rfl) ?_
                  refine lv_iconst (v := 1) hx hb dL_put_202 (by decide) ?_
                  refine g_iadd hx hb dL_put_203 h (fun z73 h => ?_)
                  refine g_icmp_ne (tgt := 223) hx hb dL_put_204 (by decide) h (fun h => ?_) (fun h => ?_)
                  · refine lv_iconst (v := 0) hx hb dL_put_223 (by decide) ?_
                    exact J224 0 c62 c63 c64 c65 c66 c67 c68 _ _ _ h hP hS (lv_sub hl [1, 2, 3, 4, 5, 6, 8, 9, 12] rfl)
                  · refine lv_iload hx hb dL_put_207 (lv_at hl 9 rfl) ?_
                    refine g_if_lt (tgt := 223) hx hb dL_put_209 (by decide) h (fun h => ?_) (fun h => ?_)
                    · refine lv_iconst (v := 0) hx hb dL_put_223 (by decide) ?_
                      exact J224 0 c62 c63 c64 c65 c66 c67 c68 _ _ _ h hP hS (lv_sub hl [1, 2, 3, 4, 5, 6, 8, 9, 12] rfl)
                    · refine lv_iload hx hb dL_put_212 (lv_at hl 9 rfl) ?_
                      refine lv_iload hx hb dL_put_214 (lv_at hl 10 rfl) ?_
                      refine g_icmp_gt (tgt := 223) hx hb dL_put_216 (by decide) h (fun h => ?_) (fun h => ?_)
                      · refine lv_iconst (v := 0) hx hb dL_put_223 (by decide) ?_
                        exact J224 0 c62 c63 c64 c65 c66 c67 c68 _ _ _ h hP hS (lv_sub hl [1, 2, 3, 4, 5, 6, 8, 9, 12] rfl)
                      · refine lv_iconst (v := 1) hx hb dL_put_219 (by decide) ?_
                        refine lv_goto (tgt := 224) hx hb dL_put_220 (by decide) ?_
                        exact J224 1 c62 c63 c64 c65 c66 c67 c68 _ _ _ h hP hS (lv_sub hl [1, 2, 3, 4, 5, 6, 8, 9, 12] rfl)
      refine g_if_ne (tgt := 142) hx hb dL_put_125 (by decide) h (fun h => ?_) (fun h => ?_)
      · refine lv_iconst (v := 0) hx hb dL_put_142 (by decide) ?_
        exact J143 0 _ _ _ h hP hS (lv_sub hl [1, 2, 3, 4, 5, 6, 7, 8, 9, 10, 11, 0] rfl)
      · refine lv_aload_n hx hb dL_put_128 rfl (lv_at hl 1 rfl) ?_
        refine lv_iload_n hx hb dL_put_129 rfl (lv_at hl 4 rfl) ?_
        refine lv_bipush (v := 7) hx hb dL_put_130 (by decide) ?_
        obtain ⟨z74, hc132, h⟩ := k_b1_e h
        refine g_callRI_V (As := [.int z1, .int 7]) (rest := []) hC (mX4_row l dC dI cyI cyC cyO ob n0 n1 n2 n3 t0 t1 t2 t3 s0 aR ro r1 r2 r3 x0 x1 x2 x3 x4 n_ones n_twos n_settings n_tick n_energy n_valuesPut c33 c34 c35 c36 c37 c38 s_ring s_oldest s_count x_signs x_length x_position x_complete x_orders x_kinds x_numbers x_values z1 7 hc132) q231 q232 q233 q8 q234 2 hdX4_row ⟨Nat.le_of_ble_eq_true rfl, Nat.le_of_ble_eq_true rfl⟩ ⟨Nat.le_of_ble_eq_true rfl, Nat.le_of_ble_eq_true rfl⟩ rfl rfl hl.1 (Nat.le_of_ble_eq_true rfl) hP hK (va_recv hK hP (ci := 3) (q0 := 0) rfl rfl) hS dL_put_132 (fun H locs hk hS => ?_)
        have hP := k_kept hP hk
        refine g_if_ne (tgt := 142) hx hb dL_put_135 (by decide) h (fun h => ?_) (fun h => ?_)
        · refine lv_iconst (v := 0) hx hb dL_put_142 (by decide) ?_
          exact J143 0 _ _ _ h hP hS (lv_sub hl [1, 2, 3, 4, 5, 6, 7, 8, 9, 10, 11, 0] rfl)
        · refine lv_iconst (v := 1) hx hb dL_put_138 (by decide) ?_
          refine lv_goto (tgt := 143) hx hb dL_put_139 (by decide) ?_
          exact J143 1 _ _ _ h hP hS (lv_sub hl [1, 2, 3, 4, 5, 6, 7, 8, 9, 10, 11, 0] rfl)
    refine g_icmp_ne (tgt := 116) hx hb dL_put_109 (by decide) h (fun h => ?_) (fun h => ?_)
    · refine lv_iconst (v := 0) hx hb dL_put_116 (by decide) ?_
      exact J117 0 _ _ _ h hP hS (lv_sub hl [8, 9, 10, 7, 6, 5, 4, 3, 2, 1, 0] rfl)
    · refine lv_iconst (v := 1) hx hb dL_put_112 (by decide) ?_
      refine lv_goto (tgt := 117) hx hb dL_put_113 (by decide) ?_
      exact J117 1 _ _ _ h hP hS (lv_sub hl [8, 9, 10, 7, 6, 5, 4, 3, 2, 1, 0] rfl)
  · refine lv_iload hx hb dL_put_21 (lv_at hl 0 rfl) ?_
    refine lv_iconst (v := (-1)) hx hb dL_put_23 (by decide) ?_
    refine g_icmp_ne (tgt := 42) hx hb dL_put_24 (by decide) h (fun h => ?_) (fun h => ?_)
    · refine lv_iconst (v := 0) hx hb dL_put_42 (by decide) ?_
      obtain ⟨e0, e1, e2, e3, e4, e5, e6, e7, e8, e9, e10, e11, e12, e13⟩ := k_t14 h
      exact g_retMZ hx hb hr (by decide +kernel) hlk hS e0 (by rw [← e1, ← e2, ← e3, ← e4, ← e5, ← e6, ← e7, ← e8, ← e9, ← e10, ← e11, ← e12, ← e13]; exact hP) dL_put_43
    · refine lv_aload_n hx hb dL_put_27 rfl (lv_at hl 2 rfl) ?_
      refine lv_iload_n hx hb dL_put_28 rfl (lv_at hl 3 rfl) ?_
      refine lv_iload_n hx hb dL_put_29 rfl (lv_at hl 4 rfl) ?_
      refine lv_iconst (v := 3) hx hb dL_put_30 (by decide) ?_
      obtain ⟨z75, c76, c77, c78, c79, c80, c81, hc31, h⟩ := k_b7_e h
      refine g_callMI_V (As := [.int p1, .int p2, .int 3]) (rest := []) hC (mX4_ifPut l dC dI cyI cyC cyO ob n0 n1 n2 n3 t0 t1 t2 t3 s0 aR ro r1 r2 r3 x0 x1 x2 x3 x4 n_ones n_twos n_settings n_tick n_energy n_valuesPut c3 c4 c5 c6 c7 c8 s_ring s_oldest s_count x_signs x_length x_position x_complete x_orders x_kinds x_numbers x_values p1 p2 3 hc31) q331 q332 q333 q8 q334 3 hdX4_ifPut ⟨Nat.le_of_ble_eq_true rfl, Nat.le_of_ble_eq_true rfl⟩ ⟨Nat.le_of_ble_eq_true rfl, Nat.le_of_ble_eq_true rfl⟩ rfl rfl hl.1 (Nat.le_of_ble_eq_true rfl) hP hK hD (va_recv hK hP (ci := 3) (q0 := 0) rfl rfl) hS dL_put_31 (fun H locs hPn hk hS => ?_)
      have hP : va_P (dC, dI) vwCl (wAll cyI cyC cyO ob n0 n1 n2 n3 t0 t1 t2 t3 s0 aR ro r1 r2 r3 x0 x1 x2 x3 x4 n_ones n_twos n_settings n_tick n_energy n_valuesPut c76 c77 c78 c79 c80 c81 s_ring s_oldest s_count x_signs x_length x_position x_complete x_orders x_kinds x_numbers x_values) H := hPn
      have hD : va_D (k_A (wAll cyI cyC cyO ob n0 n1 n2 n3 t0 t1 t2 t3 s0 aR ro r1 r2 r3 x0 x1 x2 x3 x4 n_ones n_twos n_settings n_tick n_energy n_valuesPut t_ones t_twos t_settings t_tick t_energy t_valuesPut s_ring s_oldest s_count x_signs x_length x_position x_complete x_orders x_kinds x_numbers x_values)) (wAll cyI cyC cyO ob n0 n1 n2 n3 t0 t1 t2 t3 s0 aR ro r1 r2 r3 x0 x1 x2 x3 x4 n_ones n_twos n_settings n_tick n_energy n_valuesPut c76 c77 c78 c79 c80 c81 s_ring s_oldest s_count x_signs x_length x_position x_complete x_orders x_kinds x_numbers x_values) := k_Dm hD rfl
      refine lv_iconst (v := (-1)) hx hb dL_put_34 (by decide) ?_
      refine g_icmp_ne (tgt := 42) hx hb dL_put_35 (by decide) h (fun h => ?_) (fun h => ?_)
      · refine lv_iconst (v := 0) hx hb dL_put_42 (by decide) ?_
        obtain ⟨e0, e1, e2, e3, e4, e5, e6, e7, e8, e9, e10, e11, e12, e13⟩ := k_t14 h
        exact g_retMZ hx hb hr (by decide +kernel) hlk hS e0 (by rw [← e1, ← e2, ← e3, ← e4, ← e5, ← e6, ← e7, ← e8, ← e9, ← e10, ← e11, ← e12, ← e13]; exact hP) dL_put_43
      · refine lv_iconst (v := 1) hx hb dL_put_38 (by decide) ?_
        refine lv_goto (tgt := 43) hx hb dL_put_39 (by decide) ?_
        obtain ⟨e0, e1, e2, e3, e4, e5, e6, e7, e8, e9, e10, e11, e12, e13⟩ := k_t14 h
        exact g_retMZ hx hb hr (by decide +kernel) hlk hS e0 (by rw [← e1, ← e2, ← e3, ← e4, ← e5, ← e6, ← e7, ← e8, ← e9, ← e10, ← e11, ← e12, ← e13]; exact hP) dL_put_43
def fL_isSealed_s53 (K227 : (Nat → Int32) → (Nat → Int32) → (Nat → Int32) → Int32 → Int32 → Int32 → (Nat → SV) → Int32 → Int32 → Option (Int32 × (Nat → Int32) × (Nat → Int32) × (Nat → Int32) × Int32 × Int32 × Int32 × (Nat → SV) × Int32 × Int32)) (p2 : Int32) (z3 : Int32) (p1 : Int32) (rec53 : Int32 → (Nat → Int32) → (Nat → Int32) → (Nat → Int32) → Int32 → Int32 → Int32 → (Nat → SV) → Int32 → Int32 → Option (Int32 × (Nat → Int32) × (Nat → Int32) × (Nat → Int32) × Int32 × Int32 × Int32 × (Nat → SV) × Int32 × Int32)) (z30 : Int32) (c31 : Nat → Int32) (c32 : Nat → Int32) (c33 : Nat → Int32) (c34 : Int32) (c35 : Int32) (c36 : Int32) (c37 : Nat → SV) (c38 : Int32) (c39 : Int32) : Option (Int32 × (Nat → Int32) × (Nat → Int32) × (Nat → Int32) × Int32 × Int32 × Int32 × (Nat → SV) × Int32 × Int32) :=
  k_if (14 ≤ z30)
  (
    K227 c31 c32 c33 c34 c35 c36 c37 c38 c39)
  (
    k_let (z30 + 1) fun (z40 : Int32) =>
    k_let (p2 >>> (z30 &&& 31)) fun (z41 : Int32) =>
    k_b1 (fL_low z41 13) fun (z42 : Int32) =>
    k_let (z40 + z42) fun (z43 : Int32) =>
    k_let (z43 - z43 / 14 * 14) fun (z44 : Int32) =>
    k_let (z3 >>> (z30 &&& 31)) fun (z45 : Int32) =>
    k_let (z45 &&& 1) fun (z46 : Int32) =>
    k_j1
    (fun (z47 : Int32) =>
      k_let (z3 >>> (z44 &&& 31)) fun (z48 : Int32) =>
      k_let (z48 &&& 1) fun (z49 : Int32) =>
      k_j1
      (fun (z50 : Int32) =>
        k_b1 (fX4_count c31 c32 c33 c34 c35 c36 c39 8) fun (z51 : Int32) =>
        k_b7 (fX4_blow c31 c32 c33 c34 c35 c36 c37 c38 c39 p1 z30 3) fun (z52 : Int32) (c53 : Nat → Int32) (c54 : Nat → Int32) (c55 : Int32) (c56 : Nat → SV) (c57 : Int32) (c58 : Int32) =>
        k_if (z52 = 3)
        (
          k_b1 (fX4_row c53 c54 c33 c34 p1 1) fun (z59 : Int32) =>
          k_j1
          (fun (z60 : Int32) =>
            k_if (z59 = z60)
            (
              k_b1 (fX4_count c53 c54 c33 c34 c55 c36 c58 8) fun (z61 : Int32) =>
              k_let (z51 + 3) fun (z62 : Int32) =>
              k_if (z61 = z62)
              (
                k_b7 (fX4_blow c53 c54 c33 c34 c55 c36 c56 c57 c58 p1 z44 3) fun (z63 : Int32) (c64 : Nat → Int32) (c65 : Nat → Int32) (c66 : Int32) (c67 : Nat → SV) (c68 : Int32) (c69 : Int32) =>
                k_if (z63 = 3)
                (
                  k_b1 (fX4_row c64 c65 c33 c34 p1 1) fun (z70 : Int32) =>
                  k_j1
                  (fun (z71 : Int32) =>
                    k_if (z70 = z71)
                    (
                      k_b8 (fX4_undo c64 c65 c33 c34 c66 c36 c67 c68 c69) fun (z72 : Int32) (c73 : Nat → Int32) (c74 : Nat → Int32) (c75 : Nat → Int32) (c76 : Int32) (c77 : Int32) (c78 : Int32) (c79 : Int32) =>
                      k_if (z72 < 0)
                      (
                        some (0, c73, c74, c75, c76, c77, c78, c67, c68, c79))
                      (
                        k_b8 (fX4_undo c73 c74 c75 c76 c77 c78 c67 c68 c79) fun (z80 : Int32) (c81 : Nat → Int32) (c82 : Nat → Int32) (c83 : Nat → Int32) (c84 : Int32) (c85 : Int32) (c86 : Int32) (c87 : Int32) =>
                        k_if (0 ≤ z80)
                        (
                          k_let (z30 + 1) fun (z88 : Int32) =>
                          rec53 z88 c81 c82 c83 c84 c85 c86 c67 c68 c87)
                        (
                          some (0, c81, c82, c83, c84, c85, c86, c67, c68, c87))))
                    (
                      some (0, c64, c65, c33, c34, c66, c36, c67, c68, c69)))
                  (fun K202 =>
                  k_if (z47 = 0)
                  (
                    K202 3)
                  (
                    k_if (z50 = 0)
                    (
                      K202 3)
                    (
                      K202 4))))
                (
                  some (0, c64, c65, c33, c34, c66, c36, c67, c68, c69)))
              (
                some (0, c53, c54, c33, c34, c55, c36, c56, c57, c58)))
            (
              some (0, c53, c54, c33, c34, c55, c36, c56, c57, c58)))
          (fun K151 =>
          k_if (z47 = 0)
          (
            K151 3)
          (
            K151 4)))
        (
          some (0, c53, c54, c33, c34, c55, c36, c56, c57, c58)))
      (fun K113 =>
      k_if (z49 = 1)
      (
        K113 1)
      (
        K113 0)))
    (fun K95 =>
    k_if (z46 = 1)
    (
      K95 1)
    (
      K95 0)))
def fL_isSealed (n_ones : Nat → Int32) (n_twos : Nat → Int32) (n_settings : Nat → Int32) (n_tick : Int32) (n_energy : Int32) (n_valuesPut : Int32) (s_ring : Nat → SV) (s_oldest : Int32) (s_count : Int32) (p1 : Int32) (p2 : Int32) : Option (Int32 × (Nat → Int32) × (Nat → Int32) × (Nat → Int32) × Int32 × Int32 × Int32 × (Nat → SV) × Int32 × Int32) :=
  k_b1 (fX4_row n_ones n_twos n_settings n_tick p1 1) fun (z1 : Int32) =>
  k_j1
  (fun (z2 : Int32) =>
    k_if (z2 = 0)
    (
      some (1, n_ones, n_twos, n_settings, n_tick, n_energy, n_valuesPut, s_ring, s_oldest, s_count))
    (
      k_b1 (fX4_row n_ones n_twos n_settings n_tick p1 0) fun (z3 : Int32) =>
      k_j9
      (fun (c4 : Nat → Int32) (c5 : Nat → Int32) (c6 : Nat → Int32) (c7 : Int32) (c8 : Int32) (c9 : Int32) (c10 : Nat → SV) (c11 : Int32) (c12 : Int32) =>
        k_b7 (fX4_blow c4 c5 c6 c7 c8 c9 c10 c11 c12 p1 14 3) fun (z13 : Int32) (c14 : Nat → Int32) (c15 : Nat → Int32) (c16 : Int32) (c17 : Nat → SV) (c18 : Int32) (c19 : Int32) =>
        k_if (z13 = 3)
        (
          k_b1 (fX4_row c14 c15 c6 c7 p1 1) fun (z20 : Int32) =>
          k_if (z20 = 2)
          (
            k_b8 (fX4_undo c14 c15 c6 c7 c16 c9 c17 c18 c19) fun (z21 : Int32) (c22 : Nat → Int32) (c23 : Nat → Int32) (c24 : Nat → Int32) (c25 : Int32) (c26 : Int32) (c27 : Int32) (c28 : Int32) =>
            k_if (z21 < 0)
            (
              some (0, c22, c23, c24, c25, c26, c27, c17, c18, c28))
            (
              k_b1 (fX4_row c22 c23 c24 c25 p1 0) fun (z29 : Int32) =>
              k_if (z29 = z3)
              (
                some (1, c22, c23, c24, c25, c26, c27, c17, c18, c28))
              (
                some (0, c22, c23, c24, c25, c26, c27, c17, c18, c28))))
          (
            some (0, c14, c15, c6, c7, c16, c9, c17, c18, c19)))
        (
          some (0, c14, c15, c6, c7, c16, c9, c17, c18, c19)))
      (fun K227 =>
      k_l10 (fL_isSealed_s53 K227 p2 z3 p1) 5000 0 n_ones n_twos n_settings n_tick n_energy n_valuesPut s_ring s_oldest s_count)))
  (fun K35 =>
  k_if (z1 = 4)
  (
    k_b1 (fX4_row n_ones n_twos n_settings n_tick p1 6) fun (z89 : Int32) =>
    k_if (z89 = 0)
    (
      k_b1 (fX4_row n_ones n_twos n_settings n_tick p1 7) fun (z90 : Int32) =>
      k_if (z90 = 0)
      (
        K35 1)
      (
        K35 0))
    (
      K35 0))
  (
    K35 0))
theorem hdL_isSealed : yL_isSealed.cls ≠ "java/lang/invoke/MethodHandle" ∧ yL_isSealed.cls ≠ "java/lang/invoke/VarHandle" ∧ (parseMethodDescriptor yL_isSealed.desc).map (fun d => d.parameters.length) = some 3 := by decide +kernel
set_option maxRecDepth 100000 in
set_option maxHeartbeats 4000000 in
theorem mL_isSealed (l : Launch) (dC : Nat → ClassId) (dI : Nat → Nat → Nat) (cyI cyC cyO : ClassId) (ob : Nat) (n0 : Nat) (n1 : Nat) (n2 : Nat) (n3 : Nat) (t0 : Nat) (t1 : Nat) (t2 : Nat) (t3 : Nat) (s0 : Nat) (aR : Nat) (ro : Nat → Nat) (r1 : Nat → Nat) (r2 : Nat → Nat) (r3 : Nat → Nat) (x0 : Nat) (x1 : Nat) (x2 : Nat) (x3 : Nat) (x4 : Nat) (n_ones : Nat → Int32) (n_twos : Nat → Int32) (n_settings : Nat → Int32) (n_tick : Int32) (n_energy : Int32) (n_valuesPut : Int32) (t_ones : Nat → Int32) (t_twos : Nat → Int32) (t_settings : Nat → Int32) (t_tick : Int32) (t_energy : Int32) (t_valuesPut : Int32) (s_ring : Nat → SV) (s_oldest : Int32) (s_count : Int32) (x_signs : Nat → Int32) (x_length : Int32) (x_position : Int32) (x_complete : Int32) (x_orders : Int32) (x_kinds : Nat → Int32) (x_numbers : Nat → Int32) (x_values : Nat → Int32) (p1 : Int32) (p2 : Int32) {r : Int32} {r_n_ones : Nat → Int32} {r_n_twos : Nat → Int32} {r_n_settings : Nat → Int32} {r_n_tick : Int32} {r_n_energy : Int32} {r_n_valuesPut : Int32} {r_s_ring : Nat → SV} {r_s_oldest : Int32} {r_s_count : Int32} (hf : fL_isSealed n_ones n_twos n_settings n_tick n_energy n_valuesPut s_ring s_oldest s_count p1 p2 = some (r, r_n_ones, r_n_twos, r_n_settings, r_n_tick, r_n_energy, r_n_valuesPut, r_s_ring, r_s_oldest, r_s_count)) : MetMI l yL_isSealed cL_isSealed 10 (some .boolean) 6 134 [.ref ob, .int p1, .int p2] (dC, dI) (tyS cyI cyC cyO) (wAll cyI cyC cyO ob n0 n1 n2 n3 t0 t1 t2 t3 s0 aR ro r1 r2 r3 x0 x1 x2 x3 x4 n_ones n_twos n_settings n_tick n_energy n_valuesPut t_ones t_twos t_settings t_tick t_energy t_valuesPut s_ring s_oldest s_count x_signs x_length x_position x_complete x_orders x_kinds x_numbers x_values) (wAll cyI cyC cyO ob n0 n1 n2 n3 t0 t1 t2 t3 s0 aR ro r1 r2 r3 x0 x1 x2 x3 x4 r_n_ones r_n_twos r_n_settings r_n_tick r_n_energy r_n_valuesPut t_ones t_twos t_settings t_tick t_energy t_valuesPut r_s_ring r_s_oldest r_s_count x_signs x_length x_position x_complete x_orders x_kinds x_numbers x_values) r := by
  refine metMI_of (by decide) (Nat.le_of_ble_eq_true rfl) ?_
  intro p e s m below meth c ls hC hr hlk hP hK hD hl
  have hC : CallFix p m c cL_isSealed 10 s [.ref ob, .int p1, .int p2].toArray wA RL := hC
  obtain ⟨hx, hb, hml, hown, hts⟩ := id hC
  have hS : va_S (k_A (wAll cyI cyC cyO ob n0 n1 n2 n3 t0 t1 t2 t3 s0 aR ro r1 r2 r3 x0 x1 x2 x3 x4 n_ones n_twos n_settings n_tick n_energy n_valuesPut t_ones t_twos t_settings t_tick t_energy t_valuesPut s_ring s_oldest s_count x_signs x_length x_position x_complete x_orders x_kinds x_numbers x_values)) s.heap s.heap [] := va_S.rf
  have hl : lv_has ls 10 [(0, .ref ob), (1, .int p1), (2, .int p2)] := hl
  have h := hf
  unfold fL_isSealed at h
  obtain ⟨H, hH⟩ : ∃ H, H = s.heap := ⟨_, rfl⟩
  obtain ⟨locs, hlo⟩ : ∃ locs : List Loc, locs = [] := ⟨_, rfl⟩
  rw [← hH] at hP
  rw [← hlo] at hS
  have hS : va_S (k_A (wAll cyI cyC cyO ob n0 n1 n2 n3 t0 t1 t2 t3 s0 aR ro r1 r2 r3 x0 x1 x2 x3 x4 n_ones n_twos n_settings n_tick n_energy n_valuesPut t_ones t_twos t_settings t_tick t_energy t_valuesPut s_ring s_oldest s_count x_signs x_length x_position x_complete x_orders x_kinds x_numbers x_values)) s.heap H locs := by rw [hH]; exact hS
  show W p l e (k_rm 6 134) s m [.ref ob, .int p1, .int p2].toArray below meth c s.heap [] 0 0 _ _
  rw [← hlo, ← hH]
  refine lv_aload_n hx hb dL_isSealed_0 rfl (lv_at hl 0 rfl) ?_
  refine lv_iload_n hx hb dL_isSealed_1 rfl (lv_at hl 1 rfl) ?_
  refine lv_iconst (v := 1) hx hb dL_isSealed_2 (by decide) ?_
  obtain ⟨z1, hc3, h⟩ := k_b1_e h
  refine g_callRI_V (As := [.int p1, .int 1]) (rest := []) hC (mX4_row l dC dI cyI cyC cyO ob n0 n1 n2 n3 t0 t1 t2 t3 s0 aR ro r1 r2 r3 x0 x1 x2 x3 x4 n_ones n_twos n_settings n_tick n_energy n_valuesPut t_ones t_twos t_settings t_tick t_energy t_valuesPut s_ring s_oldest s_count x_signs x_length x_position x_complete x_orders x_kinds x_numbers x_values p1 1 hc3) q231 q232 q233 q8 q234 2 hdX4_row ⟨Nat.le_of_ble_eq_true rfl, Nat.le_of_ble_eq_true rfl⟩ ⟨Nat.le_of_ble_eq_true rfl, Nat.le_of_ble_eq_true rfl⟩ rfl rfl hl.1 (Nat.le_of_ble_eq_true rfl) hP hK (va_recv hK hP (ci := 3) (q0 := 0) rfl rfl) hS dL_isSealed_3 (fun H locs hk hS => ?_)
  have hP := k_kept hP hk
  refine lv_iconst (v := 4) hx hb dL_isSealed_6 (by decide) ?_
  obtain ⟨K35, hK35, h⟩ := k_j1_e h
  have J35 : ∀ (z2 : Int32) (H : Heap) (locs : List Loc) (ls : Array Slot), K35 z2 = some (r, r_n_ones, r_n_twos, r_n_settings, r_n_tick, r_n_energy, r_n_valuesPut, r_s_ring, r_s_oldest, r_s_count) → va_P (dC, dI) vwCl (wAll cyI cyC cyO ob n0 n1 n2 n3 t0 t1 t2 t3 s0 aR ro r1 r2 r3 x0 x1 x2 x3 x4 n_ones n_twos n_settings n_tick n_energy n_valuesPut t_ones t_twos t_settings t_tick t_energy t_valuesPut s_ring s_oldest s_count x_signs x_length x_position x_complete x_orders x_kinds x_numbers x_values) H → va_S (k_A (wAll cyI cyC cyO ob n0 n1 n2 n3 t0 t1 t2 t3 s0 aR ro r1 r2 r3 x0 x1 x2 x3 x4 n_ones n_twos n_settings n_tick n_energy n_valuesPut t_ones t_twos t_settings t_tick t_energy t_valuesPut s_ring s_oldest s_count x_signs x_length x_position x_complete x_orders x_kinds x_numbers x_values)) s.heap H locs → lv_has ls 10 [(0, .ref ob), (1, .int p1), (2, .int p2)] → W p l e (k_rm 6 134) s m [.ref ob, .int p1, .int p2].toArray below meth c H locs 0 0 (MQ below (qMI r (dC, dI) (wAll cyI cyC cyO ob n0 n1 n2 n3 t0 t1 t2 t3 s0 aR ro r1 r2 r3 x0 x1 x2 x3 x4 n_ones n_twos n_settings n_tick n_energy n_valuesPut t_ones t_twos t_settings t_tick t_energy t_valuesPut s_ring s_oldest s_count x_signs x_length x_position x_complete x_orders x_kinds x_numbers x_values) (wAll cyI cyC cyO ob n0 n1 n2 n3 t0 t1 t2 t3 s0 aR ro r1 r2 r3 x0 x1 x2 x3 x4 r_n_ones r_n_twos r_n_settings r_n_tick r_n_energy r_n_valuesPut t_ones t_twos t_settings t_tick t_energy t_valuesPut r_s_ring r_s_oldest r_s_count x_signs x_length x_position x_complete x_orders x_kinds x_numbers x_values)) [.ref ob, .int p1, .int p2].toArray s 0 0 (k_A (wAll cyI cyC cyO ob n0 n1 n2 n3 t0 t1 t2 t3 s0 aR ro r1 r2 r3 x0 x1 x2 x3 x4 n_ones n_twos n_settings n_tick n_energy n_valuesPut t_ones t_twos t_settings t_tick t_energy t_valuesPut s_ring s_oldest s_count x_signs x_length x_position x_complete x_orders x_kinds x_numbers x_values))) (F0 m 35 ls [.int z2]) := by
    intro z2 H locs ls h hP hS hl
    have h := k_a1 hK35 h
    refine lv_istore_n (lv' := [(3, .int z2), (0, .ref ob), (1, .int p1), (2, .int p2)]) hx hb dL_isSealed_35 rfl hl (by decide) rfl (fun ls hl => ?_)
    refine lv_iload_n hx hb dL_isSealed_36 rfl (lv_at hl 0 rfl) ?_
    refine g_if_ne (tgt := 42) hx hb dL_isSealed_37 (by decide) h (fun h => ?_) (fun h => ?_)
    · refine lv_aload_n hx hb dL_isSealed_42 rfl (lv_at hl 1 rfl) ?_
      refine lv_iload_n hx hb dL_isSealed_43 rfl (lv_at hl 2 rfl) ?_
      refine lv_iconst (v := 0) hx hb dL_isSealed_44 (by decide) ?_
      obtain ⟨z3, hc45, h⟩ := k_b1_e h
      refine g_callRI_V (As := [.int p1, .int 0]) (rest := []) hC (mX4_row l dC dI cyI cyC cyO ob n0 n1 n2 n3 t0 t1 t2 t3 s0 aR ro r1 r2 r3 x0 x1 x2 x3 x4 n_ones n_twos n_settings n_tick n_energy n_valuesPut t_ones t_twos t_settings t_tick t_energy t_valuesPut s_ring s_oldest s_count x_signs x_length x_position x_complete x_orders x_kinds x_numbers x_values p1 0 hc45) q231 q232 q233 q8 q234 2 hdX4_row ⟨Nat.le_of_ble_eq_true rfl, Nat.le_of_ble_eq_true rfl⟩ ⟨Nat.le_of_ble_eq_true rfl, Nat.le_of_ble_eq_true rfl⟩ rfl rfl hl.1 (Nat.le_of_ble_eq_true rfl) hP hK (va_recv hK hP (ci := 3) (q0 := 0) rfl rfl) hS dL_isSealed_45 (fun H locs hk hS => ?_)
      have hP := k_kept hP hk
      refine lv_istore (lv' := [(4, .int z3), (3, .int z2), (0, .ref ob), (1, .int p1), (2, .int p2)]) hx hb dL_isSealed_48 hl (by decide) rfl (fun ls hl => ?_)
      refine lv_iconst (v := 0) hx hb dL_isSealed_50 (by decide) ?_
      refine lv_istore (lv' := [(5, .int 0), (4, .int z3), (3, .int z2), (0, .ref ob), (1, .int p1), (2, .int p2)]) hx hb dL_isSealed_51 hl (by decide) rfl (fun ls hl => ?_)
      obtain ⟨K227, hK227, h⟩ := k_j9_e h
      have J227 : ∀ (c4 : Nat → Int32) (c5 : Nat → Int32) (c6 : Nat → Int32) (c7 : Int32) (c8 : Int32) (c9 : Int32) (c10 : Nat → SV) (c11 : Int32) (c12 : Int32) (H : Heap) (locs : List Loc) (ls : Array Slot), K227 c4 c5 c6 c7 c8 c9 c10 c11 c12 = some (r, r_n_ones, r_n_twos, r_n_settings, r_n_tick, r_n_energy, r_n_valuesPut, r_s_ring, r_s_oldest, r_s_count) → va_P (dC, dI) vwCl (wAll cyI cyC cyO ob n0 n1 n2 n3 t0 t1 t2 t3 s0 aR ro r1 r2 r3 x0 x1 x2 x3 x4 c4 c5 c6 c7 c8 c9 t_ones t_twos t_settings t_tick t_energy t_valuesPut c10 c11 c12 x_signs x_length x_position x_complete x_orders x_kinds x_numbers x_values) H → va_S (k_A (wAll cyI cyC cyO ob n0 n1 n2 n3 t0 t1 t2 t3 s0 aR ro r1 r2 r3 x0 x1 x2 x3 x4 n_ones n_twos n_settings n_tick n_energy n_valuesPut t_ones t_twos t_settings t_tick t_energy t_valuesPut s_ring s_oldest s_count x_signs x_length x_position x_complete x_orders x_kinds x_numbers x_values)) s.heap H locs → lv_has ls 10 [(0, .ref ob), (1, .int p1), (4, .int z3)] → W p l e (k_rm 6 134) s m [.ref ob, .int p1, .int p2].toArray below meth c H locs 0 0 (MQ below (qMI r (dC, dI) (wAll cyI cyC cyO ob n0 n1 n2 n3 t0 t1 t2 t3 s0 aR ro r1 r2 r3 x0 x1 x2 x3 x4 n_ones n_twos n_settings n_tick n_energy n_valuesPut t_ones t_twos t_settings t_tick t_energy t_valuesPut s_ring s_oldest s_count x_signs x_length x_position x_complete x_orders x_kinds x_numbers x_values) (wAll cyI cyC cyO ob n0 n1 n2 n3 t0 t1 t2 t3 s0 aR ro r1 r2 r3 x0 x1 x2 x3 x4 r_n_ones r_n_twos r_n_settings r_n_tick r_n_energy r_n_valuesPut t_ones t_twos t_settings t_tick t_energy t_valuesPut r_s_ring r_s_oldest r_s_count x_signs x_length x_position x_complete x_orders x_kinds x_numbers x_values)) [.ref ob, .int p1, .int p2].toArray s 0 0 (k_A (wAll cyI cyC cyO ob n0 n1 n2 n3 t0 t1 t2 t3 s0 aR ro r1 r2 r3 x0 x1 x2 x3 x4 n_ones n_twos n_settings n_tick n_energy n_valuesPut t_ones t_twos t_settings t_tick t_energy t_valuesPut s_ring s_oldest s_count x_signs x_length x_position x_complete x_orders x_kinds x_numbers x_values))) (F0 m 227 ls []) := by
        intro c4 c5 c6 c7 c8 c9 c10 c11 c12 H locs ls h hP hS hl
        have hD : va_D (k_A (wAll cyI cyC cyO ob n0 n1 n2 n3 t0 t1 t2 t3 s0 aR ro r1 r2 r3 x0 x1 x2 x3 x4 n_ones n_twos n_settings n_tick n_energy n_valuesPut t_ones t_twos t_settings t_tick t_energy t_valuesPut s_ring s_oldest s_count x_signs x_length x_position x_complete x_orders x_kinds x_numbers x_values)) (wAll cyI cyC cyO ob n0 n1 n2 n3 t0 t1 t2 t3 s0 aR ro r1 r2 r3 x0 x1 x2 x3 x4 c4 c5 c6 c7 c8 c9 t_ones t_twos t_settings t_tick t_energy t_valuesPut c10 c11 c12 x_signs x_length x_position x_complete x_orders x_kinds x_numbers x_values) := k_Dm hD rfl
        have h := k_a9 hK227 h
        refine lv_aload_n hx hb dL_isSealed_227 rfl (lv_at hl 0 rfl) ?_
        refine lv_iload_n hx hb dL_isSealed_228 rfl (lv_at hl 1 rfl) ?_
        refine lv_bipush (v := 14) hx hb dL_isSealed_229 (by decide) ?_
        refine lv_iconst (v := 3) hx hb dL_isSealed_231 (by decide) ?_
        obtain ⟨z13, c14, c15, c16, c17, c18, c19, hc232, h⟩ := k_b7_e h
        refine g_callMI_V (As := [.int p1, .int 14, .int 3]) (rest := []) hC (mX4_blow l dC dI cyI cyC cyO ob n0 n1 n2 n3 t0 t1 t2 t3 s0 aR ro r1 r2 r3 x0 x1 x2 x3 x4 c4 c5 c6 c7 c8 c9 t_ones t_twos t_settings t_tick t_energy t_valuesPut c10 c11 c12 x_signs x_length x_position x_complete x_orders x_kinds x_numbers x_values p1 14 3 hc232) q408 q409 q410 q8 q411 3 hdX4_blow ⟨Nat.le_of_ble_eq_true rfl, Nat.le_of_ble_eq_true rfl⟩ ⟨Nat.le_of_ble_eq_true rfl, Nat.le_of_ble_eq_true rfl⟩ rfl rfl hl.1 (Nat.le_of_ble_eq_true rfl) hP hK hD (va_recv hK hP (ci := 3) (q0 := 0) rfl rfl) hS dL_isSealed_232 (fun H locs hPn hk hS => ?_)
        have hP : va_P (dC, dI) vwCl (wAll cyI cyC cyO ob n0 n1 n2 n3 t0 t1 t2 t3 s0 aR ro r1 r2 r3 x0 x1 x2 x3 x4 c14 c15 c6 c7 c16 c9 t_ones t_twos t_settings t_tick t_energy t_valuesPut c17 c18 c19 x_signs x_length x_position x_complete x_orders x_kinds x_numbers x_values) H := hPn
        have hD : va_D (k_A (wAll cyI cyC cyO ob n0 n1 n2 n3 t0 t1 t2 t3 s0 aR ro r1 r2 r3 x0 x1 x2 x3 x4 n_ones n_twos n_settings n_tick n_energy n_valuesPut t_ones t_twos t_settings t_tick t_energy t_valuesPut s_ring s_oldest s_count x_signs x_length x_position x_complete x_orders x_kinds x_numbers x_values)) (wAll cyI cyC cyO ob n0 n1 n2 n3 t0 t1 t2 t3 s0 aR ro r1 r2 r3 x0 x1 x2 x3 x4 c14 c15 c6 c7 c16 c9 t_ones t_twos t_settings t_tick t_energy t_valuesPut c17 c18 c19 x_signs x_length x_position x_complete x_orders x_kinds x_numbers x_values) := k_Dm hD rfl
        refine lv_iconst (v := 3) hx hb dL_isSealed_235 (by decide) ?_
        refine g_icmp_ne (tgt := 271) hx hb dL_isSealed_236 (by decide) h (fun h => ?_) (fun h => ?_)
        · refine lv_iconst (v := 0) hx hb dL_isSealed_271 (by decide) ?_
          obtain ⟨e0, e1, e2, e3, e4, e5, e6, e7, e8, e9⟩ := k_t10 h
          exact g_retMZ hx hb hr (by decide +kernel) hlk hS e0 (by rw [← e1, ← e2, ← e3, ← e4, ← e5, ← e6, ← e7, ← e8, ← e9]; exact hP) dL_isSealed_272
        · refine lv_aload_n hx hb dL_isSealed_239 rfl (lv_at hl 0 rfl) ?_
          refine lv_iload_n hx hb dL_isSealed_240 rfl (lv_at hl 1 rfl) ?_
          refine lv_iconst (v := 1) hx hb dL_isSealed_241 (by decide) ?_
          obtain ⟨z20, hc242, h⟩ := k_b1_e h
          refine g_callRI_V (As := [.int p1, .int 1]) (rest := []) hC (mX4_row l dC dI cyI cyC cyO ob n0 n1 n2 n3 t0 t1 t2 t3 s0 aR ro r1 r2 r3 x0 x1 x2 x3 x4 c14 c15 c6 c7 c16 c9 t_ones t_twos t_settings t_tick t_energy t_valuesPut c17 c18 c19 x_signs x_length x_position x_complete x_orders x_kinds x_numbers x_values p1 1 hc242) q231 q232 q233 q8 q234 2 hdX4_row ⟨Nat.le_of_ble_eq_true rfl, Nat.le_of_ble_eq_true rfl⟩ ⟨Nat.le_of_ble_eq_true rfl, Nat.le_of_ble_eq_true rfl⟩ rfl rfl hl.1 (Nat.le_of_ble_eq_true rfl) hP hK (va_recv hK hP (ci := 3) (q0 := 0) rfl rfl) hS dL_isSealed_242 (fun H locs hk hS => ?_)
          have hP := k_kept hP hk
          refine lv_iconst (v := 2) hx hb dL_isSealed_245 (by decide) ?_
          refine g_icmp_ne (tgt := 271) hx hb dL_isSealed_246 (by decide) h (fun h => ?_) (fun h => ?_)
          · refine lv_iconst (v := 0) hx hb dL_isSealed_271 (by decide) ?_
            obtain ⟨e0, e1, e2, e3, e4, e5, e6, e7, e8, e9⟩ := k_t10 h
            exact g_retMZ hx hb hr (by decide +kernel) hlk hS e0 (by rw [← e1, ← e2, ← e3, ← e4, ← e5, ← e6, ← e7, ← e8, ← e9]; exact hP) dL_isSealed_272
          · refine lv_aload_n hx hb dL_isSealed_249 rfl (lv_at hl 0 rfl) ?_
            obtain ⟨z21, c22, c23, c24, c25, c26, c27, c28, hc250, h⟩ := k_b8_e h
            refine g_callMI_V (As := []) (rest := []) hC (mX4_undo l dC dI cyI cyC cyO ob n0 n1 n2 n3 t0 t1 t2 t3 s0 aR ro r1 r2 r3 x0 x1 x2 x3 x4 c14 c15 c6 c7 c16 c9 t_ones t_twos t_settings t_tick t_energy t_valuesPut c17 c18 c19 x_signs x_length x_position x_complete x_orders x_kinds x_numbers x_values hc250) q413 q414 q415 q8 q416 0 hdX4_undo ⟨Nat.le_of_ble_eq_true rfl, Nat.le_of_ble_eq_true rfl⟩ ⟨Nat.le_of_ble_eq_true rfl, Nat.le_of_ble_eq_true rfl⟩ rfl rfl hl.1 (Nat.le_of_ble_eq_true rfl) hP hK hD (va_recv hK hP (ci := 3) (q0 := 0) rfl rfl) hS dL_isSealed_250 (fun H locs hPn hk hS => ?_)
            have hP : va_P (dC, dI) vwCl (wAll cyI cyC cyO ob n0 n1 n2 n3 t0 t1 t2 t3 s0 aR ro r1 r2 r3 x0 x1 x2 x3 x4 c22 c23 c24 c25 c26 c27 t_ones t_twos t_settings t_tick t_energy t_valuesPut c17 c18 c28 x_signs x_length x_position x_complete x_orders x_kinds x_numbers x_values) H := hPn
            have hD : va_D (k_A (wAll cyI cyC cyO ob n0 n1 n2 n3 t0 t1 t2 t3 s0 aR ro r1 r2 r3 x0 x1 x2 x3 x4 n_ones n_twos n_settings n_tick n_energy n_valuesPut t_ones t_twos t_settings t_tick t_energy t_valuesPut s_ring s_oldest s_count x_signs x_length x_position x_complete x_orders x_kinds x_numbers x_values)) (wAll cyI cyC cyO ob n0 n1 n2 n3 t0 t1 t2 t3 s0 aR ro r1 r2 r3 x0 x1 x2 x3 x4 c22 c23 c24 c25 c26 c27 t_ones t_twos t_settings t_tick t_energy t_valuesPut c17 c18 c28 x_signs x_length x_position x_complete x_orders x_kinds x_numbers x_values) := k_Dm hD rfl
            refine g_if_lt (tgt := 271) hx hb dL_isSealed_253 (by decide) h (fun h => ?_) (fun h => ?_)
            · refine lv_iconst (v := 0) hx hb dL_isSealed_271 (by decide) ?_
              obtain ⟨e0, e1, e2, e3, e4, e5, e6, e7, e8, e9⟩ := k_t10 h
              exact g_retMZ hx hb hr (by decide +kernel) hlk hS e0 (by rw [← e1, ← e2, ← e3, ← e4, ← e5, ← e6, ← e7, ← e8, ← e9]; exact hP) dL_isSealed_272
            · refine lv_aload_n hx hb dL_isSealed_256 rfl (lv_at hl 0 rfl) ?_
              refine lv_iload_n hx hb dL_isSealed_257 rfl (lv_at hl 1 rfl) ?_
              refine lv_iconst (v := 0) hx hb dL_isSealed_258 (by decide) ?_
              obtain ⟨z29, hc259, h⟩ := k_b1_e h
              refine g_callRI_V (As := [.int p1, .int 0]) (rest := []) hC (mX4_row l dC dI cyI cyC cyO ob n0 n1 n2 n3 t0 t1 t2 t3 s0 aR ro r1 r2 r3 x0 x1 x2 x3 x4 c22 c23 c24 c25 c26 c27 t_ones t_twos t_settings t_tick t_energy t_valuesPut c17 c18 c28 x_signs x_length x_position x_complete x_orders x_kinds x_numbers x_values p1 0 hc259) q231 q232 q233 q8 q234 2 hdX4_row ⟨Nat.le_of_ble_eq_true rfl, Nat.le_of_ble_eq_true rfl⟩ ⟨Nat.le_of_ble_eq_true rfl, Nat.le_of_ble_eq_true rfl⟩ rfl rfl hl.1 (Nat.le_of_ble_eq_true rfl) hP hK (va_recv hK hP (ci := 3) (q0 := 0) rfl rfl) hS dL_isSealed_259 (fun H locs hk hS => ?_)
              have hP := k_kept hP hk
              refine lv_iload hx hb dL_isSealed_262 (lv_at hl 2 rfl) ?_
              refine g_icmp_ne (tgt := 271) hx hb dL_isSealed_264 (by decide) h (fun h => ?_) (fun h => ?_)
              · refine lv_iconst (v := 0) hx hb dL_isSealed_271 (by decide) ?_
                obtain ⟨e0, e1, e2, e3, e4, e5, e6, e7, e8, e9⟩ := k_t10 h
                exact g_retMZ hx hb hr (by decide +kernel) hlk hS e0 (by rw [← e1, ← e2, ← e3, ← e4, ← e5, ← e6, ← e7, ← e8, ← e9]; exact hP) dL_isSealed_272
              · refine lv_iconst (v := 1) hx hb dL_isSealed_267 (by decide) ?_
                refine lv_goto (tgt := 272) hx hb dL_isSealed_268 (by decide) ?_
                obtain ⟨e0, e1, e2, e3, e4, e5, e6, e7, e8, e9⟩ := k_t10 h
                exact g_retMZ hx hb hr (by decide +kernel) hlk hS e0 (by rw [← e1, ← e2, ← e3, ← e4, ← e5, ← e6, ← e7, ← e8, ← e9]; exact hP) dL_isSealed_272
      obtain ⟨S53, hS53⟩ : ∃ z, z = (fL_isSealed_s53 K227 p2 z3 p1) := ⟨_, rfl⟩
      rw [← hS53] at h
      have L53 : ∀ (n : Nat) (z30 : Int32) (c31 : Nat → Int32) (c32 : Nat → Int32) (c33 : Nat → Int32) (c34 : Int32) (c35 : Int32) (c36 : Int32) (c37 : Nat → SV) (c38 : Int32) (c39 : Int32) (H : Heap) (locs : List Loc) (ls : Array Slot), k_l10 S53 n z30 c31 c32 c33 c34 c35 c36 c37 c38 c39 = some (r, r_n_ones, r_n_twos, r_n_settings, r_n_tick, r_n_energy, r_n_valuesPut, r_s_ring, r_s_oldest, r_s_count) → va_P (dC, dI) vwCl (wAll cyI cyC cyO ob n0 n1 n2 n3 t0 t1 t2 t3 s0 aR ro r1 r2 r3 x0 x1 x2 x3 x4 c31 c32 c33 c34 c35 c36 t_ones t_twos t_settings t_tick t_energy t_valuesPut c37 c38 c39 x_signs x_length x_position x_complete x_orders x_kinds x_numbers x_values) H → va_S (k_A (wAll cyI cyC cyO ob n0 n1 n2 n3 t0 t1 t2 t3 s0 aR ro r1 r2 r3 x0 x1 x2 x3 x4 n_ones n_twos n_settings n_tick n_energy n_valuesPut t_ones t_twos t_settings t_tick t_energy t_valuesPut s_ring s_oldest s_count x_signs x_length x_position x_complete x_orders x_kinds x_numbers x_values)) s.heap H locs → lv_has ls 10 [(0, .ref ob), (1, .int p1), (2, .int p2), (4, .int z3), (5, .int z30)] → W p l e (k_rm 6 134) s m [.ref ob, .int p1, .int p2].toArray below meth c H locs 0 0 (MQ below (qMI r (dC, dI) (wAll cyI cyC cyO ob n0 n1 n2 n3 t0 t1 t2 t3 s0 aR ro r1 r2 r3 x0 x1 x2 x3 x4 n_ones n_twos n_settings n_tick n_energy n_valuesPut t_ones t_twos t_settings t_tick t_energy t_valuesPut s_ring s_oldest s_count x_signs x_length x_position x_complete x_orders x_kinds x_numbers x_values) (wAll cyI cyC cyO ob n0 n1 n2 n3 t0 t1 t2 t3 s0 aR ro r1 r2 r3 x0 x1 x2 x3 x4 r_n_ones r_n_twos r_n_settings r_n_tick r_n_energy r_n_valuesPut t_ones t_twos t_settings t_tick t_energy t_valuesPut r_s_ring r_s_oldest r_s_count x_signs x_length x_position x_complete x_orders x_kinds x_numbers x_values)) [.ref ob, .int p1, .int p2].toArray s 0 0 (k_A (wAll cyI cyC cyO ob n0 n1 n2 n3 t0 t1 t2 t3 s0 aR ro r1 r2 r3 x0 x1 x2 x3 x4 n_ones n_twos n_settings n_tick n_energy n_valuesPut t_ones t_twos t_settings t_tick t_energy t_valuesPut s_ring s_oldest s_count x_signs x_length x_position x_complete x_orders x_kinds x_numbers x_values))) (F0 m 53 ls []) := by
        intro n
        induction n with
        | zero =>
          intro z30 c31 c32 c33 c34 c35 c36 c37 c38 c39 H locs ls h
          exact (k_l10_0 h).elim
        | succ n ih53 =>
          intro z30 c31 c32 c33 c34 c35 c36 c37 c38 c39 H locs ls h hP hS hl
          have hD : va_D (k_A (wAll cyI cyC cyO ob n0 n1 n2 n3 t0 t1 t2 t3 s0 aR ro r1 r2 r3 x0 x1 x2 x3 x4 n_ones n_twos n_settings n_tick n_energy n_valuesPut t_ones t_twos t_settings t_tick t_energy t_valuesPut s_ring s_oldest s_count x_signs x_length x_position x_complete x_orders x_kinds x_numbers x_values)) (wAll cyI cyC cyO ob n0 n1 n2 n3 t0 t1 t2 t3 s0 aR ro r1 r2 r3 x0 x1 x2 x3 x4 c31 c32 c33 c34 c35 c36 t_ones t_twos t_settings t_tick t_energy t_valuesPut c37 c38 c39 x_signs x_length x_position x_complete x_orders x_kinds x_numbers x_values) := k_Dm hD rfl
          have h := k_l10_s h
          have h := k_a11 hS53 h
          unfold fL_isSealed_s53 at h
          refine lv_iload hx hb dL_isSealed_53 (lv_at hl 4 rfl) ?_
          refine lv_bipush (v := 14) hx hb dL_isSealed_55 (by decide) ?_
          refine g_icmp_ge (tgt := 227) hx hb dL_isSealed_57 (by decide) h (fun h => ?_) (fun h => ?_)
          · exact J227 c31 c32 c33 c34 c35 c36 c37 c38 c39 _ _ _ h hP hS (lv_sub hl [0, 1, 3] rfl)
          · refine lv_iload hx hb dL_isSealed_60 (lv_at hl 4 rfl) ?_
            refine lv_iconst (v := 1) hx hb dL_isSealed_62 (by decide) ?_
            refine g_iadd hx hb dL_isSealed_63 h (fun z40 h => ?_)
            refine lv_iload_n hx hb dL_isSealed_64 rfl (lv_at hl 2 rfl) ?_
            refine lv_iload hx hb dL_isSealed_65 (lv_at hl 4 rfl) ?_
            refine g_ishr hx hb dL_isSealed_67 h (fun z41 h => ?_)
            refine lv_bipush (v := 13) hx hb dL_isSealed_68 (by decide) ?_
            obtain ⟨z42, hc70, h⟩ := k_b1_e h
            refine g_callRI_S (As := [.int z41, .int 13]) (rest := [.int z40]) hC (mL_low l dC dI cyI cyC cyO z41 13 hc70) q387 q388 q7 q389 2 hdL_low ⟨Nat.le_of_ble_eq_true rfl, Nat.le_of_ble_eq_true rfl⟩ ⟨Nat.le_of_ble_eq_true rfl, Nat.le_of_ble_eq_true rfl⟩ rfl rfl hl.1 (Nat.le_of_ble_eq_true rfl) va_P_nil hK hS dL_isSealed_70 (fun H locs hk hS => ?_)
            have hP := k_kept hP hk
            refine g_iadd hx hb dL_isSealed_73 h (fun z43 h => ?_)
            refine lv_bipush (v := 14) hx hb dL_isSealed_74 (by decide) ?_
            refine g_irem hx hb dL_isSealed_76 (by decide) h (fun z44 h => ?_)
            refine lv_istore (lv' := [(6, .int z44), (0, .ref ob), (1, .int p1), (2, .int p2), (4, .int z3), (5, .int z30)]) hx hb dL_isSealed_77 hl (by decide) rfl (fun ls hl => ?_)
            refine lv_iload hx hb dL_isSealed_79 (lv_at hl 4 rfl) ?_
            refine lv_iload hx hb dL_isSealed_81 (lv_at hl 5 rfl) ?_
            refine g_ishr hx hb dL_isSealed_83 h (fun z45 h => ?_)
            refine lv_iconst (v := 1) hx hb dL_isSealed_84 (by decide) ?_
            refine g_iand hx hb dL_isSealed_85 h (fun z46 h => ?_)
            refine lv_iconst (v := 1) hx hb dL_isSealed_86 (by decide) ?_
            obtain ⟨K95, hK95, h⟩ := k_j1_e h
            have J95 : ∀ (z47 : Int32) (H : Heap) (locs : List Loc) (ls : Array Slot), K95 z47 = some (r, r_n_ones, r_n_twos, r_n_settings, r_n_tick, r_n_energy, r_n_valuesPut, r_s_ring, r_s_oldest, r_s_count) → va_P (dC, dI) vwCl (wAll cyI cyC cyO ob n0 n1 n2 n3 t0 t1 t2 t3 s0 aR ro r1 r2 r3 x0 x1 x2 x3 x4 c31 c32 c33 c34 c35 c36 t_ones t_twos t_settings t_tick t_energy t_valuesPut c37 c38 c39 x_signs x_length x_position x_complete x_orders x_kinds x_numbers x_values) H → va_S (k_A (wAll cyI cyC cyO ob n0 n1 n2 n3 t0 t1 t2 t3 s0 aR ro r1 r2 r3 x0 x1 x2 x3 x4 n_ones n_twos n_settings n_tick n_energy n_valuesPut t_ones t_twos t_settings t_tick t_energy t_valuesPut s_ring s_oldest s_count x_signs x_length x_position x_complete x_orders x_kinds x_numbers x_values)) s.heap H locs → lv_has ls 10 [(0, .ref ob), (1, .int p1), (2, .int p2), (4, .int z3), (5, .int z30), (6, .int z44)] → W p l e (k_rm 6 134) s m [.ref ob, .int p1, .int p2].toArray below meth c H locs 0 0 (MQ below (qMI r (dC, dI) (wAll cyI cyC cyO ob n0 n1 n2 n3 t0 t1 t2 t3 s0 aR ro r1 r2 r3 x0 x1 x2 x3 x4 n_ones n_twos n_settings n_tick n_energy n_valuesPut t_ones t_twos t_settings t_tick t_energy t_valuesPut s_ring s_oldest s_count x_signs x_length x_position x_complete x_orders x_kinds x_numbers x_values) (wAll cyI cyC cyO ob n0 n1 n2 n3 t0 t1 t2 t3 s0 aR ro r1 r2 r3 x0 x1 x2 x3 x4 r_n_ones r_n_twos r_n_settings r_n_tick r_n_energy r_n_valuesPut t_ones t_twos t_settings t_tick t_energy t_valuesPut r_s_ring r_s_oldest r_s_count x_signs x_length x_position x_complete x_orders x_kinds x_numbers x_values)) [.ref ob, .int p1, .int p2].toArray s 0 0 (k_A (wAll cyI cyC cyO ob n0 n1 n2 n3 t0 t1 t2 t3 s0 aR ro r1 r2 r3 x0 x1 x2 x3 x4 n_ones n_twos n_settings n_tick n_energy n_valuesPut t_ones t_twos t_settings t_tick t_energy t_valuesPut s_ring s_oldest s_count x_signs x_length x_position x_complete x_orders x_kinds x_numbers x_values))) (F0 m 95 ls [.int z47]) := by
              intro z47 H locs ls h hP hS hl
              have h := k_a1 hK95 h
              refine lv_istore (lv' := [(7, .int z47), (0, .ref ob), (1, .int p1), (2, .int p2), (4, .int z3), (5, .int z30), (6, .int z44)]) hx hb dL_isSealed_95 hl (by decide) rfl (fun ls hl => ?_)
              refine lv_iload hx hb dL_isSealed_97 (lv_at hl 4 rfl) ?_
              refine lv_iload hx hb dL_isSealed_99 (lv_at hl 6 rfl) ?_
              refine g_ishr hx hb dL_isSealed_101 h (fun z48 h => ?_)
              refine lv_iconst (v := 1) hx hb dL_isSealed_102 (by decide) ?_
              refine g_iand hx hb dL_isSealed_103 h (fun z49 h => ?_)
              refine lv_iconst (v := 1) hx hb dL_isSealed_104 (by decide) ?_
              obtain ⟨K113, hK113, h⟩ := k_j1_e h
              have J113 : ∀ (z50 : Int32) (H : Heap) (locs : List Loc) (ls : Array Slot), K113 z50 = some (r, r_n_ones, r_n_twos, r_n_settings, r_n_tick, r_n_energy, r_n_valuesPut, r_s_ring, r_s_oldest, r_s_count) → va_P (dC, dI) vwCl (wAll cyI cyC cyO ob n0 n1 n2 n3 t0 t1 t2 t3 s0 aR ro r1 r2 r3 x0 x1 x2 x3 x4 c31 c32 c33 c34 c35 c36 t_ones t_twos t_settings t_tick t_energy t_valuesPut c37 c38 c39 x_signs x_length x_position x_complete x_orders x_kinds x_numbers x_values) H → va_S (k_A (wAll cyI cyC cyO ob n0 n1 n2 n3 t0 t1 t2 t3 s0 aR ro r1 r2 r3 x0 x1 x2 x3 x4 n_ones n_twos n_settings n_tick n_energy n_valuesPut t_ones t_twos t_settings t_tick t_energy t_valuesPut s_ring s_oldest s_count x_signs x_length x_position x_complete x_orders x_kinds x_numbers x_values)) s.heap H locs → lv_has ls 10 [(0, .ref ob), (1, .int p1), (2, .int p2), (4, .int z3), (5, .int z30), (6, .int z44), (7, .int z47)] → W p l e (k_rm 6 134) s m [.ref ob, .int p1, .int p2].toArray below meth c H locs 0 0 (MQ below (qMI r (dC, dI) (wAll cyI cyC cyO ob n0 n1 n2 n3 t0 t1 t2 t3 s0 aR ro r1 r2 r3 x0 x1 x2 x3 x4 n_ones n_twos n_settings n_tick n_energy n_valuesPut t_ones t_twos t_settings t_tick t_energy t_valuesPut s_ring s_oldest s_count x_signs x_length x_position x_complete x_orders x_kinds x_numbers x_values) (wAll cyI cyC cyO ob n0 n1 n2 n3 t0 t1 t2 t3 s0 aR ro r1 r2 r3 x0 x1 x2 x3 x4 r_n_ones r_n_twos r_n_settings r_n_tick r_n_energy r_n_valuesPut t_ones t_twos t_settings t_tick t_energy t_valuesPut r_s_ring r_s_oldest r_s_count x_signs x_length x_position x_complete x_orders x_kinds x_numbers x_values)) [.ref ob, .int p1, .int p2].toArray s 0 0 (k_A (wAll cyI cyC cyO ob n0 n1 n2 n3 t0 t1 t2 t3 s0 aR ro r1 r2 r3 x0 x1 x2 x3 x4 n_ones n_twos n_settings n_tick n_energy n_valuesPut t_ones t_twos t_settings t_tick t_energy t_valuesPut s_ring s_oldest s_count x_signs x_length x_position x_complete x_orders x_kinds x_numbers x_values))) (F0 m 113 ls [.int z50]) := by
                intro z50 H locs ls h hP hS hl
                have h := k_a1 hK113 h
                refine lv_istore (lv' := [(8, .int z50), (0, .ref ob), (1, .int p1), (2, .int p2), (4, .int z3), (5, .int z30), (6, .int z44), (7, .int z47)]) hx hb dL_isSealed_113 hl (by decide) rfl (fun ls hl => ?_)
                refine lv_aload_n hx hb dL_isSealed_115 rfl (lv_at hl 1 rfl) ?_
                refine lv_bipush (v := 8) hx hb dL_isSealed_116 (by decide) ?_
                obtain ⟨z51, hc118, h⟩ := k_b1_e h
                refine g_callRI_V (As := [.int 8]) (rest := []) hC (mX4_count l dC dI cyI cyC cyO ob n0 n1 n2 n3 t0 t1 t2 t3 s0 aR ro r1 r2 r3 x0 x1 x2 x3 x4 c31 c32 c33 c34 c35 c36 t_ones t_twos t_settings t_tick t_energy t_valuesPut c37 c38 c39 x_signs x_length x_position x_complete x_orders x_kinds x_numbers x_values 8 hc118) q299 q300 q301 q8 q302 1 hdX4_count ⟨Nat.le_of_ble_eq_true rfl, Nat.le_of_ble_eq_true rfl⟩ ⟨Nat.le_of_ble_eq_true rfl, Nat.le_of_ble_eq_true rfl⟩ rfl rfl hl.1 (Nat.le_of_ble_eq_true rfl) hP hK (va_recv hK hP (ci := 3) (q0 := 0) rfl rfl) hS dL_isSealed_118 (fun H locs hk hS => ?_)
                have hP := k_kept hP hk
                refine lv_istore (lv' := [(9, .int z51), (8, .int z50), (0, .ref ob), (1, .int p1), (2, .int p2), (4, .int z3), (5, .int z30), (6, .int z44), (7, .int z47)]) hx hb dL_isSealed_121 hl (by decide) rfl (fun ls hl => ?_)
                refine lv_aload_n hx hb dL_isSealed_123 rfl (lv_at hl 2 rfl) ?_
                refine lv_iload_n hx hb dL_isSealed_124 rfl (lv_at hl 3 rfl) ?_
                refine lv_iload hx hb dL_isSealed_125 (lv_at hl 6 rfl) ?_
                refine lv_iconst (v := 3) hx hb dL_isSealed_127 (by decide) ?_
                obtain ⟨z52, c53, c54, c55, c56, c57, c58, hc128, h⟩ := k_b7_e h
                refine g_callMI_V (As := [.int p1, .int z30, .int 3]) (rest := []) hC (mX4_blow l dC dI cyI cyC cyO ob n0 n1 n2 n3 t0 t1 t2 t3 s0 aR ro r1 r2 r3 x0 x1 x2 x3 x4 c31 c32 c33 c34 c35 c36 t_ones t_twos t_settings t_tick t_energy t_valuesPut c37 c38 c39 x_signs x_length x_position x_complete x_orders x_kinds x_numbers x_values p1 z30 3 hc128) q408 q409 q410 q8 q411 3 hdX4_blow ⟨Nat.le_of_ble_eq_true rfl, Nat.le_of_ble_eq_true rfl⟩ ⟨Nat.le_of_ble_eq_true rfl, Nat.le_of_ble_eq_true rfl⟩ rfl rfl hl.1 (Nat.le_of_ble_eq_true rfl) hP hK hD (va_recv hK hP (ci := 3) (q0 := 0) rfl rfl) hS dL_isSealed_128 (fun H locs hPn hk hS => ?_)
                have hP : va_P (dC, dI) vwCl (wAll cyI cyC cyO ob n0 n1 n2 n3 t0 t1 t2 t3 s0 aR ro r1 r2 r3 x0 x1 x2 x3 x4 c53 c54 c33 c34 c55 c36 t_ones t_twos t_settings t_tick t_energy t_valuesPut c56 c57 c58 x_signs x_length x_position x_complete x_orders x_kinds x_numbers x_values) H := hPn
                have hD : va_D (k_A (wAll cyI cyC cyO ob n0 n1 n2 n3 t0 t1 t2 t3 s0 aR ro r1 r2 r3 x0 x1 x2 x3 x4 n_ones n_twos n_settings n_tick n_energy n_valuesPut t_ones t_twos t_settings t_tick t_energy t_valuesPut s_ring s_oldest s_count x_signs x_length x_position x_complete x_orders x_kinds x_numbers x_values)) (wAll cyI cyC cyO ob n0 n1 n2 n3 t0 t1 t2 t3 s0 aR ro r1 r2 r3 x0 x1 x2 x3 x4 c53 c54 c33 c34 c55 c36 t_ones t_twos t_settings t_tick t_energy t_valuesPut c56 c57 c58 x_signs x_length x_position x_complete x_orders x_kinds x_numbers x_values) := k_Dm hD rfl
                refine lv_iconst (v := 3) hx hb dL_isSealed_131 (by decide) ?_
                refine g_icmp_ne (tgt := 167) hx hb dL_isSealed_132 (by decide) h (fun h => ?_) (fun h => ?_)
                · refine lv_iconst (v := 0) hx hb dL_isSealed_167 (by decide) ?_
                  obtain ⟨e0, e1, e2, e3, e4, e5, e6, e7, e8, e9⟩ := k_t10 h
                  exact g_retMZ hx hb hr (by decide +kernel) hlk hS e0 (by rw [← e1, ← e2, ← e3, ← e4, ← e5, ← e6, ← e7, ← e8, ← e9]; exact hP) dL_isSealed_168
                · refine lv_aload_n hx hb dL_isSealed_135 rfl (lv_at hl 2 rfl) ?_
                  refine lv_iload_n hx hb dL_isSealed_136 rfl (lv_at hl 3 rfl) ?_
                  refine lv_iconst (v := 1) hx hb dL_isSealed_137 (by decide) ?_
                  obtain ⟨z59, hc138, h⟩ := k_b1_e h
                  refine g_callRI_V (As := [.int p1, .int 1]) (rest := []) hC (mX4_row l dC dI cyI cyC cyO ob n0 n1 n2 n3 t0 t1 t2 t3 s0 aR ro r1 r2 r3 x0 x1 x2 x3 x4 c53 c54 c33 c34 c55 c36 t_ones t_twos t_settings t_tick t_energy t_valuesPut c56 c57 c58 x_signs x_length x_position x_complete x_orders x_kinds x_numbers x_values p1 1 hc138) q231 q232 q233 q8 q234 2 hdX4_row ⟨Nat.le_of_ble_eq_true rfl, Nat.le_of_ble_eq_true rfl⟩ ⟨Nat.le_of_ble_eq_true rfl, Nat.le_of_ble_eq_true rfl⟩ rfl rfl hl.1 (Nat.le_of_ble_eq_true rfl) hP hK (va_recv hK hP (ci := 3) (q0 := 0) rfl rfl) hS dL_isSealed_138 (fun H locs hk hS => ?_)
                  have hP := k_kept hP hk
                  refine lv_iload hx hb dL_isSealed_141 (lv_at hl 8 rfl) ?_
                  obtain ⟨K151, hK151, h⟩ := k_j1_e h
                  have J151 : ∀ (z60 : Int32) (H : Heap) (locs : List Loc) (ls : Array Slot), K151 z60 = some (r, r_n_ones, r_n_twos, r_n_settings, r_n_tick, r_n_energy, r_n_valuesPut, r_s_ring, r_s_oldest, r_s_count) → va_P (dC, dI) vwCl (wAll cyI cyC cyO ob n0 n1 n2 n3 t0 t1 t2 t3 s0 aR ro r1 r2 r3 x0 x1 x2 x3 x4 c53 c54 c33 c34 c55 c36 t_ones t_twos t_settings t_tick t_energy t_valuesPut c56 c57 c58 x_signs x_length x_position x_complete x_orders x_kinds x_numbers x_values) H → va_S (k_A (wAll cyI cyC cyO ob n0 n1 n2 n3 t0 t1 t2 t3 s0 aR ro r1 r2 r3 x0 x1 x2 x3 x4 n_ones n_twos n_settings n_tick n_energy n_valuesPut t_ones t_twos t_settings t_tick t_energy t_valuesPut s_ring s_oldest s_count x_signs x_length x_position x_complete x_orders x_kinds x_numbers x_values)) s.heap H locs → lv_has ls 10 [(0, .ref ob), (1, .int p1), (2, .int p2), (4, .int z3), (5, .int z30), (6, .int z44), (7, .int z47), (8, .int z50), (9, .int z51)] → W p l e (k_rm 6 134) s m [.ref ob, .int p1, .int p2].toArray below meth c H locs 0 0 (MQ below (qMI r (dC, dI) (wAll cyI cyC cyO ob n0 n1 n2 n3 t0 t1 t2 t3 s0 aR ro r1 r2 r3 x0 x1 x2 x3 x4 n_ones n_twos n_settings n_tick n_energy n_valuesPut t_ones t_twos t_settings t_tick t_energy t_valuesPut s_ring s_oldest s_count x_signs x_length x_position x_complete x_orders x_kinds x_numbers x_values) (wAll cyI cyC cyO ob n0 n1 n2 n3 t0 t1 t2 t3 s0 aR ro r1 r2 r3 x0 x1 x2 x3 x4 r_n_ones r_n_twos r_n_settings r_n_tick r_n_energy r_n_valuesPut t_ones t_twos t_settings t_tick t_energy t_valuesPut r_s_ring r_s_oldest r_s_count x_signs x_length x_position x_complete x_orders x_kinds x_numbers x_values)) [.ref ob, .int p1, .int p2].toArray s 0 0 (k_A (wAll cyI cyC cyO ob n0 n1 n2 n3 t0 t1 t2 t3 s0 aR ro r1 r2 r3 x0 x1 x2 x3 x4 n_ones n_twos n_settings n_tick n_energy n_valuesPut t_ones t_twos t_settings t_tick t_energy t_valuesPut s_ring s_oldest s_count x_signs x_length x_position x_complete x_orders x_kinds x_numbers x_values))) (F0 m 151 ls [.int z60, .int z59]) := by
                    intro z60 H locs ls h hP hS hl
                    have h := k_a1 hK151 h
                    refine g_icmp_ne (tgt := 167) hx hb dL_isSealed_151 (by decide) h (fun h => ?_) (fun h => ?_)
                    · refine lv_iconst (v := 0) hx hb dL_isSealed_167 (by decide) ?_
                      obtain ⟨e0, e1, e2, e3, e4, e5, e6, e7, e8, e9⟩ := k_t10 h
                      exact g_retMZ hx hb hr (by decide +kernel) hlk hS e0 (by rw [← e1, ← e2, ← e3, ← e4, ← e5, ← e6, ← e7, ← e8, ← e9]; exact hP) dL_isSealed_168
                    · refine lv_aload_n hx hb dL_isSealed_154 rfl (lv_at hl 0 rfl) ?_
                      refine lv_bipush (v := 8) hx hb dL_isSealed_155 (by decide) ?_
                      obtain ⟨z61, hc157, h⟩ := k_b1_e h
                      refine g_callRI_V (As := [.int 8]) (rest := []) hC (mX4_count l dC dI cyI cyC cyO ob n0 n1 n2 n3 t0 t1 t2 t3 s0 aR ro r1 r2 r3 x0 x1 x2 x3 x4 c53 c54 c33 c34 c55 c36 t_ones t_twos t_settings t_tick t_energy t_valuesPut c56 c57 c58 x_signs x_length x_position x_complete x_orders x_kinds x_numbers x_values 8 hc157) q299 q300 q301 q8 q302 1 hdX4_count ⟨Nat.le_of_ble_eq_true rfl, Nat.le_of_ble_eq_true rfl⟩ ⟨Nat.le_of_ble_eq_true rfl, Nat.le_of_ble_eq_true rfl⟩ rfl rfl hl.1 (Nat.le_of_ble_eq_true rfl) hP hK (va_recv hK hP (ci := 3) (q0 := 0) rfl rfl) hS dL_isSealed_157 (fun H locs hk hS => ?_)
                      have hP := k_kept hP hk
                      refine lv_iload hx hb dL_isSealed_160 (lv_at hl 8 rfl) ?_
                      refine lv_iconst (v := 3) hx hb dL_isSealed_162 (by decide) ?_
                      refine g_iadd hx hb dL_isSealed_163 h (fun z62 h => ?_)
                      refine g_icmp_eq (tgt := 169) hx hb dL_isSealed_164 (by decide) h (fun h => ?_) (fun h => ?_)
                      · refine lv_aload_n hx hb dL_isSealed_169 rfl (lv_at hl 0 rfl) ?_
                        refine lv_iload_n hx hb dL_isSealed_170 rfl (lv_at hl 1 rfl) ?_
                        refine lv_iload hx hb dL_isSealed_171 (lv_at hl 5 rfl) ?_
                        refine lv_iconst (v := 3) hx hb dL_isSealed_173 (by decide) ?_
                        obtain ⟨z63, c64, c65, c66, c67, c68, c69, hc174, h⟩ := k_b7_e h
                        refine g_callMI_V (As := [.int p1, .int z44, .int 3]) (rest := []) hC (mX4_blow l dC dI cyI cyC cyO ob n0 n1 n2 n3 t0 t1 t2 t3 s0 aR ro r1 r2 r3 x0 x1 x2 x3 x4 c53 c54 c33 c34 c55 c36 t_ones t_twos t_settings t_tick t_energy t_valuesPut c56 c57 c58 x_signs x_length x_position x_complete x_orders x_kinds x_numbers x_values p1 z44 3 hc174) q408 q409 q410 q8 q411 3 hdX4_blow ⟨Nat.le_of_ble_eq_true rfl, Nat.le_of_ble_eq_true rfl⟩ ⟨Nat.le_of_ble_eq_true rfl, Nat.le_of_ble_eq_true rfl⟩ rfl rfl hl.1 (Nat.le_of_ble_eq_true rfl) hP hK hD (va_recv hK hP (ci := 3) (q0 := 0) rfl rfl) hS dL_isSealed_174 (fun H locs hPn hk hS => ?_)
                        have hP : va_P (dC, dI) vwCl (wAll cyI cyC cyO ob n0 n1 n2 n3 t0 t1 t2 t3 s0 aR ro r1 r2 r3 x0 x1 x2 x3 x4 c64 c65 c33 c34 c66 c36 t_ones t_twos t_settings t_tick t_energy t_valuesPut c67 c68 c69 x_signs x_length x_position x_complete x_orders x_kinds x_numbers x_values) H := hPn
                        have hD : va_D (k_A (wAll cyI cyC cyO ob n0 n1 n2 n3 t0 t1 t2 t3 s0 aR ro r1 r2 r3 x0 x1 x2 x3 x4 n_ones n_twos n_settings n_tick n_energy n_valuesPut t_ones t_twos t_settings t_tick t_energy t_valuesPut s_ring s_oldest s_count x_signs x_length x_position x_complete x_orders x_kinds x_numbers x_values)) (wAll cyI cyC cyO ob n0 n1 n2 n3 t0 t1 t2 t3 s0 aR ro r1 r2 r3 x0 x1 x2 x3 x4 c64 c65 c33 c34 c66 c36 t_ones t_twos t_settings t_tick t_energy t_valuesPut c67 c68 c69 x_signs x_length x_position x_complete x_orders x_kinds x_numbers x_values) := k_Dm hD rfl
                        refine lv_iconst (v := 3) hx hb dL_isSealed_177 (by decide) ?_
                        refine g_icmp_ne (tgt := 219) hx hb dL_isSealed_178 (by decide) h (fun h => ?_) (fun h => ?_)
                        · refine lv_iconst (v := 0) hx hb dL_isSealed_219 (by decide) ?_
                          obtain ⟨e0, e1, e2, e3, e4, e5, e6, e7, e8, e9⟩ := k_t10 h
                          exact g_retMZ hx hb hr (by decide +kernel) hlk hS e0 (by rw [← e1, ← e2, ← e3, ← e4, ← e5, ← e6, ← e7, ← e8, ← e9]; exact hP) dL_isSealed_220
                        · refine lv_aload_n hx hb dL_isSealed_181 rfl (lv_at hl 0 rfl) ?_
                          refine lv_iload_n hx hb dL_isSealed_182 rfl (lv_at hl 1 rfl) ?_
                          refine lv_iconst (v := 1) hx hb dL_isSealed_183 (by decide) ?_
                          obtain ⟨z70, hc184, h⟩ := k_b1_e h
                          refine g_callRI_V (As := [.int p1, .int 1]) (rest := []) hC (mX4_row l dC dI cyI cyC cyO ob n0 n1 n2 n3 t0 t1 t2 t3 s0 aR ro r1 r2 r3 x0 x1 x2 x3 x4 c64 c65 c33 c34 c66 c36 t_ones t_twos t_settings t_tick t_energy t_valuesPut c67 c68 c69 x_signs x_length x_position x_complete x_orders x_kinds x_numbers x_values p1 1 hc184) q231 q232 q233 q8 q234 2 hdX4_row ⟨Nat.le_of_ble_eq_true rfl, Nat.le_of_ble_eq_true rfl⟩ ⟨Nat.le_of_ble_eq_true rfl, Nat.le_of_ble_eq_true rfl⟩ rfl rfl hl.1 (Nat.le_of_ble_eq_true rfl) hP hK (va_recv hK hP (ci := 3) (q0 := 0) rfl rfl) hS dL_isSealed_184 (fun H locs hk hS => ?_)
                          have hP := k_kept hP hk
                          refine lv_iload hx hb dL_isSealed_187 (lv_at hl 6 rfl) ?_
                          obtain ⟨K202, hK202, h⟩ := k_j1_e h
                          have J202 : ∀ (z71 : Int32) (H : Heap) (locs : List Loc) (ls : Array Slot), K202 z71 = some (r, r_n_ones, r_n_twos, r_n_settings, r_n_tick, r_n_energy, r_n_valuesPut, r_s_ring, r_s_oldest, r_s_count) → va_P (dC, dI) vwCl (wAll cyI cyC cyO ob n0 n1 n2 n3 t0 t1 t2 t3 s0 aR ro r1 r2 r3 x0 x1 x2 x3 x4 c64 c65 c33 c34 c66 c36 t_ones t_twos t_settings t_tick t_energy t_valuesPut c67 c68 c69 x_signs x_length x_position x_complete x_orders x_kinds x_numbers x_values) H → va_S (k_A (wAll cyI cyC cyO ob n0 n1 n2 n3 t0 t1 t2 t3 s0 aR ro r1 r2 r3 x0 x1 x2 x3 x4 n_ones n_twos n_settings n_tick n_energy n_valuesPut t_ones t_twos t_settings t_tick t_energy t_valuesPut s_ring s_oldest s_count x_signs x_length x_position x_complete x_orders x_kinds x_numbers x_values)) s.heap H locs → lv_has ls 10 [(0, .ref ob), (1, .int p1), (2, .int p2), (4, .int z3), (5, .int z30)] → W p l e (k_rm 6 134) s m [.ref ob, .int p1, .int p2].toArray below meth c H locs 0 0 (MQ below (qMI r (dC, dI) (wAll cyI cyC cyO ob n0 n1 n2 n3 t0 t1 t2 t3 s0 aR ro r1 r2 r3 x0 x1 x2 x3 x4 n_ones n_twos n_settings n_tick n_energy n_valuesPut t_ones t_twos t_settings t_tick t_energy t_valuesPut s_ring s_oldest s_count x_signs x_length x_position x_complete x_orders x_kinds x_numbers x_values) (wAll cyI cyC cyO ob n0 n1 n2 n3 t0 t1 t2 t3 s0 aR ro r1 r2 r3 x0 x1 x2 x3 x4 r_n_ones r_n_twos r_n_settings r_n_tick r_n_energy r_n_valuesPut t_ones t_twos t_settings t_tick t_energy t_valuesPut r_s_ring r_s_oldest r_s_count x_signs x_length x_position x_complete x_orders x_kinds x_numbers x_values)) [.ref ob, .int p1, .int p2].toArray s 0 0 (k_A (wAll cyI cyC cyO ob n0 n1 n2 n3 t0 t1 t2 t3 s0 aR ro r1 r2 r3 x0 x1 x2 x3 x4 n_ones n_twos n_settings n_tick n_energy n_valuesPut t_ones t_twos t_settings t_tick t_energy t_valuesPut s_ring s_oldest s_count x_signs x_length x_position x_complete x_orders x_kinds x_numbers x_values))) (F0 m 202 ls [.int z71, .int z70]) := by
                            intro z71 H locs ls h hP hS hl
                            have h := k_a1 hK202 h
                            refine g_icmp_ne (tgt := 219) hx hb dL_isSealed_202 (by decide) h (fun h => ?_) (fun h => ?_)
                            · refine lv_iconst (v := 0) hx hb dL_isSealed_219 (by decide) ?_
                              obtain ⟨e0, e1, e2, e3, e4, e5, e6, e7, e8, e9⟩ := k_t10 h
                              exact g_retMZ hx hb hr (by decide +kernel) hlk hS e0 (by rw [← e1, ← e2, ← e3, ← e4, ← e5, ← e6, ← e7, ← e8, ← e9]; exact hP) dL_isSealed_220
                            · refine lv_aload_n hx hb dL_isSealed_205 rfl (lv_at hl 0 rfl) ?_
                              obtain ⟨z72, c73, c74, c75, c76, c77, c78, c79, hc206, h⟩ := k_b8_e h
                              refine g_callMI_V (As := []) (rest := []) hC (mX4_undo l dC dI cyI cyC cyO ob n0 n1 n2 n3 t0 t1 t2 t3 s0 aR ro r1 r2 r3 x0 x1 x2 x3 x4 c64 c65 c33 c34 c66 c36 t_ones t_twos t_settings t_tick t_energy t_valuesPut c67 c68 c69 x_signs x_length x_position x_complete x_orders x_kinds x_numbers x_values hc206) q413 q414 q415 q8 q416 0 hdX4_undo ⟨Nat.le_of_ble_eq_true rfl, Nat.le_of_ble_eq_true rfl⟩ ⟨Nat.le_of_ble_eq_true rfl, Nat.le_of_ble_eq_true rfl⟩ rfl rfl hl.1 (Nat.le_of_ble_eq_true rfl) hP hK hD (va_recv hK hP (ci := 3) (q0 := 0) rfl rfl) hS dL_isSealed_206 (fun H locs hPn hk hS => ?_)
                              have hP : va_P (dC, dI) vwCl (wAll cyI cyC cyO ob n0 n1 n2 n3 t0 t1 t2 t3 s0 aR ro r1 r2 r3 x0 x1 x2 x3 x4 c73 c74 c75 c76 c77 c78 t_ones t_twos t_settings t_tick t_energy t_valuesPut c67 c68 c79 x_signs x_length x_position x_complete x_orders x_kinds x_numbers x_values) H := hPn
                              have hD : va_D (k_A (wAll cyI cyC cyO ob n0 n1 n2 n3 t0 t1 t2 t3 s0 aR ro r1 r2 r3 x0 x1 x2 x3 x4 n_ones n_twos n_settings n_tick n_energy n_valuesPut t_ones t_twos t_settings t_tick t_energy t_valuesPut s_ring s_oldest s_count x_signs x_length x_position x_complete x_orders x_kinds x_numbers x_values)) (wAll cyI cyC cyO ob n0 n1 n2 n3 t0 t1 t2 t3 s0 aR ro r1 r2 r3 x0 x1 x2 x3 x4 c73 c74 c75 c76 c77 c78 t_ones t_twos t_settings t_tick t_energy t_valuesPut c67 c68 c79 x_signs x_length x_position x_complete x_orders x_kinds x_numbers x_values) := k_Dm hD rfl
                              refine g_if_lt (tgt := 219) hx hb dL_isSealed_209 (by decide) h (fun h => ?_) (fun h => ?_)
                              · refine lv_iconst (v := 0) hx hb dL_isSealed_219 (by decide) ?_
                                obtain ⟨e0, e1, e2, e3, e4, e5, e6, e7, e8, e9⟩ := k_t10 h
                                exact g_retMZ hx hb hr (by decide +kernel) hlk hS e0 (by rw [← e1, ← e2, ← e3, ← e4, ← e5, ← e6, ← e7, ← e8, ← e9]; exact hP) dL_isSealed_220
                              · refine lv_aload_n hx hb dL_isSealed_212 rfl (lv_at hl 0 rfl) ?_
                                obtain ⟨z80, c81, c82, c83, c84, c85, c86, c87, hc213, h⟩ := k_b8_e h
                                refine g_callMI_V (As := []) (rest := []) hC (mX4_undo l dC dI cyI cyC cyO ob n0 n1 n2 n3 t0 t1 t2 t3 s0 aR ro r1 r2 r3 x0 x1 x2 x3 x4 c73 c74 c75 c76 c77 c78 t_ones t_twos t_settings t_tick t_energy t_valuesPut c67 c68 c79 x_signs x_length x_position x_complete x_orders x_kinds x_numbers x_values hc213) q413 q414 q415 q8 q416 0 hdX4_undo ⟨Nat.le_of_ble_eq_true rfl, Nat.le_of_ble_eq_true rfl⟩ ⟨Nat.le_of_ble_eq_true rfl, Nat.le_of_ble_eq_true rfl⟩ rfl rfl hl.1 (Nat.le_of_ble_eq_true rfl) hP hK hD (va_recv hK hP (ci := 3) (q0 := 0) rfl rfl) hS dL_isSealed_213 (fun H locs hPn hk hS => ?_)
                                have hP : va_P (dC, dI) vwCl (wAll cyI cyC cyO ob n0 n1 n2 n3 t0 t1 t2 t3 s0 aR ro r1 r2 r3 x0 x1 x2 x3 x4 c81 c82 c83 c84 c85 c86 t_ones t_twos t_settings t_tick t_energy t_valuesPut c67 c68 c87 x_signs x_length x_position x_complete x_orders x_kinds x_numbers x_values) H := hPn
                                have hD : va_D (k_A (wAll cyI cyC cyO ob n0 n1 n2 n3 t0 t1 t2 t3 s0 aR ro r1 r2 r3 x0 x1 x2 x3 x4 n_ones n_twos n_settings n_tick n_energy n_valuesPut t_ones t_twos t_settings t_tick t_energy t_valuesPut s_ring s_oldest s_count x_signs x_length x_position x_complete x_orders x_kinds x_numbers x_values)) (wAll cyI cyC cyO ob n0 n1 n2 n3 t0 t1 t2 t3 s0 aR ro r1 r2 r3 x0 x1 x2 x3 x4 c81 c82 c83 c84 c85 c86 t_ones t_twos t_settings t_tick t_energy t_valuesPut c67 c68 c87 x_signs x_length x_position x_complete x_orders x_kinds x_numbers x_values) := k_Dm hD rfl
                                refine g_if_ge (tgt := 221) hx hb dL_isSealed_216 (by decide) h (fun h => ?_) (fun h => ?_)
                                · refine g_iinc (dv := 1) hx hb dL_isSealed_221 hl (j := 4) rfl (by decide) (by decide) h (fun z88 ls h hl => ?_)
                                  have hl : lv_has ls 10 [(5, .int z88), (0, .ref ob), (1, .int p1), (2, .int p2), (4, .int z3)] := hl
                                  refine lv_goto (tgt := 53) hx hb dL_isSealed_224 (by decide) ?_
                                  exact ih53 z88 c81 c82 c83 c84 c85 c86 c67 c68 c87 _ _ _ h hP hS (lv_sub hl [1, 2, 3, 4, 0] rfl)
                                · refine lv_iconst (v := 0) hx hb dL_isSealed_219 (by decide) ?_
                                  obtain ⟨e0, e1, e2, e3, e4, e5, e6, e7, e8, e9⟩ := k_t10 h
                                  exact g_retMZ hx hb hr (by decide +kernel) hlk hS e0 (by rw [← e1, ← e2, ← e3, ← e4, ← e5, ← e6, ← e7, ← e8, ← e9]; exact hP) dL_isSealed_220
                          refine g_if_eq (tgt := 201) hx hb dL_isSealed_189 (by decide) h (fun h => ?_) (fun h => ?_)
                          · refine lv_iconst (v := 3) hx hb dL_isSealed_201 (by decide) ?_
                            exact J202 3 _ _ _ h hP hS (lv_sub hl [0, 1, 2, 3, 4] rfl)
                          · refine lv_iload hx hb dL_isSealed_192 (lv_at hl 7 rfl) ?_
                            refine g_if_eq (tgt := 201) hx hb dL_isSealed_194 (by decide) h (fun h => ?_) (fun h => ?_)
                            · refine lv_iconst (v := 3) hx hb dL_isSealed_201 (by decide) ?_
                              exact J202 3 _ _ _ h hP hS (lv_sub hl [0, 1, 2, 3, 4] rfl)
                            · refine lv_iconst (v := 4) hx hb dL_isSealed_197 (by decide) ?_
                              refine lv_goto (tgt := 202) hx hb dL_isSealed_198 (by decide) ?_
                              exact J202 4 _ _ _ h hP hS (lv_sub hl [0, 1, 2, 3, 4] rfl)
                      · refine lv_iconst (v := 0) hx hb dL_isSealed_167 (by decide) ?_
                        obtain ⟨e0, e1, e2, e3, e4, e5, e6, e7, e8, e9⟩ := k_t10 h
                        exact g_retMZ hx hb hr (by decide +kernel) hlk hS e0 (by rw [← e1, ← e2, ← e3, ← e4, ← e5, ← e6, ← e7, ← e8, ← e9]; exact hP) dL_isSealed_168
                  refine g_if_eq (tgt := 150) hx hb dL_isSealed_143 (by decide) h (fun h => ?_) (fun h => ?_)
                  · refine lv_iconst (v := 3) hx hb dL_isSealed_150 (by decide) ?_
                    exact J151 3 _ _ _ h hP hS (lv_sub hl [2, 3, 4, 5, 6, 7, 8, 1, 0] rfl)
                  · refine lv_iconst (v := 4) hx hb dL_isSealed_146 (by decide) ?_
                    refine lv_goto (tgt := 151) hx hb dL_isSealed_147 (by decide) ?_
                    exact J151 4 _ _ _ h hP hS (lv_sub hl [2, 3, 4, 5, 6, 7, 8, 1, 0] rfl)
              refine g_icmp_ne (tgt := 112) hx hb dL_isSealed_105 (by decide) h (fun h => ?_) (fun h => ?_)
              · refine lv_iconst (v := 0) hx hb dL_isSealed_112 (by decide) ?_
                exact J113 0 _ _ _ h hP hS (lv_sub hl [1, 2, 3, 4, 5, 6, 0] rfl)
              · refine lv_iconst (v := 1) hx hb dL_isSealed_108 (by decide) ?_
                refine lv_goto (tgt := 113) hx hb dL_isSealed_109 (by decide) ?_
                exact J113 1 _ _ _ h hP hS (lv_sub hl [1, 2, 3, 4, 5, 6, 0] rfl)
            refine g_icmp_ne (tgt := 94) hx hb dL_isSealed_87 (by decide) h (fun h => ?_) (fun h => ?_)
            · refine lv_iconst (v := 0) hx hb dL_isSealed_94 (by decide) ?_
              exact J95 0 _ _ _ h hP hS (lv_sub hl [1, 2, 3, 4, 5, 0] rfl)
            · refine lv_iconst (v := 1) hx hb dL_isSealed_90 (by decide) ?_
              refine lv_goto (tgt := 95) hx hb dL_isSealed_91 (by decide) ?_
              exact J95 1 _ _ _ h hP hS (lv_sub hl [1, 2, 3, 4, 5, 0] rfl)
      exact L53 5000 0 n_ones n_twos n_settings n_tick n_energy n_valuesPut s_ring s_oldest s_count _ _ _ h hP hS (lv_sub hl [3, 4, 5, 1, 0] rfl)
    · refine lv_iconst (v := 1) hx hb dL_isSealed_40 (by decide) ?_
      obtain ⟨e0, e1, e2, e3, e4, e5, e6, e7, e8, e9⟩ := k_t10 h
      exact g_retMZ hx hb hr (by decide +kernel) hlk hS e0 (by rw [← e1, ← e2, ← e3, ← e4, ← e5, ← e6, ← e7, ← e8, ← e9]; exact hP) dL_isSealed_41
  refine g_icmp_ne (tgt := 34) hx hb dL_isSealed_7 (by decide) h (fun h => ?_) (fun h => ?_)
  · refine lv_iconst (v := 0) hx hb dL_isSealed_34 (by decide) ?_
    exact J35 0 _ _ _ h hP hS (lv_sub hl [0, 1, 2] rfl)
  · refine lv_aload_n hx hb dL_isSealed_10 rfl (lv_at hl 0 rfl) ?_
    refine lv_iload_n hx hb dL_isSealed_11 rfl (lv_at hl 1 rfl) ?_
    refine lv_bipush (v := 6) hx hb dL_isSealed_12 (by decide) ?_
    obtain ⟨z89, hc14, h⟩ := k_b1_e h
    refine g_callRI_V (As := [.int p1, .int 6]) (rest := []) hC (mX4_row l dC dI cyI cyC cyO ob n0 n1 n2 n3 t0 t1 t2 t3 s0 aR ro r1 r2 r3 x0 x1 x2 x3 x4 n_ones n_twos n_settings n_tick n_energy n_valuesPut t_ones t_twos t_settings t_tick t_energy t_valuesPut s_ring s_oldest s_count x_signs x_length x_position x_complete x_orders x_kinds x_numbers x_values p1 6 hc14) q231 q232 q233 q8 q234 2 hdX4_row ⟨Nat.le_of_ble_eq_true rfl, Nat.le_of_ble_eq_true rfl⟩ ⟨Nat.le_of_ble_eq_true rfl, Nat.le_of_ble_eq_true rfl⟩ rfl rfl hl.1 (Nat.le_of_ble_eq_true rfl) hP hK (va_recv hK hP (ci := 3) (q0 := 0) rfl rfl) hS dL_isSealed_14 (fun H locs hk hS => ?_)
    have hP := k_kept hP hk
    refine g_if_ne (tgt := 34) hx hb dL_isSealed_17 (by decide) h (fun h => ?_) (fun h => ?_)
    · refine lv_iconst (v := 0) hx hb dL_isSealed_34 (by decide) ?_
      exact J35 0 _ _ _ h hP hS (lv_sub hl [0, 1, 2] rfl)
    · refine lv_aload_n hx hb dL_isSealed_20 rfl (lv_at hl 0 rfl) ?_
      refine lv_iload_n hx hb dL_isSealed_21 rfl (lv_at hl 1 rfl) ?_
      refine lv_bipush (v := 7) hx hb dL_isSealed_22 (by decide) ?_
      obtain ⟨z90, hc24, h⟩ := k_b1_e h
      refine g_callRI_V (As := [.int p1, .int 7]) (rest := []) hC (mX4_row l dC dI cyI cyC cyO ob n0 n1 n2 n3 t0 t1 t2 t3 s0 aR ro r1 r2 r3 x0 x1 x2 x3 x4 n_ones n_twos n_settings n_tick n_energy n_valuesPut t_ones t_twos t_settings t_tick t_energy t_valuesPut s_ring s_oldest s_count x_signs x_length x_position x_complete x_orders x_kinds x_numbers x_values p1 7 hc24) q231 q232 q233 q8 q234 2 hdX4_row ⟨Nat.le_of_ble_eq_true rfl, Nat.le_of_ble_eq_true rfl⟩ ⟨Nat.le_of_ble_eq_true rfl, Nat.le_of_ble_eq_true rfl⟩ rfl rfl hl.1 (Nat.le_of_ble_eq_true rfl) hP hK (va_recv hK hP (ci := 3) (q0 := 0) rfl rfl) hS dL_isSealed_24 (fun H locs hk hS => ?_)
      have hP := k_kept hP hk
      refine g_if_ne (tgt := 34) hx hb dL_isSealed_27 (by decide) h (fun h => ?_) (fun h => ?_)
      · refine lv_iconst (v := 0) hx hb dL_isSealed_34 (by decide) ?_
        exact J35 0 _ _ _ h hP hS (lv_sub hl [0, 1, 2] rfl)
      · refine lv_iconst (v := 1) hx hb dL_isSealed_30 (by decide) ?_
        refine lv_goto (tgt := 35) hx hb dL_isSealed_31 (by decide) ?_
        exact J35 1 _ _ _ h hP hS (lv_sub hl [0, 1, 2] rfl)
