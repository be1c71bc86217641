def fL_addUp_s99 (K324 : Int32 → Int32 → Option (Int32)) (n_ones : Nat → Int32) (n_twos : Nat → Int32) (n_settings : Nat → Int32) (n_tick : Int32) (rec99 : Int32 → Int32 → Int32 → Option (Int32)) (z17 : Int32) (z18 : Int32) (z19 : Int32) : Option (Int32) :=
  k_if (16 ≤ z19)
  (
    K324 z17 z18)
  (
    k_b1 (fX4_key n_ones n_twos n_settings n_tick z19 1) fun (z20 : Int32) =>
    k_b1 (fX4_key n_ones n_twos n_settings n_tick z19 2) fun (z21 : Int32) =>
    k_let (z17 + z21) fun (z22 : Int32) =>
    k_b1 (fX4_key n_ones n_twos n_settings n_tick z19 0) fun (z23 : Int32) =>
    k_j1
    (fun (z24 : Int32) =>
      k_let (z18 + z24) fun (z25 : Int32) =>
      k_j1
      (fun (z26 : Int32) =>
        k_b1 (fX4_key n_ones n_twos n_settings n_tick z19 2) fun (z27 : Int32) =>
        k_j1
        (fun (z28 : Int32) =>
          k_j1
          (fun (z29 : Int32) =>
            k_if (z29 = 0)
            (
              some 0)
            (
              k_b1 (fX4_history n_ones n_twos n_settings n_tick z19 0) fun (z30 : Int32) =>
              k_j1
              (fun (z31 : Int32) =>
                k_b1 (fX4_key n_ones n_twos n_settings n_tick z19 3) fun (z32 : Int32) =>
                k_j1
                (fun (z33 : Int32) =>
                  k_if (z31 = z33)
                  (
                    k_b1 (fX4_key n_ones n_twos n_settings n_tick z19 3) fun (z34 : Int32) =>
                    k_b1 (fX4_history n_ones n_twos n_settings n_tick z19 z34) fun (z35 : Int32) =>
                    k_if (z35 = ((-1)))
                    (
                      k_b1 (fX4_key n_ones n_twos n_settings n_tick z19 0) fun (z36 : Int32) =>
                      k_b1 (fX4_key n_ones n_twos n_settings n_tick z19 4) fun (z37 : Int32) =>
                      k_if (z36 ≤ z37)
                      (
                        k_let (z19 + 1) fun (z38 : Int32) =>
                        rec99 z22 z25 z38)
                      (
                        some 0))
                    (
                      some 0))
                  (
                    some 0))
                (fun K279 =>
                k_if (z32 ≤ 0)
                (
                  K279 0)
                (
                  K279 1)))
              (fun K264 =>
              k_if (z30 < 0)
              (
                K264 0)
              (
                K264 1))))
          (fun K242 =>
          k_if (z26 = z28)
          (
            k_j0
            (
              k_b1 (fX4_key n_ones n_twos n_settings n_tick z19 3) fun (z39 : Int32) =>
              k_b1 (fX4_key n_ones n_twos n_settings n_tick z19 2) fun (z40 : Int32) =>
              k_if (z39 < z40)
              (
                K242 0)
              (
                K242 1))
            (fun K220 =>
            k_if (z20 < 0)
            (
              K220)
            (
              k_b1 (fX4_row n_ones n_twos n_settings n_tick z20 1) fun (z41 : Int32) =>
              k_if (z41 = 4)
              (
                k_b1 (fX4_row n_ones n_twos n_settings n_tick z20 2) fun (z42 : Int32) =>
                k_if (z42 = z19)
                (
                  k_b1 (fX4_row n_ones n_twos n_settings n_tick z20 3) fun (z43 : Int32) =>
                  k_b1 (fX4_key n_ones n_twos n_settings n_tick z19 0) fun (z44 : Int32) =>
                  k_if (z43 = z44)
                  (
                    K220)
                  (
                    K242 0))
                (
                  K242 0))
              (
                K242 0))))
          (
            K242 0)))
        (fun K172 =>
        k_if (z27 ≤ 0)
        (
          K172 0)
        (
          K172 1)))
      (fun K157 =>
      k_if (z20 < 0)
      (
        K157 0)
      (
        K157 1)))
    (fun K144 =>
    k_if (z23 < 0)
    (
      K144 0)
    (
      K144 1)))
def fL_addUp_s36 (K90 : Int32 → Int32 → Int32 → Option (Int32)) (n_ones : Nat → Int32) (n_twos : Nat → Int32) (n_settings : Nat → Int32) (n_tick : Int32) (rec36 : Int32 → Int32 → Int32 → Int32 → Option (Int32)) (z45 : Int32) (z46 : Int32) (z47 : Int32) (z48 : Int32) : Option (Int32) :=
  k_if (20 ≤ z48)
  (
    K90 z45 z46 z47)
  (
    k_b1 (fX4_row n_ones n_twos n_settings n_tick z48 7) fun (z49 : Int32) =>
    k_let (z45 + z49) fun (z50 : Int32) =>
    k_b1 (fX4_row n_ones n_twos n_settings n_tick z48 6) fun (z51 : Int32) =>
    k_let (z46 + z51) fun (z52 : Int32) =>
    k_b1 (fX4_row n_ones n_twos n_settings n_tick z48 1) fun (z53 : Int32) =>
    k_j1
    (fun (z54 : Int32) =>
      k_let (z48 + 1) fun (z55 : Int32) =>
      rec36 z50 z52 z54 z55)
    (fun K82 =>
    k_if (z53 ≤ 0)
    (
      K82 z47)
    (
      K82 z48)))
def fL_addUp_s12 (K33 : Int32 → Option (Int32)) (n_ones : Nat → Int32) (n_twos : Nat → Int32) (n_settings : Nat → Int32) (n_tick : Int32) (n_energy : Int32) (n_valuesPut : Int32) (s_count : Int32) (rec12 : Int32 → Int32 → Option (Int32)) (z56 : Int32) (z57 : Int32) : Option (Int32) :=
  k_if (5 < z57)
  (
    K33 z56)
  (
    k_b1 (fX4_count n_ones n_twos n_settings n_tick n_energy n_valuesPut s_count z57) fun (z58 : Int32) =>
    k_let (z56 + z58) fun (z59 : Int32) =>
    k_let (z57 + 1) fun (z60 : Int32) =>
    rec12 z59 z60)
def fL_addUp (n_ones : Nat → Int32) (n_twos : Nat → Int32) (n_settings : Nat → Int32) (n_tick : Int32) (n_energy : Int32) (n_valuesPut : Int32) (s_count : Int32) : Option (Int32) :=
  k_j1
  (fun (z1 : Int32) =>
    k_j3
    (fun (z2 : Int32) (z3 : Int32) (z4 : Int32) =>
      k_j2
      (fun (z5 : Int32) (z6 : Int32) =>
        k_j1
        (fun (z7 : Int32) =>
          k_if (z1 = 20)
          (
            k_b1 (fX4_count n_ones n_twos n_settings n_tick n_energy n_valuesPut s_count 6) fun (z8 : Int32) =>
            k_if (z8 = z2)
            (
              k_b1 (fX4_count n_ones n_twos n_settings n_tick n_energy n_valuesPut s_count 7) fun (z9 : Int32) =>
              k_if (z9 = z3)
              (
                k_b1 (fX4_count n_ones n_twos n_settings n_tick n_energy n_valuesPut s_count 5) fun (z10 : Int32) =>
                k_if (z10 = z5)
                (
                  k_b1 (fX4_count n_ones n_twos n_settings n_tick n_energy n_valuesPut s_count 9) fun (z11 : Int32) =>
                  k_if (z11 = z6)
                  (
                    k_b1 (fX4_count n_ones n_twos n_settings n_tick n_energy n_valuesPut s_count 10) fun (z12 : Int32) =>
                    k_j1
                    (fun (z13 : Int32) =>
                      k_if (z12 = z13)
                      (
                        some 1)
                      (
                        some 0))
                    (fun K418 =>
                    k_if (z7 = 0)
                    (
                      k_let (z4 + 1) fun (z14 : Int32) =>
                      K418 z14)
                    (
                      K418 ((-1)))))
                  (
                    some 0))
                (
                  some 0))
              (
                some 0))
            (
              some 0))
          (
            some 0))
        (fun K350 =>
        k_if (z4 = 19)
        (
          K350 1)
        (
          k_let (z4 + 1) fun (z15 : Int32) =>
          k_b1 (fX4_row n_ones n_twos n_settings n_tick z15 7) fun (z16 : Int32) =>
          k_if (z16 = 1)
          (
            K350 1)
          (
            K350 0))))
      (fun K324 =>
      k_l3 (fL_addUp_s99 K324 n_ones n_twos n_settings n_tick) 5000 0 0 0))
    (fun K90 =>
    k_l4 (fL_addUp_s36 K90 n_ones n_twos n_settings n_tick) 5000 0 0 ((-1)) 0))
  (fun K33 =>
  k_l2 (fL_addUp_s12 K33 n_ones n_twos n_settings n_tick n_energy n_valuesPut s_count) 5000 0 1)
theorem hdL_addUp : yL_addUp.cls ≠ "java/lang/invoke/MethodHandle" ∧ yL_addUp.cls ≠ "java/lang/invoke/VarHandle" ∧ (parseMethodDescriptor yL_addUp.desc).map (fun d => d.parameters.length) = some 1 := by decide +kernel
set_option maxRecDepth 100000 in
set_option maxHeartbeats 4000000 in
theorem mL_addUp (l : Launch) (dC : Nat → ClassId) (dI : Nat → Nat → Nat) (cyI cyC cyO : ClassId) (ob : Nat) (n0 : Nat) (n1 : Nat) (n2 : Nat) (n3 : Nat) (t0 : Nat) (t1 : Nat) (t2 : Nat) (t3 : Nat) (s0 : Nat) (aR : Nat) (ro : Nat → Nat) (r1 : Nat → Nat) (r2 : Nat → Nat) (r3 : Nat → Nat) (x0 : Nat) (x1 : Nat) (x2 : Nat) (x3 : Nat) (x4 : Nat) (n_ones : Nat → Int32) (n_twos : Nat → Int32) (n_settings : Nat → Int32) (n_tick : Int32) (n_energy : Int32) (n_valuesPut : Int32) (t_ones : Nat → Int32) (t_twos : Nat → Int32) (t_settings : Nat → Int32) (t_tick : Int32) (t_energy : Int32) (t_valuesPut : Int32) (s_ring : Nat → SV) (s_oldest : Int32) (s_count : Int32) (x_signs : Nat → Int32) (x_length : Int32) (x_position : Int32) (x_complete : Int32) (x_orders : Int32) (x_kinds : Nat → Int32) (x_numbers : Nat → Int32) (x_values : Nat → Int32)  {r : Int32} (hf : fL_addUp n_ones n_twos n_settings n_tick n_energy n_valuesPut s_count = some r) : MetRI l yL_addUp cL_addUp 10 (some .boolean) 7 158 [.ref ob] (dC, dI) (tyS cyI cyC cyO) (wAll cyI cyC cyO ob n0 n1 n2 n3 t0 t1 t2 t3 s0 aR ro r1 r2 r3 x0 x1 x2 x3 x4 n_ones n_twos n_settings n_tick n_energy n_valuesPut t_ones t_twos t_settings t_tick t_energy t_valuesPut s_ring s_oldest s_count x_signs x_length x_position x_complete x_orders x_kinds x_numbers x_values) r := by
  refine metRI_of (by decide) (Nat.le_of_ble_eq_true rfl) ?_
  intro p e s m below meth c ls hC hr hlk hP hK hl
  have hC : CallFix p m c cL_addUp 10 s [.ref ob].toArray wA RL := hC
  obtain ⟨hx, hb, hml, hown, hts⟩ := id hC
  have hS : va_S kF s.heap s.heap [] := va_S.rf
  have hl : lv_has ls 10 [(0, .ref ob)] := hl
  have h := hf
  unfold fL_addUp at h
  obtain ⟨H, hH⟩ : ∃ H, H = s.heap := ⟨_, rfl⟩
  obtain ⟨locs, hlo⟩ : ∃ locs : List Loc, locs = [] := ⟨_, rfl⟩
  rw [← hH] at hP
  rw [← hlo] at hS
  have hS : va_S kF s.heap H locs := by rw [hH]; exact hS
  show W p l e (k_rm 7 158) s m [.ref ob].toArray below meth c s.heap [] 0 0 _ _
  rw [← hlo, ← hH]
  refine lv_iconst (v := 0) hx hb dL_addUp_0 (by decide) ?_
  refine lv_istore_n (lv' := [(1, .int 0), (0, .ref ob)]) hx hb dL_addUp_1 rfl hl (by decide) rfl (fun ls hl => ?_)
  refine lv_iconst (v := 0) hx hb dL_addUp_2 (by decide) ?_
  refine lv_istore_n (lv' := [(2, .int 0), (1, .int 0), (0, .ref ob)]) hx hb dL_addUp_3 rfl hl (by decide) rfl (fun ls hl => ?_)
  refine lv_iconst (v := 0) hx hb dL_addUp_4 (by decide) ?_
  refine lv_istore_n (lv' := [(3, .int 0), (2, .int 0), (1, .int 0), (0, .ref ob)]) hx hb dL_addUp_5 rfl hl (by decide) rfl (fun ls hl => ?_)
  refine lv_iconst (v := (-1)) hx hb dL_addUp_6 (by decide) ?_
  refine lv_istore (lv' := [(4, .int ((-1))), (3, .int 0), (2, .int 0), (1, .int 0), (0, .ref ob)]) hx hb dL_addUp_7 hl (by decide) rfl (fun ls hl => ?_)
  refine lv_iconst (v := 1) hx hb dL_addUp_9 (by decide) ?_
  refine lv_istore (lv' := [(5, .int 1), (4, .int ((-1))), (3, .int 0), (2, .int 0), (1, .int 0), (0, .ref ob)]) hx hb dL_addUp_10 hl (by decide) rfl (fun ls hl => ?_)
  obtain ⟨K33, hK33, h⟩ := k_j1_e h
  have J33 : ∀ (z1 : Int32) (H : Heap) (locs : List Loc) (ls : Array Slot), K33 z1 = some r → va_P (dC, dI) vwCl (wAll cyI cyC cyO ob n0 n1 n2 n3 t0 t1 t2 t3 s0 aR ro r1 r2 r3 x0 x1 x2 x3 x4 n_ones n_twos n_settings n_tick n_energy n_valuesPut t_ones t_twos t_settings t_tick t_energy t_valuesPut s_ring s_oldest s_count x_signs x_length x_position x_complete x_orders x_kinds x_numbers x_values) H → va_S kF s.heap H locs → lv_has ls 10 [(0, .ref ob), (1, .int z1), (2, .int 0), (3, .int 0), (4, .int ((-1)))] → W p l e (k_rm 7 158) s m [.ref ob].toArray below meth c H locs 0 0 (MQ below (qRI r) [.ref ob].toArray s 0 0 kF) (F0 m 33 ls []) := by
    intro z1 H locs ls h hP hS hl
    have h := k_a1 hK33 h
    refine lv_iconst (v := 0) hx hb dL_addUp_33 (by decide) ?_
    refine lv_istore (lv' := [(5, .int 0), (0, .ref ob), (1, .int z1), (2, .int 0), (3, .int 0), (4, .int ((-1)))]) hx hb dL_addUp_34 hl (by decide) rfl (fun ls hl => ?_)
    obtain ⟨K90, hK90, h⟩ := k_j3_e h
    have J90 : ∀ (z2 : Int32) (z3 : Int32) (z4 : Int32) (H : Heap) (locs : List Loc) (ls : Array Slot), K90 z2 z3 z4 = some r → va_P (dC, dI) vwCl (wAll cyI cyC cyO ob n0 n1 n2 n3 t0 t1 t2 t3 s0 aR ro r1 r2 r3 x0 x1 x2 x3 x4 n_ones n_twos n_settings n_tick n_energy n_valuesPut t_ones t_twos t_settings t_tick t_energy t_valuesPut s_ring s_oldest s_count x_signs x_length x_position x_complete x_orders x_kinds x_numbers x_values) H → va_S kF s.heap H locs → lv_has ls 10 [(0, .ref ob), (1, .int z1), (2, .int z2), (3, .int z3), (4, .int z4)] → W p l e (k_rm 7 158) s m [.ref ob].toArray below meth c H locs 0 0 (MQ below (qRI r) [.ref ob].toArray s 0 0 kF) (F0 m 90 ls []) := by
      intro z2 z3 z4 H locs ls h hP hS hl
      have h := k_a3 hK90 h
      refine lv_iconst (v := 0) hx hb dL_addUp_90 (by decide) ?_
      refine lv_istore (lv' := [(5, .int 0), (0, .ref ob), (1, .int z1), (2, .int z2), (3, .int z3), (4, .int z4)]) hx hb dL_addUp_91 hl (by decide) rfl (fun ls hl => ?_)
      refine lv_iconst (v := 0) hx hb dL_addUp_93 (by decide) ?_
      refine lv_istore (lv' := [(6, .int 0), (5, .int 0), (0, .ref ob), (1, .int z1), (2, .int z2), (3, .int z3), (4, .int z4)]) hx hb dL_addUp_94 hl (by decide) rfl (fun ls hl => ?_)
      refine lv_iconst (v := 0) hx hb dL_addUp_96 (by decide) ?_
      refine lv_istore (lv' := [(7, .int 0), (6, .int 0), (5, .int 0), (0, .ref ob), (1, .int z1), (2, .int z2), (3, .int z3), (4, .int z4)]) hx hb dL_addUp_97 hl (by decide) rfl (fun ls hl => ?_)
      obtain ⟨K324, hK324, h⟩ := k_j2_e h
      have J324 : ∀ (z5 : Int32) (z6 : Int32) (H : Heap) (locs : List Loc) (ls : Array Slot), K324 z5 z6 = some r → va_P (dC, dI) vwCl (wAll cyI cyC cyO ob n0 n1 n2 n3 t0 t1 t2 t3 s0 aR ro r1 r2 r3 x0 x1 x2 x3 x4 n_ones n_twos n_settings n_tick n_energy n_valuesPut t_ones t_twos t_settings t_tick t_energy t_valuesPut s_ring s_oldest s_count x_signs x_length x_position x_complete x_orders x_kinds x_numbers x_values) H → va_S kF s.heap H locs → lv_has ls 10 [(0, .ref ob), (1, .int z1), (2, .int z2), (3, .int z3), (4, .int z4), (5, .int z5), (6, .int z6)] → W p l e (k_rm 7 158) s m [.ref ob].toArray below meth c H locs 0 0 (MQ below (qRI r) [.ref ob].toArray s 0 0 kF) (F0 m 324 ls []) := by
        intro z5 z6 H locs ls h hP hS hl
        have h := k_a2 hK324 h
        refine lv_iload hx hb dL_addUp_324 (lv_at hl 4 rfl) ?_
        refine lv_bipush (v := 19) hx hb dL_addUp_326 (by decide) ?_
        obtain ⟨K350, hK350, h⟩ := k_j1_e h
        have J350 : ∀ (z7 : Int32) (H : Heap) (locs : List Loc) (ls : Array Slot), K350 z7 = some r → va_P (dC, dI) vwCl (wAll cyI cyC cyO ob n0 n1 n2 n3 t0 t1 t2 t3 s0 aR ro r1 r2 r3 x0 x1 x2 x3 x4 n_ones n_twos n_settings n_tick n_energy n_valuesPut t_ones t_twos t_settings t_tick t_energy t_valuesPut s_ring s_oldest s_count x_signs x_length x_position x_complete x_orders x_kinds x_numbers x_values) H → va_S kF s.heap H locs → lv_has ls 10 [(0, .ref ob), (1, .int z1), (2, .int z2), (3, .int z3), (4, .int z4), (5, .int z5), (6, .int z6)] → W p l e (k_rm 7 158) s m [.ref ob].toArray below meth c H locs 0 0 (MQ below (qRI r) [.ref ob].toArray s 0 0 kF) (F0 m 350 ls [.int z7]) := by
          intro z7 H locs ls h hP hS hl
          have h := k_a1 hK350 h
          refine lv_istore (lv' := [(7, .int z7), (0, .ref ob), (1, .int z1), (2, .int z2), (3, .int z3), (4, .int z4), (5, .int z5), (6, .int z6)]) hx hb dL_addUp_350 hl (by decide) rfl (fun ls hl => ?_)
          refine lv_iload_n hx hb dL_addUp_352 rfl (lv_at hl 2 rfl) ?_
          refine lv_bipush (v := 20) hx hb dL_addUp_353 (by decide) ?_
          refine g_icmp_ne (tgt := 425) hx hb dL_addUp_355 (by decide) h (fun h => ?_) (fun h => ?_)
          · refine lv_iconst (v := 0) hx hb dL_addUp_425 (by decide) ?_
            exact g_retRZ hx hb hr (by decide +kernel) hlk hS h dL_addUp_426
          · refine lv_aload_n hx hb dL_addUp_358 rfl (lv_at hl 1 rfl) ?_
            refine lv_bipush (v := 6) hx hb dL_addUp_359 (by decide) ?_
            obtain ⟨z8, hc361, h⟩ := k_b1_e h
            refine g_callRI_V (As := [.int 6]) (rest := []) hC (mX4_count l dC dI cyI cyC cyO ob n0 n1 n2 n3 t0 t1 t2 t3 s0 aR ro r1 r2 r3 x0 x1 x2 x3 x4 n_ones n_twos n_settings n_tick n_energy n_valuesPut t_ones t_twos t_settings t_tick t_energy t_valuesPut s_ring s_oldest s_count x_signs x_length x_position x_complete x_orders x_kinds x_numbers x_values 6 hc361) q299 q300 q301 q8 q302 1 hdX4_count ⟨Nat.le_of_ble_eq_true rfl, Nat.le_of_ble_eq_true rfl⟩ ⟨Nat.le_of_ble_eq_true rfl, Nat.le_of_ble_eq_true rfl⟩ rfl rfl hl.1 (Nat.le_of_ble_eq_true rfl) hP hK (va_recv hK hP (ci := 3) (q0 := 0) rfl rfl) hS dL_addUp_361 (fun H locs hk hS => ?_)
            have hP := k_kept hP hk
            refine lv_iload_n hx hb dL_addUp_364 rfl (lv_at hl 3 rfl) ?_
            refine g_icmp_ne (tgt := 425) hx hb dL_addUp_365 (by decide) h (fun h => ?_) (fun h => ?_)
            · refine lv_iconst (v := 0) hx hb dL_addUp_425 (by decide) ?_
              exact g_retRZ hx hb hr (by decide +kernel) hlk hS h dL_addUp_426
            · refine lv_aload_n hx hb dL_addUp_368 rfl (lv_at hl 1 rfl) ?_
              refine lv_bipush (v := 7) hx hb dL_addUp_369 (by decide) ?_
              obtain ⟨z9, hc371, h⟩ := k_b1_e h
              refine g_callRI_V (As := [.int 7]) (rest := []) hC (mX4_count l dC dI cyI cyC cyO ob n0 n1 n2 n3 t0 t1 t2 t3 s0 aR ro r1 r2 r3 x0 x1 x2 x3 x4 n_ones n_twos n_settings n_tick n_energy n_valuesPut t_ones t_twos t_settings t_tick t_energy t_valuesPut s_ring s_oldest s_count x_signs x_length x_position x_complete x_orders x_kinds x_numbers x_values 7 hc371) q299 q300 q301 q8 q302 1 hdX4_count ⟨Nat.le_of_ble_eq_true rfl, Nat.le_of_ble_eq_true rfl⟩ ⟨Nat.le_of_ble_eq_true rfl, Nat.le_of_ble_eq_true rfl⟩ rfl rfl hl.1 (Nat.le_of_ble_eq_true rfl) hP hK (va_recv hK hP (ci := 3) (q0 := 0) rfl rfl) hS dL_addUp_371 (fun H locs hk hS => ?_)
              have hP := k_kept hP hk
              refine lv_iload_n hx hb dL_addUp_374 rfl (lv_at hl 4 rfl) ?_
              refine g_icmp_ne (tgt := 425) hx hb dL_addUp_375 (by decide) h (fun h => ?_) (fun h => ?_)
              · refine lv_iconst (v := 0) hx hb dL_addUp_425 (by decide) ?_
                exact g_retRZ hx hb hr (by decide +kernel) hlk hS h dL_addUp_426
              · refine lv_aload_n hx hb dL_addUp_378 rfl (lv_at hl 1 rfl) ?_
                refine lv_iconst (v := 5) hx hb dL_addUp_379 (by decide) ?_
                obtain ⟨z10, hc380, h⟩ := k_b1_e h
                refine g_callRI_V (As := [.int 5]) (rest := []) hC (mX4_count l dC dI cyI cyC cyO ob n0 n1 n2 n3 t0 t1 t2 t3 s0 aR ro r1 r2 r3 x0 x1 x2 x3 x4 n_ones n_twos n_settings n_tick n_energy n_valuesPut t_ones t_twos t_settings t_tick t_energy t_valuesPut s_ring s_oldest s_count x_signs x_length x_position x_complete x_orders x_kinds x_numbers x_values 5 hc380) q299 q300 q301 q8 q302 1 hdX4_count ⟨Nat.le_of_ble_eq_true rfl, Nat.le_of_ble_eq_true rfl⟩ ⟨Nat.le_of_ble_eq_true rfl, Nat.le_of_ble_eq_true rfl⟩ rfl rfl hl.1 (Nat.le_of_ble_eq_true rfl) hP hK (va_recv hK hP (ci := 3) (q0 := 0) rfl rfl) hS dL_addUp_380 (fun H locs hk hS => ?_)
                have hP := k_kept hP hk
                refine lv_iload hx hb dL_addUp_383 (lv_at hl 6 rfl) ?_
                refine g_icmp_ne (tgt := 425) hx hb dL_addUp_385 (by decide) h (fun h => ?_) (fun h => ?_)
                · refine lv_iconst (v := 0) hx hb dL_addUp_425 (by decide) ?_
                  exact g_retRZ hx hb hr (by decide +kernel) hlk hS h dL_addUp_426
                · refine lv_aload_n hx hb dL_addUp_388 rfl (lv_at hl 1 rfl) ?_
                  refine lv_bipush (v := 9) hx hb dL_addUp_389 (by decide) ?_
                  obtain ⟨z11, hc391, h⟩ := k_b1_e h
                  refine g_callRI_V (As := [.int 9]) (rest := []) hC (mX4_count l dC dI cyI cyC cyO ob n0 n1 n2 n3 t0 t1 t2 t3 s0 aR ro r1 r2 r3 x0 x1 x2 x3 x4 n_ones n_twos n_settings n_tick n_energy n_valuesPut t_ones t_twos t_settings t_tick t_energy t_valuesPut s_ring s_oldest s_count x_signs x_length x_position x_complete x_orders x_kinds x_numbers x_values 9 hc391) q299 q300 q301 q8 q302 1 hdX4_count ⟨Nat.le_of_ble_eq_true rfl, Nat.le_of_ble_eq_true rfl⟩ ⟨Nat.le_of_ble_eq_true rfl, Nat.le_of_ble_eq_true rfl⟩ rfl rfl hl.1 (Nat.le_of_ble_eq_true rfl) hP hK (va_recv hK hP (ci := 3) (q0 := 0) rfl rfl) hS dL_addUp_391 (fun H locs hk hS => ?_)
                  have hP := k_kept hP hk
                  refine lv_iload hx hb dL_addUp_394 (lv_at hl 7 rfl) ?_
                  refine g_icmp_ne (tgt := 425) hx hb dL_addUp_396 (by decide) h (fun h => ?_) (fun h => ?_)
                  · refine lv_iconst (v := 0) hx hb dL_addUp_425 (by decide) ?_
                    exact g_retRZ hx hb hr (by decide +kernel) hlk hS h dL_addUp_426
                  · refine lv_aload_n hx hb dL_addUp_399 rfl (lv_at hl 1 rfl) ?_
                    refine lv_bipush (v := 10) hx hb dL_addUp_400 (by decide) ?_
                    obtain ⟨z12, hc402, h⟩ := k_b1_e h
                    refine g_callRI_V (As := [.int 10]) (rest := []) hC (mX4_count l dC dI cyI cyC cyO ob n0 n1 n2 n3 t0 t1 t2 t3 s0 aR ro r1 r2 r3 x0 x1 x2 x3 x4 n_ones n_twos n_settings n_tick n_energy n_valuesPut t_ones t_twos t_settings t_tick t_energy t_valuesPut s_ring s_oldest s_count x_signs x_length x_position x_complete x_orders x_kinds x_numbers x_values 10 hc402) q299 q300 q301 q8 q302 1 hdX4_count ⟨Nat.le_of_ble_eq_true rfl, Nat.le_of_ble_eq_true rfl⟩ ⟨Nat.le_of_ble_eq_true rfl, Nat.le_of_ble_eq_true rfl⟩ rfl rfl hl.1 (Nat.le_of_ble_eq_true rfl) hP hK (va_recv hK hP (ci := 3) (q0 := 0) rfl rfl) hS dL_addUp_402 (fun H locs hk hS => ?_)
                    have hP := k_kept hP hk
                    refine lv_iload hx hb dL_addUp_405 (lv_at hl 0 rfl) ?_
                    obtain ⟨K418, hK418, h⟩ := k_j1_e h
                    have J418 : ∀ (z13 : Int32) (H : Heap) (locs : List Loc) (ls : Array Slot), K418 z13 = some r → va_P (dC, dI) vwCl (wAll cyI cyC cyO ob n0 n1 n2 n3 t0 t1 t2 t3 s0 aR ro r1 r2 r3 x0 x1 x2 x3 x4 n_ones n_twos n_settings n_tick n_energy n_valuesPut t_ones t_twos t_settings t_tick t_energy t_valuesPut s_ring s_oldest s_count x_signs x_length x_position x_complete x_orders x_kinds x_numbers x_values) H → va_S kF s.heap H locs → lv_has ls 10 [] → W p l e (k_rm 7 158) s m [.ref ob].toArray below meth c H locs 0 0 (MQ below (qRI r) [.ref ob].toArray s 0 0 kF) (F0 m 418 ls [.int z13, .int z12]) := by
                      intro z13 H locs ls h hP hS hl
                      have h := k_a1 hK418 h
                      refine g_icmp_ne (tgt := 425) hx hb dL_addUp_418 (by decide) h (fun h => ?_) (fun h => ?_)
                      · refine lv_iconst (v := 0) hx hb dL_addUp_425 (by decide) ?_
                        exact g_retRZ hx hb hr (by decide +kernel) hlk hS h dL_addUp_426
                      · refine lv_iconst (v := 1) hx hb dL_addUp_421 (by decide) ?_
                        refine lv_goto (tgt := 426) hx hb dL_addUp_422 (by decide) ?_
                        exact g_retRZ hx hb hr (by decide +kernel) hlk hS h dL_addUp_426
                    refine g_if_eq (tgt := 414) hx hb dL_addUp_407 (by decide) h (fun h => ?_) (fun h => ?_)
                    · refine lv_iload hx hb dL_addUp_414 (lv_at hl 5 rfl) ?_
                      refine lv_iconst (v := 1) hx hb dL_addUp_416 (by decide) ?_
                      refine g_iadd hx hb dL_addUp_417 h (fun z14 h => ?_)
                      exact J418 z14 _ _ _ h hP hS (lv_sub hl [] rfl)
                    · refine lv_iconst (v := (-1)) hx hb dL_addUp_410 (by decide) ?_
                      refine lv_goto (tgt := 418) hx hb dL_addUp_411 (by decide) ?_
                      exact J418 ((-1)) _ _ _ h hP hS (lv_sub hl [] rfl)
        refine g_icmp_eq (tgt := 345) hx hb dL_addUp_328 (by decide) h (fun h => ?_) (fun h => ?_)
        · refine lv_iconst (v := 1) hx hb dL_addUp_345 (by decide) ?_
          refine lv_goto (tgt := 350) hx hb dL_addUp_346 (by decide) ?_
          exact J350 1 _ _ _ h hP hS (lv_sub hl [0, 1, 2, 3, 4, 5, 6] rfl)
        · refine lv_aload_n hx hb dL_addUp_331 rfl (lv_at hl 0 rfl) ?_
          refine lv_iload hx hb dL_addUp_332 (lv_at hl 4 rfl) ?_
          refine lv_iconst (v := 1) hx hb dL_addUp_334 (by decide) ?_
          refine g_iadd hx hb dL_addUp_335 h (fun z15 h => ?_)
          refine lv_bipush (v := 7) hx hb dL_addUp_336 (by decide) ?_
          obtain ⟨z16, hc338, h⟩ := k_b1_e h
          refine g_callRI_V (As := [.int z15, .int 7]) (rest := []) hC (mX4_row l dC dI cyI cyC cyO ob n0 n1 n2 n3 t0 t1 t2 t3 s0 aR ro r1 r2 r3 x0 x1 x2 x3 x4 n_ones n_twos n_settings n_tick n_energy n_valuesPut t_ones t_twos t_settings t_tick t_energy t_valuesPut s_ring s_oldest s_count x_signs x_length x_position x_complete x_orders x_kinds x_numbers x_values z15 7 hc338) q231 q232 q233 q8 q234 2 hdX4_row ⟨Nat.le_of_ble_eq_true rfl, Nat.le_of_ble_eq_true rfl⟩ ⟨Nat.le_of_ble_eq_true rfl, Nat.le_of_ble_eq_true rfl⟩ rfl rfl hl.1 (Nat.le_of_ble_eq_true rfl) hP hK (va_recv hK hP (ci := 3) (q0 := 0) rfl rfl) hS dL_addUp_338 (fun H locs hk hS => ?_)
          have hP := k_kept hP hk
          refine lv_iconst (v := 1) hx hb dL_addUp_341 (by decide) ?_
          refine g_icmp_ne (tgt := 349) hx hb dL_addUp_342 (by decide) h (fun h => ?_) (fun h => ?_)
          · refine lv_iconst (v := 0) hx hb dL_addUp_349 (by decide) ?_
            exact J350 0 _ _ _ h hP hS (lv_sub hl [0, 1, 2, 3, 4, 5, 6] rfl)
          · refine lv_iconst (v := 1) hx hb dL_addUp_345 (by decide) ?_
            refine lv_goto (tgt := 350) hx hb dL_addUp_346 (by decide) ?_
            exact J350 1 _ _ _ h hP hS (lv_sub hl [0, 1, 2, 3, 4, 5, 6] rfl)
      obtain ⟨S99, hS99⟩ : ∃ z, z = (fL_addUp_s99 K324 n_ones n_twos n_settings n_tick) := ⟨_, rfl⟩
      rw [← hS99] at h
      have L99 : ∀ (n : Nat) (z17 : Int32) (z18 : Int32) (z19 : Int32) (H : Heap) (locs : List Loc) (ls : Array Slot), k_l3 S99 n z17 z18 z19 = some r → va_P (dC, dI) vwCl (wAll cyI cyC cyO ob n0 n1 n2 n3 t0 t1 t2 t3 s0 aR ro r1 r2 r3 x0 x1 x2 x3 x4 n_ones n_twos n_settings n_tick n_energy n_valuesPut t_ones t_twos t_settings t_tick t_energy t_valuesPut s_ring s_oldest s_count x_signs x_length x_position x_complete x_orders x_kinds x_numbers x_values) H → va_S kF s.heap H locs → lv_has ls 10 [(0, .ref ob), (1, .int z1), (2, .int z2), (3, .int z3), (4, .int z4), (5, .int z17), (6, .int z18), (7, .int z19)] → W p l e (k_rm 7 158) s m [.ref ob].toArray below meth c H locs 0 0 (MQ below (qRI r) [.ref ob].toArray s 0 0 kF) (F0 m 99 ls []) := by
        intro n
        induction n with
        | zero =>
          intro z17 z18 z19 H locs ls h
          exact (k_l3_0 h).elim
        | succ n ih99 =>
          intro z17 z18 z19 H locs ls h hP hS hl
          have h := k_l3_s h
          have h := k_a4 hS99 h
          unfold fL_addUp_s99 at h
          refine lv_iload hx hb dL_addUp_99 (lv_at hl 7 rfl) ?_
          refine lv_bipush (v := 16) hx hb dL_addUp_101 (by decide) ?_
          refine g_icmp_ge (tgt := 324) hx hb dL_addUp_103 (by decide) h (fun h => ?_) (fun h => ?_)
          · exact J324 z17 z18 _ _ _ h hP hS (lv_sub hl [0, 1, 2, 3, 4, 5, 6] rfl)
          · refine lv_aload_n hx hb dL_addUp_106 rfl (lv_at hl 0 rfl) ?_
            refine lv_iload hx hb dL_addUp_107 (lv_at hl 7 rfl) ?_
            refine lv_iconst (v := 1) hx hb dL_addUp_109 (by decide) ?_
            obtain ⟨z20, hc110, h⟩ := k_b1_e h
            refine g_callRI_V (As := [.int z19, .int 1]) (rest := []) hC (mX4_key l dC dI cyI cyC cyO ob n0 n1 n2 n3 t0 t1 t2 t3 s0 aR ro r1 r2 r3 x0 x1 x2 x3 x4 n_ones n_twos n_settings n_tick n_energy n_valuesPut t_ones t_twos t_settings t_tick t_energy t_valuesPut s_ring s_oldest s_count x_signs x_length x_position x_complete x_orders x_kinds x_numbers x_values z19 1 hc110) q257 q258 q259 q8 q260 2 hdX4_key ⟨Nat.le_of_ble_eq_true rfl, Nat.le_of_ble_eq_true rfl⟩ ⟨Nat.le_of_ble_eq_true rfl, Nat.le_of_ble_eq_true rfl⟩ rfl rfl hl.1 (Nat.le_of_ble_eq_true rfl) hP hK (va_recv hK hP (ci := 3) (q0 := 0) rfl rfl) hS dL_addUp_110 (fun H locs hk hS => ?_)
            have hP := k_kept hP hk
            refine lv_istore (lv' := [(8, .int z20), (0, .ref ob), (1, .int z1), (2, .int z2), (3, .int z3), (4, .int z4), (5, .int z17), (6, .int z18), (7, .int z19)]) hx hb dL_addUp_113 hl (by decide) rfl (fun ls hl => ?_)
            refine lv_iload hx hb dL_addUp_115 (lv_at hl 6 rfl) ?_
            refine lv_aload_n hx hb dL_addUp_117 rfl (lv_at hl 1 rfl) ?_
            refine lv_iload hx hb dL_addUp_118 (lv_at hl 8 rfl) ?_
            refine lv_iconst (v := 2) hx hb dL_addUp_120 (by decide) ?_
            obtain ⟨z21, hc121, h⟩ := k_b1_e h
            refine g_callRI_V (As := [.int z19, .int 2]) (rest := [.int z17]) hC (mX4_key l dC dI cyI cyC cyO ob n0 n1 n2 n3 t0 t1 t2 t3 s0 aR ro r1 r2 r3 x0 x1 x2 x3 x4 n_ones n_twos n_settings n_tick n_energy n_valuesPut t_ones t_twos t_settings t_tick t_energy t_valuesPut s_ring s_oldest s_count x_signs x_length x_position x_complete x_orders x_kinds x_numbers x_values z19 2 hc121) q257 q258 q259 q8 q260 2 hdX4_key ⟨Nat.le_of_ble_eq_true rfl, Nat.le_of_ble_eq_true rfl⟩ ⟨Nat.le_of_ble_eq_true rfl, Nat.le_of_ble_eq_true rfl⟩ rfl rfl hl.1 (Nat.le_of_ble_eq_true rfl) hP hK (va_recv hK hP (ci := 3) (q0 := 0) rfl rfl) hS dL_addUp_121 (fun H locs hk hS => ?_)
            have hP := k_kept hP hk
            refine g_iadd hx hb dL_addUp_124 h (fun z22 h => ?_)
            refine lv_istore (lv' := [(5, .int z22), (8, .int z20), (0, .ref ob), (1, .int z1), (2, .int z2), (3, .int z3), (4, .int z4), (6, .int z18), (7, .int z19)]) hx hb dL_addUp_125 hl (by decide) rfl (fun ls hl => ?_)
            refine lv_iload hx hb dL_addUp_127 (lv_at hl 7 rfl) ?_
            refine lv_aload_n hx hb dL_addUp_129 rfl (lv_at hl 2 rfl) ?_
            refine lv_iload hx hb dL_addUp_130 (lv_at hl 8 rfl) ?_
            refine lv_iconst (v := 0) hx hb dL_addUp_132 (by decide) ?_
            obtain ⟨z23, hc133, h⟩ := k_b1_e h
            refine g_callRI_V (As := [.int z19, .int 0]) (rest := [.int z18]) hC (mX4_key l dC dI cyI cyC cyO ob n0 n1 n2 n3 t0 t1 t2 t3 s0 aR ro r1 r2 r3 x0 x1 x2 x3 x4 n_ones n_twos n_settings n_tick n_energy n_valuesPut t_ones t_twos t_settings t_tick t_energy t_valuesPut s_ring s_oldest s_count x_signs x_length x_position x_complete x_orders x_kinds x_numbers x_values z19 0 hc133) q257 q258 q259 q8 q260 2 hdX4_key ⟨Nat.le_of_ble_eq_true rfl, Nat.le_of_ble_eq_true rfl⟩ ⟨Nat.le_of_ble_eq_true rfl, Nat.le_of_ble_eq_true rfl⟩ rfl rfl hl.1 (Nat.le_of_ble_eq_true rfl) hP hK (va_recv hK hP (ci := 3) (q0 := 0) rfl rfl) hS dL_addUp_133 (fun H locs hk hS => ?_)
            have hP := k_kept hP hk
            obtain ⟨K144, hK144, h⟩ := k_j1_e h
            have J144 : ∀ (z24 : Int32) (H : Heap) (locs : List Loc) (ls : Array Slot), K144 z24 = some r → va_P (dC, dI) vwCl (wAll cyI cyC cyO ob n0 n1 n2 n3 t0 t1 t2 t3 s0 aR ro r1 r2 r3 x0 x1 x2 x3 x4 n_ones n_twos n_settings n_tick n_energy n_valuesPut t_ones t_twos t_settings t_tick t_energy t_valuesPut s_ring s_oldest s_count x_signs x_length x_position x_complete x_orders x_kinds x_numbers x_values) H → va_S kF s.heap H locs → lv_has ls 10 [(0, .ref ob), (1, .int z1), (2, .int z2), (3, .int z3), (4, .int z4), (5, .int z22), (7, .int z19), (8, .int z20)] → W p l e (k_rm 7 158) s m [.ref ob].toArray below meth c H locs 0 0 (MQ below (qRI r) [.ref ob].toArray s 0 0 kF) (F0 m 144 ls [.int z24, .int z18]) := by
              intro z24 H locs ls h hP hS hl
              have h := k_a1 hK144 h
              refine g_iadd hx hb dL_addUp_144 h (fun z25 h => ?_)
              refine lv_istore (lv' := [(6, .int z25), (0, .ref ob), (1, .int z1), (2, .int z2), (3, .int z3), (4, .int z4), (5, .int z22), (7, .int z19), (8, .int z20)]) hx hb dL_addUp_145 hl (by decide) rfl (fun ls hl => ?_)
              refine lv_iload hx hb dL_addUp_147 (lv_at hl 8 rfl) ?_
              obtain ⟨K157, hK157, h⟩ := k_j1_e h
              have J157 : ∀ (z26 : Int32) (H : Heap) (locs : List Loc) (ls : Array Slot), K157 z26 = some r → va_P (dC, dI) vwCl (wAll cyI cyC cyO ob n0 n1 n2 n3 t0 t1 t2 t3 s0 aR ro r1 r2 r3 x0 x1 x2 x3 x4 n_ones n_twos n_settings n_tick n_energy n_valuesPut t_ones t_twos t_settings t_tick t_energy t_valuesPut s_ring s_oldest s_count x_signs x_length x_position x_complete x_orders x_kinds x_numbers x_values) H → va_S kF s.heap H locs → lv_has ls 10 [(0, .ref ob), (1, .int z1), (2, .int z2), (3, .int z3), (4, .int z4), (5, .int z22), (6, .int z25), (7, .int z19), (8, .int z20)] → W p l e (k_rm 7 158) s m [.ref ob].toArray below meth c H locs 0 0 (MQ below (qRI r) [.ref ob].toArray s 0 0 kF) (F0 m 157 ls [.int z26]) := by
                intro z26 H locs ls h hP hS hl
                have h := k_a1 hK157 h
                refine lv_aload_n hx hb dL_addUp_157 rfl (lv_at hl 0 rfl) ?_
                refine lv_iload hx hb dL_addUp_158 (lv_at hl 7 rfl) ?_
                refine lv_iconst (v := 2) hx hb dL_addUp_160 (by decide) ?_
                obtain ⟨z27, hc161, h⟩ := k_b1_e h
                refine g_callRI_V (As := [.int z19, .int 2]) (rest := [.int z26]) hC (mX4_key l dC dI cyI cyC cyO ob n0 n1 n2 n3 t0 t1 t2 t3 s0 aR ro r1 r2 r3 x0 x1 x2 x3 x4 n_ones n_twos n_settings n_tick n_energy n_valuesPut t_ones t_twos t_settings t_tick t_energy t_valuesPut s_ring s_oldest s_count x_signs x_length x_position x_complete x_orders x_kinds x_numbers x_values z19 2 hc161) q257 q258 q259 q8 q260 2 hdX4_key ⟨Nat.le_of_ble_eq_true rfl, Nat.le_of_ble_eq_true rfl⟩ ⟨Nat.le_of_ble_eq_true rfl, Nat.le_of_ble_eq_true rfl⟩ rfl rfl hl.1 (Nat.le_of_ble_eq_true rfl) hP hK (va_recv hK hP (ci := 3) (q0 := 0) rfl rfl) hS dL_addUp_161 (fun H locs hk hS => ?_)
                have hP := k_kept hP hk
                obtain ⟨K172, hK172, h⟩ := k_j1_e h
                have J172 : ∀ (z28 : Int32) (H : Heap) (locs : List Loc) (ls : Array Slot), K172 z28 = some r → va_P (dC, dI) vwCl (wAll cyI cyC cyO ob n0 n1 n2 n3 t0 t1 t2 t3 s0 aR ro r1 r2 r3 x0 x1 x2 x3 x4 n_ones n_twos n_settings n_tick n_energy n_valuesPut t_ones t_twos t_settings t_tick t_energy t_valuesPut s_ring s_oldest s_count x_signs x_length x_position x_complete x_orders x_kinds x_numbers x_values) H → va_S kF s.heap H locs → lv_has ls 10 [(0, .ref ob), (1, .int z1), (2, .int z2), (3, .int z3), (4, .int z4), (5, .int z22), (6, .int z25), (7, .int z19), (8, .int z20)] → W p l e (k_rm 7 158) s m [.ref ob].toArray below meth c H locs 0 0 (MQ below (qRI r) [.ref ob].toArray s 0 0 kF) (F0 m 172 ls [.int z28, .int z26]) := by
                  intro z28 H locs ls h hP hS hl
                  have h := k_a1 hK172 h
                  obtain ⟨K242, hK242, h⟩ := k_j1_e h
                  have J242 : ∀ (z29 : Int32) (H : Heap) (locs : List Loc) (ls : Array Slot), K242 z29 = some r → va_P (dC, dI) vwCl (wAll cyI cyC cyO ob n0 n1 n2 n3 t0 t1 t2 t3 s0 aR ro r1 r2 r3 x0 x1 x2 x3 x4 n_ones n_twos n_settings n_tick n_energy n_valuesPut t_ones t_twos t_settings t_tick t_energy t_valuesPut s_ring s_oldest s_count x_signs x_length x_position x_complete x_orders x_kinds x_numbers x_values) H → va_S kF s.heap H locs → lv_has ls 10 [(0, .ref ob), (1, .int z1), (2, .int z2), (3, .int z3), (4, .int z4), (5, .int z22), (6, .int z25), (7, .int z19)] → W p l e (k_rm 7 158) s m [.ref ob].toArray below meth c H locs 0 0 (MQ below (qRI r) [.ref ob].toArray s 0 0 kF) (F0 m 242 ls [.int z29]) := by
                    intro z29 H locs ls h hP hS hl
                    have h := k_a1 hK242 h
                    refine lv_istore (lv' := [(9, .int z29), (0, .ref ob), (1, .int z1), (2, .int z2), (3, .int z3), (4, .int z4), (5, .int z22), (6, .int z25), (7, .int z19)]) hx hb dL_addUp_242 hl (by decide) rfl (fun ls hl => ?_)
                    refine lv_iload hx hb dL_addUp_244 (lv_at hl 0 rfl) ?_
                    refine g_if_eq (tgt := 316) hx hb dL_addUp_246 (by decide) h (fun h => ?_) (fun h => ?_)
                    · refine lv_iconst (v := 0) hx hb dL_addUp_316 (by decide) ?_
                      exact g_retRZ hx hb hr (by decide +kernel) hlk hS h dL_addUp_317
                    · refine lv_aload_n hx hb dL_addUp_249 rfl (lv_at hl 1 rfl) ?_
                      refine lv_iload hx hb dL_addUp_250 (lv_at hl 8 rfl) ?_
                      refine lv_iconst (v := 0) hx hb dL_addUp_252 (by decide) ?_
                      obtain ⟨z30, hc253, h⟩ := k_b1_e h
                      refine g_callRI_V (As := [.int z19, .int 0]) (rest := []) hC (mX4_history l dC dI cyI cyC cyO ob n0 n1 n2 n3 t0 t1 t2 t3 s0 aR ro r1 r2 r3 x0 x1 x2 x3 x4 n_ones n_twos n_settings n_tick n_energy n_valuesPut t_ones t_twos t_settings t_tick t_energy t_valuesPut s_ring s_oldest s_count x_signs x_length x_position x_complete x_orders x_kinds x_numbers x_values z19 0 hc253) q458 q459 q460 q8 q461 2 hdX4_history ⟨Nat.le_of_ble_eq_true rfl, Nat.le_of_ble_eq_true rfl⟩ ⟨Nat.le_of_ble_eq_true rfl, Nat.le_of_ble_eq_true rfl⟩ rfl rfl hl.1 (Nat.le_of_ble_eq_true rfl) hP hK (va_recv hK hP (ci := 3) (q0 := 0) rfl rfl) hS dL_addUp_253 (fun H locs hk hS => ?_)
                      have hP := k_kept hP hk
                      obtain ⟨K264, hK264, h⟩ := k_j1_e h
                      have J264 : ∀ (z31 : Int32) (H : Heap) (locs : List Loc) (ls : Array Slot), K264 z31 = some r → va_P (dC, dI) vwCl (wAll cyI cyC cyO ob n0 n1 n2 n3 t0 t1 t2 t3 s0 aR ro r1 r2 r3 x0 x1 x2 x3 x4 n_ones n_twos n_settings n_tick n_energy n_valuesPut t_ones t_twos t_settings t_tick t_energy t_valuesPut s_ring s_oldest s_count x_signs x_length x_position x_complete x_orders x_kinds x_numbers x_values) H → va_S kF s.heap H locs → lv_has ls 10 [(0, .ref ob), (1, .int z1), (2, .int z2), (3, .int z3), (4, .int z4), (5, .int z22), (6, .int z25), (7, .int z19)] → W p l e (k_rm 7 158) s m [.ref ob].toArray below meth c H locs 0 0 (MQ below (qRI r) [.ref ob].toArray s 0 0 kF) (F0 m 264 ls [.int z31]) := by
                        intro z31 H locs ls h hP hS hl
                        have h := k_a1 hK264 h
                        refine lv_aload_n hx hb dL_addUp_264 rfl (lv_at hl 0 rfl) ?_
                        refine lv_iload hx hb dL_addUp_265 (lv_at hl 7 rfl) ?_
                        refine lv_iconst (v := 3) hx hb dL_addUp_267 (by decide) ?_
                        obtain ⟨z32, hc268, h⟩ := k_b1_e h
                        refine g_callRI_V (As := [.int z19, .int 3]) (rest := [.int z31]) hC (mX4_key l dC dI cyI cyC cyO ob n0 n1 n2 n3 t0 t1 t2 t3 s0 aR ro r1 r2 r3 x0 x1 x2 x3 x4 n_ones n_twos n_settings n_tick n_energy n_valuesPut t_ones t_twos t_settings t_tick t_energy t_valuesPut s_ring s_oldest s_count x_signs x_length x_position x_complete x_orders x_kinds x_numbers x_values z19 3 hc268) q257 q258 q259 q8 q260 2 hdX4_key ⟨Nat.le_of_ble_eq_true rfl, Nat.le_of_ble_eq_true rfl⟩ ⟨Nat.le_of_ble_eq_true rfl, Nat.le_of_ble_eq_true rfl⟩ rfl rfl hl.1 (Nat.le_of_ble_eq_true rfl) hP hK (va_recv hK hP (ci := 3) (q0 := 0) rfl rfl) hS dL_addUp_268 (fun H locs hk hS => ?_)
                        have hP := k_kept hP hk
                        obtain ⟨K279, hK279, h⟩ := k_j1_e h
                        have J279 : ∀ (z33 : Int32) (H : Heap) (locs : List Loc) (ls : Array Slot), K279 z33 = some r → va_P (dC, dI) vwCl (wAll cyI cyC cyO ob n0 n1 n2 n3 t0 t1 t2 t3 s0 aR ro r1 r2 r3 x0 x1 x2 x3 x4 n_ones n_twos n_settings n_tick n_energy n_valuesPut t_ones t_twos t_settings t_tick t_energy t_valuesPut s_ring s_oldest s_count x_signs x_length x_position x_complete x_orders x_kinds x_numbers x_values) H → va_S kF s.heap H locs → lv_has ls 10 [(0, .ref ob), (1, .int z1), (2, .int z2), (3, .int z3), (4, .int z4), (5, .int z22), (6, .int z25), (7, .int z19)] → W p l e (k_rm 7 158) s m [.ref ob].toArray below meth c H locs 0 0 (MQ below (qRI r) [.ref ob].toArray s 0 0 kF) (F0 m 279 ls [.int z33, .int z31]) := by
                          intro z33 H locs ls h hP hS hl
                          have h := k_a1 hK279 h
                          refine g_icmp_ne (tgt := 316) hx hb dL_addUp_279 (by decide) h (fun h => ?_) (fun h => ?_)
                          · refine lv_iconst (v := 0) hx hb dL_addUp_316 (by decide) ?_
                            exact g_retRZ hx hb hr (by decide +kernel) hlk hS h dL_addUp_317
                          · refine lv_aload_n hx hb dL_addUp_282 rfl (lv_at hl 0 rfl) ?_
                            refine lv_iload hx hb dL_addUp_283 (lv_at hl 7 rfl) ?_
                            refine lv_aload_n hx hb dL_addUp_285 rfl (lv_at hl 0 rfl) ?_
                            refine lv_iload hx hb dL_addUp_286 (lv_at hl 7 rfl) ?_
                            refine lv_iconst (v := 3) hx hb dL_addUp_288 (by decide) ?_
                            obtain ⟨z34, hc289, h⟩ := k_b1_e h
                            refine g_callRI_V (As := [.int z19, .int 3]) (rest := [.int z19, .ref ob]) hC (mX4_key l dC dI cyI cyC cyO ob n0 n1 n2 n3 t0 t1 t2 t3 s0 aR ro r1 r2 r3 x0 x1 x2 x3 x4 n_ones n_twos n_settings n_tick n_energy n_valuesPut t_ones t_twos t_settings t_tick t_energy t_valuesPut s_ring s_oldest s_count x_signs x_length x_position x_complete x_orders x_kinds x_numbers x_values z19 3 hc289) q257 q258 q259 q8 q260 2 hdX4_key ⟨Nat.le_of_ble_eq_true rfl, Nat.le_of_ble_eq_true rfl⟩ ⟨Nat.le_of_ble_eq_true rfl, Nat.le_of_ble_eq_true rfl⟩ rfl rfl hl.1 (Nat.le_of_ble_eq_true rfl) hP hK (va_recv hK hP (ci := 3) (q0 := 0) rfl rfl) hS dL_addUp_289 (fun H locs hk hS => ?_)
                            have hP := k_kept hP hk
                            obtain ⟨z35, hc292, h⟩ := k_b1_e h
                            refine g_callRI_V (As := [.int z19, .int z34]) (rest := []) hC (mX4_history l dC dI cyI cyC cyO ob n0 n1 n2 n3 t0 t1 t2 t3 s0 aR ro r1 r2 r3 x0 x1 x2 x3 x4 n_ones n_twos n_settings n_tick n_energy n_valuesPut t_ones t_twos t_settings t_tick t_energy t_valuesPut s_ring s_oldest s_count x_signs x_length x_position x_complete x_orders x_kinds x_numbers x_values z19 z34 hc292) q458 q459 q460 q8 q461 2 hdX4_history ⟨Nat.le_of_ble_eq_true rfl, Nat.le_of_ble_eq_true rfl⟩ ⟨Nat.le_of_ble_eq_true rfl, Nat.le_of_ble_eq_true rfl⟩ rfl rfl hl.1 (Nat.le_of_ble_eq_true rfl) hP hK (va_recv hK hP (ci := 3) (q0 := 0) rfl rfl) hS dL_addUp_292 (fun H locs hk hS => ?_)
                            have hP := k_kept hP hk
                            refine lv_iconst (v := (-1)) hx hb dL_addUp_295 (by decide) ?_
                            refine g_icmp_ne (tgt := 316) hx hb dL_addUp_296 (by decide) h (fun h => ?_) (fun h => ?_)
                            · refine lv_iconst (v := 0) hx hb dL_addUp_316 (by decide) ?_
                              exact g_retRZ hx hb hr (by decide +kernel) hlk hS h dL_addUp_317
                            · refine lv_aload_n hx hb dL_addUp_299 rfl (lv_at hl 0 rfl) ?_
                              refine lv_iload hx hb dL_addUp_300 (lv_at hl 7 rfl) ?_
                              refine lv_iconst (v := 0) hx hb dL_addUp_302 (by decide) ?_
                              obtain ⟨z36, hc303, h⟩ := k_b1_e h
                              refine g_callRI_V (As := [.int z19, .int 0]) (rest := []) hC (mX4_key l dC dI cyI cyC cyO ob n0 n1 n2 n3 t0 t1 t2 t3 s0 aR ro r1 r2 r3 x0 x1 x2 x3 x4 n_ones n_twos n_settings n_tick n_energy n_valuesPut t_ones t_twos t_settings t_tick t_energy t_valuesPut s_ring s_oldest s_count x_signs x_length x_position x_complete x_orders x_kinds x_numbers x_values z19 0 hc303) q257 q258 q259 q8 q260 2 hdX4_key ⟨Nat.le_of_ble_eq_true rfl, Nat.le_of_ble_eq_true rfl⟩ ⟨Nat.le_of_ble_eq_true rfl, Nat.le_of_ble_eq_true rfl⟩ rfl rfl hl.1 (Nat.le_of_ble_eq_true rfl) hP hK (va_recv hK hP (ci := 3) (q0 := 0) rfl rfl) hS dL_addUp_303 (fun H locs hk hS => ?_)
                              have hP := k_kept hP hk
                              refine lv_aload_n hx hb dL_addUp_306 rfl (lv_at hl 0 rfl) ?_
                              refine lv_iload hx hb dL_addUp_307 (lv_at hl 7 rfl) ?_
                              refine lv_iconst (v := 4) hx hb dL_addUp_309 (by decide) ?_
                              obtain ⟨z37, hc310, h⟩ := k_b1_e h
                              refine g_callRI_V (As := [.int z19, .int 4]) (rest := [.int z36]) hC (mX4_key l dC dI cyI cyC cyO ob n0 n1 n2 n3 t0 t1 t2 t3 s0 aR ro r1 r2 r3 x0 x1 x2 x3 x4 n_ones n_twos n_settings n_tick n_energy n_valuesPut t_ones t_twos t_settings t_tick t_energy t_valuesPut s_ring s_oldest s_count x_signs x_length x_position x_complete x_orders x_kinds x_numbers x_values z19 4 hc310) q257 q258 q259 q8 q260 2 hdX4_key ⟨Nat.le_of_ble_eq_true rfl, Nat.le_of_ble_eq_true rfl⟩ ⟨Nat.le_of_ble_eq_true rfl, Nat.le_of_ble_eq_true rfl⟩ rfl rfl hl.1 (Nat.le_of_ble_eq_true rfl) hP hK (va_recv hK hP (ci := 3) (q0 := 0) rfl rfl) hS dL_addUp_310 (fun H locs hk hS => ?_)
                              have hP := k_kept hP hk
                              refine g_icmp_le (tgt := 318) hx hb dL_addUp_313 (by decide) h (fun h => ?_) (fun h => ?_)
                              · refine g_iinc (dv := 1) hx hb dL_addUp_318 hl (j := 7) rfl (by decide) (by decide) h (fun z38 ls h hl => ?_)
                                have hl : lv_has ls 10 [(7, .int z38), (0, .ref ob), (1, .int z1), (2, .int z2), (3, .int z3), (4, .int z4), (5, .int z22), (6, .int z25)] := hl
                                refine lv_goto (tgt := 99) hx hb dL_addUp_321 (by decide) ?_
                                exact ih99 z22 z25 z38 _ _ _ h hP hS (lv_sub hl [1, 2, 3, 4, 5, 6, 7, 0] rfl)
                              · refine lv_iconst (v := 0) hx hb dL_addUp_316 (by decide) ?_
                                exact g_retRZ hx hb hr (by decide +kernel) hlk hS h dL_addUp_317
                        refine g_if_le (tgt := 278) hx hb dL_addUp_271 (by decide) h (fun h => ?_) (fun h => ?_)
                        · refine lv_iconst (v := 0) hx hb dL_addUp_278 (by decide) ?_
                          exact J279 0 _ _ _ h hP hS (lv_sub hl [0, 1, 2, 3, 4, 5, 6, 7] rfl)
                        · refine lv_iconst (v := 1) hx hb dL_addUp_274 (by decide) ?_
                          refine lv_goto (tgt := 279) hx hb dL_addUp_275 (by decide) ?_
                          exact J279 1 _ _ _ h hP hS (lv_sub hl [0, 1, 2, 3, 4, 5, 6, 7] rfl)
                      refine g_if_lt (tgt := 263) hx hb dL_addUp_256 (by decide) h (fun h => ?_) (fun h => ?_)
                      · refine lv_iconst (v := 0) hx hb dL_addUp_263 (by decide) ?_
                        exact J264 0 _ _ _ h hP hS (lv_sub hl [1, 2, 3, 4, 5, 6, 7, 8] rfl)
                      · refine lv_iconst (v := 1) hx hb dL_addUp_259 (by decide) ?_
                        refine lv_goto (tgt := 264) hx hb dL_addUp_260 (by decide) ?_
                        exact J264 1 _ _ _ h hP hS (lv_sub hl [1, 2, 3, 4, 5, 6, 7, 8] rfl)
                  refine g_icmp_ne (tgt := 241) hx hb dL_addUp_172 (by decide) h (fun h => ?_) (fun h => ?_)
                  · refine lv_iconst (v := 0) hx hb dL_addUp_241 (by decide) ?_
                    exact J242 0 _ _ _ h hP hS (lv_sub hl [0, 1, 2, 3, 4, 5, 6, 7] rfl)
                  · refine lv_iload hx hb dL_addUp_175 (lv_at hl 8 rfl) ?_
                    obtain ⟨K220, hK220, h⟩ := k_j0_e h
                    have J220 : ∀ (H : Heap) (locs : List Loc) (ls : Array Slot), K220 = some r → va_P (dC, dI) vwCl (wAll cyI cyC cyO ob n0 n1 n2 n3 t0 t1 t2 t3 s0 aR ro r1 r2 r3 x0 x1 x2 x3 x4 n_ones n_twos n_settings n_tick n_energy n_valuesPut t_ones t_twos t_settings t_tick t_energy t_valuesPut s_ring s_oldest s_count x_signs x_length x_position x_complete x_orders x_kinds x_numbers x_values) H → va_S kF s.heap H locs → lv_has ls 10 [(0, .ref ob), (1, .int z1), (2, .int z2), (3, .int z3), (4, .int z4), (5, .int z22), (6, .int z25), (7, .int z19)] → W p l e (k_rm 7 158) s m [.ref ob].toArray below meth c H locs 0 0 (MQ below (qRI r) [.ref ob].toArray s 0 0 kF) (F0 m 220 ls []) := by
                      intro  H locs ls h hP hS hl
                      have h := k_a0 hK220 h
                      refine lv_aload_n hx hb dL_addUp_220 rfl (lv_at hl 0 rfl) ?_
                      refine lv_iload hx hb dL_addUp_221 (lv_at hl 7 rfl) ?_
                      refine lv_iconst (v := 3) hx hb dL_addUp_223 (by decide) ?_
                      obtain ⟨z39, hc224, h⟩ := k_b1_e h
                      refine g_callRI_V (As := [.int z19, .int 3]) (rest := []) hC (mX4_key l dC dI cyI cyC cyO ob n0 n1 n2 n3 t0 t1 t2 t3 s0 aR ro r1 r2 r3 x0 x1 x2 x3 x4 n_ones n_twos n_settings n_tick n_energy n_valuesPut t_ones t_twos t_settings t_tick t_energy t_valuesPut s_ring s_oldest s_count x_signs x_length x_position x_complete x_orders x_kinds x_numbers x_values z19 3 hc224) q257 q258 q259 q8 q260 2 hdX4_key ⟨Nat.le_of_ble_eq_true rfl, Nat.le_of_ble_eq_true rfl⟩ ⟨Nat.le_of_ble_eq_true rfl, Nat.le_of_ble_eq_true rfl⟩ rfl rfl hl.1 (Nat.le_of_ble_eq_true rfl) hP hK (va_recv hK hP (ci := 3) (q0 := 0) rfl rfl) hS dL_addUp_224 (fun H locs hk hS => ?_)
                      have hP := k_kept hP hk
                      refine lv_aload_n hx hb dL_addUp_227 rfl (lv_at hl 0 rfl) ?_
                      refine lv_iload hx hb dL_addUp_228 (lv_at hl 7 rfl) ?_
                      refine lv_iconst (v := 2) hx hb dL_addUp_230 (by decide) ?_
                      obtain ⟨z40, hc231, h⟩ := k_b1_e h
                      refine g_callRI_V (As := [.int z19, .int 2]) (rest := [.int z39]) hC (mX4_key l dC dI cyI cyC cyO ob n0 n1 n2 n3 t0 t1 t2 t3 s0 aR ro r1 r2 r3 x0 x1 x2 x3 x4 n_ones n_twos n_settings n_tick n_energy n_valuesPut t_ones t_twos t_settings t_tick t_energy t_valuesPut s_ring s_oldest s_count x_signs x_length x_position x_complete x_orders x_kinds x_numbers x_values z19 2 hc231) q257 q258 q259 q8 q260 2 hdX4_key ⟨Nat.le_of_ble_eq_true rfl, Nat.le_of_ble_eq_true rfl⟩ ⟨Nat.le_of_ble_eq_true rfl, Nat.le_of_ble_eq_true rfl⟩ rfl rfl hl.1 (Nat.le_of_ble_eq_true rfl) hP hK (va_recv hK hP (ci := 3) (q0 := 0) rfl rfl) hS dL_addUp_231 (fun H locs hk hS => ?_)
                      have hP := k_kept hP hk
                      refine g_icmp_lt (tgt := 241) hx hb dL_addUp_234 (by decide) h (fun h => ?_) (fun h => ?_)
                      · refine lv_iconst (v := 0) hx hb dL_addUp_241 (by decide) ?_
                        exact J242 0 _ _ _ h hP hS (lv_sub hl [0, 1, 2, 3, 4, 5, 6, 7] rfl)
                      · refine lv_iconst (v := 1) hx hb dL_addUp_237 (by decide) ?_
                        refine lv_goto (tgt := 242) hx hb dL_addUp_238 (by decide) ?_
                        exact J242 1 _ _ _ h hP hS (lv_sub hl [0, 1, 2, 3, 4, 5, 6, 7] rfl)
                    refine g_if_lt (tgt := 220) hx hb dL_addUp_177 (by decide) h (fun h => ?_) (fun h => ?_)
                    · exact J220  _ _ _ h hP hS (lv_sub hl [0, 1, 2, 3, 4, 5, 6, 7] rfl)
                    · refine lv_aload_n hx hb dL_addUp_180 rfl (lv_at hl 0 rfl) ?_
                      refine lv_iload hx hb dL_addUp_181 (lv_at hl 8 rfl) ?_
                      refine lv_iconst (v := 1) hx hb dL_addUp_183 (by decide) ?_
                      obtain ⟨z41, hc184, h⟩ := k_b1_e h
                      refine g_callRI_V (As := [.int z20, .int 1]) (rest := []) hC (mX4_row l dC dI cyI cyC cyO ob n0 n1 n2 n3 t0 t1 t2 t3 s0 aR ro r1 r2 r3 x0 x1 x2 x3 x4 n_ones n_twos n_settings n_tick n_energy n_valuesPut t_ones t_twos t_settings t_tick t_energy t_valuesPut s_ring s_oldest s_count x_signs x_length x_position x_complete x_orders x_kinds x_numbers x_values z20 1 hc184) q231 q232 q233 q8 q234 2 hdX4_row ⟨Nat.le_of_ble_eq_true rfl, Nat.le_of_ble_eq_true rfl⟩ ⟨Nat.le_of_ble_eq_true rfl, Nat.le_of_ble_eq_true rfl⟩ rfl rfl hl.1 (Nat.le_of_ble_eq_true rfl) hP hK (va_recv hK hP (ci := 3) (q0 := 0) rfl rfl) hS dL_addUp_184 (fun H locs hk hS => ?_)
                      have hP := k_kept hP hk
                      refine lv_iconst (v := 4) hx hb dL_addUp_187 (by decide) ?_
                      refine g_icmp_ne (tgt := 241) hx hb dL_addUp_188 (by decide) h (fun h => ?_) (fun h => ?_)
                      · refine lv_iconst (v := 0) hx hb dL_addUp_241 (by decide) ?_
                        exact J242 0 _ _ _ h hP hS (lv_sub hl [0, 1, 2, 3, 4, 5, 6, 7] rfl)
                      · refine lv_aload_n hx hb dL_addUp_191 rfl (lv_at hl 0 rfl) ?_
                        refine lv_iload hx hb dL_addUp_192 (lv_at hl 8 rfl) ?_
                        refine lv_iconst (v := 2) hx hb dL_addUp_194 (by decide) ?_
                        obtain ⟨z42, hc195, h⟩ := k_b1_e h
                        refine g_callRI_V (As := [.int z20, .int 2]) (rest := []) hC (mX4_row l dC dI cyI cyC cyO ob n0 n1 n2 n3 t0 t1 t2 t3 s0 aR ro r1 r2 r3 x0 x1 x2 x3 x4 n_ones n_twos n_settings n_tick n_energy n_valuesPut t_ones t_twos t_settings t_tick t_energy t_valuesPut s_ring s_oldest s_count x_signs x_length x_position x_complete x_orders x_kinds x_numbers x_values z20 2 hc195) q231 q232 q233 q8 q234 2 hdX4_row ⟨Nat.le_of_ble_eq_true rfl, Nat.le_of_ble_eq_true rfl⟩ ⟨Nat.le_of_ble_eq_true rfl, Nat.le_of_ble_eq_true rfl⟩ rfl rfl hl.1 (Nat.le_of_ble_eq_true rfl) hP hK (va_recv hK hP (ci := 3) (q0 := 0) rfl rfl) hS dL_addUp_195 (fun H locs hk hS => ?_)
                        have hP := k_kept hP hk
                        refine lv_iload hx hb dL_addUp_198 (lv_at hl 7 rfl) ?_
                        refine g_icmp_ne (tgt := 241) hx hb dL_addUp_200 (by decide) h (fun h => ?_) (fun h => ?_)
                        · refine lv_iconst (v := 0) hx hb dL_addUp_241 (by decide) ?_
                          exact J242 0 _ _ _ h hP hS (lv_sub hl [0, 1, 2, 3, 4, 5, 6, 7] rfl)
                        · refine lv_aload_n hx hb dL_addUp_203 rfl (lv_at hl 0 rfl) ?_
                          refine lv_iload hx hb dL_addUp_204 (lv_at hl 8 rfl) ?_
                          refine lv_iconst (v := 3) hx hb dL_addUp_206 (by decide) ?_
                          obtain ⟨z43, hc207, h⟩ := k_b1_e h
                          refine g_callRI_V (As := [.int z20, .int 3]) (rest := []) hC (mX4_row l dC dI cyI cyC cyO ob n0 n1 n2 n3 t0 t1 t2 t3 s0 aR ro r1 r2 r3 x0 x1 x2 x3 x4 n_ones n_twos n_settings n_tick n_energy n_valuesPut t_ones t_twos t_settings t_tick t_energy t_valuesPut s_ring s_oldest s_count x_signs x_length x_position x_complete x_orders x_kinds x_numbers x_values z20 3 hc207) q231 q232 q233 q8 q234 2 hdX4_row ⟨Nat.le_of_ble_eq_true rfl, Nat.le_of_ble_eq_true rfl⟩ ⟨Nat.le_of_ble_eq_true rfl, Nat.le_of_ble_eq_true rfl⟩ rfl rfl hl.1 (Nat.le_of_ble_eq_true rfl) hP hK (va_recv hK hP (ci := 3) (q0 := 0) rfl rfl) hS dL_addUp_207 (fun H locs hk hS => ?_)
                          have hP := k_kept hP hk
                          refine lv_aload_n hx hb dL_addUp_210 rfl (lv_at hl 0 rfl) ?_
                          refine lv_iload hx hb dL_addUp_211 (lv_at hl 7 rfl) ?_
                          refine lv_iconst (v := 0) hx hb dL_addUp_213 (by decide) ?_
                          obtain ⟨z44, hc214, h⟩ := k_b1_e h
                          refine g_callRI_V (As := [.int z19, .int 0]) (rest := [.int z43]) hC (mX4_key l dC dI cyI cyC cyO ob n0 n1 n2 n3 t0 t1 t2 t3 s0 aR ro r1 r2 r3 x0 x1 x2 x3 x4 n_ones n_twos n_settings n_tick n_energy n_valuesPut t_ones t_twos t_settings t_tick t_energy t_valuesPut s_ring s_oldest s_count x_signs x_length x_position x_complete x_orders x_kinds x_numbers x_values z19 0 hc214) q257 q258 q259 q8 q260 2 hdX4_key ⟨Nat.le_of_ble_eq_true rfl, Nat.le_of_ble_eq_true rfl⟩ ⟨Nat.le_of_ble_eq_true rfl, Nat.le_of_ble_eq_true rfl⟩ rfl rfl hl.1 (Nat.le_of_ble_eq_true rfl) hP hK (va_recv hK hP (ci := 3) (q0 := 0) rfl rfl) hS dL_addUp_214 (fun H locs hk hS => ?_)
                          have hP := k_kept hP hk
                          refine g_icmp_ne (tgt := 241) hx hb dL_addUp_217 (by decide) h (fun h => ?_) (fun h => ?_)
                          · refine lv_iconst (v := 0) hx hb dL_addUp_241 (by decide) ?_
                            exact J242 0 _ _ _ h hP hS (lv_sub hl [0, 1, 2, 3, 4, 5, 6, 7] rfl)
                          · exact J220  _ _ _ h hP hS (lv_sub hl [0, 1, 2, 3, 4, 5, 6, 7] rfl)
                refine g_if_le (tgt := 171) hx hb dL_addUp_164 (by decide) h (fun h => ?_) (fun h => ?_)
                · refine lv_iconst (v := 0) hx hb dL_addUp_171 (by decide) ?_
                  exact J172 0 _ _ _ h hP hS (lv_sub hl [0, 1, 2, 3, 4, 5, 6, 7, 8] rfl)
                · refine lv_iconst (v := 1) hx hb dL_addUp_167 (by decide) ?_
                  refine lv_goto (tgt := 172) hx hb dL_addUp_168 (by decide) ?_
                  exact J172 1 _ _ _ h hP hS (lv_sub hl [0, 1, 2, 3, 4, 5, 6, 7, 8] rfl)
              refine g_if_lt (tgt := 156) hx hb dL_addUp_149 (by decide) h (fun h => ?_) (fun h => ?_)
              · refine lv_iconst (v := 0) hx hb dL_addUp_156 (by decide) ?_
                exact J157 0 _ _ _ h hP hS (lv_sub hl [1, 2, 3, 4, 5, 6, 0, 7, 8] rfl)
              · refine lv_iconst (v := 1) hx hb dL_addUp_152 (by decide) ?_
                refine lv_goto (tgt := 157) hx hb dL_addUp_153 (by decide) ?_
                exact J157 1 _ _ _ h hP hS (lv_sub hl [1, 2, 3, 4, 5, 6, 0, 7, 8] rfl)
            refine g_if_lt (tgt := 143) hx hb dL_addUp_136 (by decide) h (fun h => ?_) (fun h => ?_)
            · refine lv_iconst (v := 0) hx hb dL_addUp_143 (by decide) ?_
              exact J144 0 _ _ _ h hP hS (lv_sub hl [2, 3, 4, 5, 6, 0, 8, 1] rfl)
            · refine lv_iconst (v := 1) hx hb dL_addUp_139 (by decide) ?_
              refine lv_goto (tgt := 144) hx hb dL_addUp_140 (by decide) ?_
              exact J144 1 _ _ _ h hP hS (lv_sub hl [2, 3, 4, 5, 6, 0, 8, 1] rfl)
      exact L99 5000 0 0 0 _ _ _ h hP hS (lv_sub hl [3, 4, 5, 6, 7, 2, 1, 0] rfl)
    obtain ⟨S36, hS36⟩ : ∃ z, z = (fL_addUp_s36 K90 n_ones n_twos n_settings n_tick) := ⟨_, rfl⟩
    rw [← hS36] at h
    have L36 : ∀ (n : Nat) (z45 : Int32) (z46 : Int32) (z47 : Int32) (z48 : Int32) (H : Heap) (locs : List Loc) (ls : Array Slot), k_l4 S36 n z45 z46 z47 z48 = some r → va_P (dC, dI) vwCl (wAll cyI cyC cyO ob n0 n1 n2 n3 t0 t1 t2 t3 s0 aR ro r1 r2 r3 x0 x1 x2 x3 x4 n_ones n_twos n_settings n_tick n_energy n_valuesPut t_ones t_twos t_settings t_tick t_energy t_valuesPut s_ring s_oldest s_count x_signs x_length x_position x_complete x_orders x_kinds x_numbers x_values) H → va_S kF s.heap H locs → lv_has ls 10 [(0, .ref ob), (1, .int z1), (2, .int z45), (3, .int z46), (4, .int z47), (5, .int z48)] → W p l e (k_rm 7 158) s m [.ref ob].toArray below meth c H locs 0 0 (MQ below (qRI r) [.ref ob].toArray s 0 0 kF) (F0 m 36 ls []) := by
      intro n
      induction n with
      | zero =>
        intro z45 z46 z47 z48 H locs ls h
        exact (k_l4_0 h).elim
      | succ n ih36 =>
        intro z45 z46 z47 z48 H locs ls h hP hS hl
        have h := k_l4_s h
        have h := k_a5 hS36 h
        unfold fL_addUp_s36 at h
        refine lv_iload hx hb dL_addUp_36 (lv_at hl 5 rfl) ?_
        refine lv_bipush (v := 20) hx hb dL_addUp_38 (by decide) ?_
        refine g_icmp_ge (tgt := 90) hx hb dL_addUp_40 (by decide) h (fun h => ?_) (fun h => ?_)
        · exact J90 z45 z46 z47 _ _ _ h hP hS (lv_sub hl [0, 1, 2, 3, 4] rfl)
        · refine lv_iload_n hx hb dL_addUp_43 rfl (lv_at hl 2 rfl) ?_
          refine lv_aload_n hx hb dL_addUp_44 rfl (lv_at hl 0 rfl) ?_
          refine lv_iload hx hb dL_addUp_45 (lv_at hl 5 rfl) ?_
          refine lv_bipush (v := 7) hx hb dL_addUp_47 (by decide) ?_
          obtain ⟨z49, hc49, h⟩ := k_b1_e h
          refine g_callRI_V (As := [.int z48, .int 7]) (rest := [.int z45]) hC (mX4_row l dC dI cyI cyC cyO ob n0 n1 n2 n3 t0 t1 t2 t3 s0 aR ro r1 r2 r3 x0 x1 x2 x3 x4 n_ones n_twos n_settings n_tick n_energy n_valuesPut t_ones t_twos t_settings t_tick t_energy t_valuesPut s_ring s_oldest s_count x_signs x_length x_position x_complete x_orders x_kinds x_numbers x_values z48 7 hc49) q231 q232 q233 q8 q234 2 hdX4_row ⟨Nat.le_of_ble_eq_true rfl, Nat.le_of_ble_eq_true rfl⟩ ⟨Nat.le_of_ble_eq_true rfl, Nat.le_of_ble_eq_true rfl⟩ rfl rfl hl.1 (Nat.le_of_ble_eq_true rfl) hP hK (va_recv hK hP (ci := 3) (q0 := 0) rfl rfl) hS dL_addUp_49 (fun H locs hk hS => ?_)
          have hP := k_kept hP hk
          refine g_iadd hx hb dL_addUp_52 h (fun z50 h => ?_)
          refine lv_istore_n (lv' := [(2, .int z50), (0, .ref ob), (1, .int z1), (3, .int z46), (4, .int z47), (5, .int z48)]) hx hb dL_addUp_53 rfl hl (by decide) rfl (fun ls hl => ?_)
          refine lv_iload_n hx hb dL_addUp_54 rfl (lv_at hl 3 rfl) ?_
          refine lv_aload_n hx hb dL_addUp_55 rfl (lv_at hl 1 rfl) ?_
          refine lv_iload hx hb dL_addUp_56 (lv_at hl 5 rfl) ?_
          refine lv_bipush (v := 6) hx hb dL_addUp_58 (by decide) ?_
          obtain ⟨z51, hc60, h⟩ := k_b1_e h
          refine g_callRI_V (As := [.int z48, .int 6]) (rest := [.int z46]) hC (mX4_row l dC dI cyI cyC cyO ob n0 n1 n2 n3 t0 t1 t2 t3 s0 aR ro r1 r2 r3 x0 x1 x2 x3 x4 n_ones n_twos n_settings n_tick n_energy n_valuesPut t_ones t_twos t_settings t_tick t_energy t_valuesPut s_ring s_oldest s_count x_signs x_length x_position x_complete x_orders x_kinds x_numbers x_values z48 6 hc60) q231 q232 q233 q8 q234 2 hdX4_row ⟨Nat.le_of_ble_eq_true rfl, Nat.le_of_ble_eq_true rfl⟩ ⟨Nat.le_of_ble_eq_true rfl, Nat.le_of_ble_eq_true rfl⟩ rfl rfl hl.1 (Nat.le_of_ble_eq_true rfl) hP hK (va_recv hK hP (ci := 3) (q0 := 0) rfl rfl) hS dL_addUp_60 (fun H locs hk hS => ?_)
          have hP := k_kept hP hk
          refine g_iadd hx hb dL_addUp_63 h (fun z52 h => ?_)
          refine lv_istore_n (lv' := [(3, .int z52), (2, .int z50), (0, .ref ob), (1, .int z1), (4, .int z47), (5, .int z48)]) hx hb dL_addUp_64 rfl hl (by decide) rfl (fun ls hl => ?_)
          refine lv_aload_n hx hb dL_addUp_65 rfl (lv_at hl 2 rfl) ?_
          refine lv_iload hx hb dL_addUp_66 (lv_at hl 5 rfl) ?_
          refine lv_iconst (v := 1) hx hb dL_addUp_68 (by decide) ?_
          obtain ⟨z53, hc69, h⟩ := k_b1_e h
          refine g_callRI_V (As := [.int z48, .int 1]) (rest := []) hC (mX4_row l dC dI cyI cyC cyO ob n0 n1 n2 n3 t0 t1 t2 t3 s0 aR ro r1 r2 r3 x0 x1 x2 x3 x4 n_ones n_twos n_settings n_tick n_energy n_valuesPut t_ones t_twos t_settings t_tick t_energy t_valuesPut s_ring s_oldest s_count x_signs x_length x_position x_complete x_orders x_kinds x_numbers x_values z48 1 hc69) q231 q232 q233 q8 q234 2 hdX4_row ⟨Nat.le_of_ble_eq_true rfl, Nat.le_of_ble_eq_true rfl⟩ ⟨Nat.le_of_ble_eq_true rfl, Nat.le_of_ble_eq_true rfl⟩ rfl rfl hl.1 (Nat.le_of_ble_eq_true rfl) hP hK (va_recv hK hP (ci := 3) (q0 := 0) rfl rfl) hS dL_addUp_69 (fun H locs hk hS => ?_)
          have hP := k_kept hP hk
          obtain ⟨K82, hK82, h⟩ := k_j1_e h
          have J82 : ∀ (z54 : Int32) (H : Heap) (locs : List Loc) (ls : Array Slot), K82 z54 = some r → va_P (dC, dI) vwCl (wAll cyI cyC cyO ob n0 n1 n2 n3 t0 t1 t2 t3 s0 aR ro r1 r2 r3 x0 x1 x2 x3 x4 n_ones n_twos n_settings n_tick n_energy n_valuesPut t_ones t_twos t_settings t_tick t_energy t_valuesPut s_ring s_oldest s_count x_signs x_length x_position x_complete x_orders x_kinds x_numbers x_values) H → va_S kF s.heap H locs → lv_has ls 10 [(0, .ref ob), (1, .int z1), (2, .int z50), (3, .int z52), (5, .int z48)] → W p l e (k_rm 7 158) s m [.ref ob].toArray below meth c H locs 0 0 (MQ below (qRI r) [.ref ob].toArray s 0 0 kF) (F0 m 82 ls [.int z54]) := by
            intro z54 H locs ls h hP hS hl
            have h := k_a1 hK82 h
            refine lv_istore (lv' := [(4, .int z54), (0, .ref ob), (1, .int z1), (2, .int z50), (3, .int z52), (5, .int z48)]) hx hb dL_addUp_82 hl (by decide) rfl (fun ls hl => ?_)
            refine g_iinc (dv := 1) hx hb dL_addUp_84 hl (j := 5) rfl (by decide) (by decide) h (fun z55 ls h hl => ?_)
            have hl : lv_has ls 10 [(5, .int z55), (4, .int z54), (0, .ref ob), (1, .int z1), (2, .int z50), (3, .int z52)] := hl
            refine lv_goto (tgt := 36) hx hb dL_addUp_87 (by decide) ?_
            exact ih36 z50 z52 z54 z55 _ _ _ h hP hS (lv_sub hl [2, 3, 4, 5, 1, 0] rfl)
          refine g_if_le (tgt := 80) hx hb dL_addUp_72 (by decide) h (fun h => ?_) (fun h => ?_)
          · refine lv_iload hx hb dL_addUp_80 (lv_at hl 4 rfl) ?_
            exact J82 z47 _ _ _ h hP hS (lv_sub hl [2, 3, 1, 0, 5] rfl)
          · refine lv_iload hx hb dL_addUp_75 (lv_at hl 5 rfl) ?_
            refine lv_goto (tgt := 82) hx hb dL_addUp_77 (by decide) ?_
            exact J82 z48 _ _ _ h hP hS (lv_sub hl [2, 3, 1, 0, 5] rfl)
    exact L36 5000 0 0 ((-1)) 0 _ _ _ h hP hS (lv_sub hl [1, 2, 3, 4, 5, 0] rfl)
  obtain ⟨S12, hS12⟩ : ∃ z, z = (fL_addUp_s12 K33 n_ones n_twos n_settings n_tick n_energy n_valuesPut s_count) := ⟨_, rfl⟩
  rw [← hS12] at h
  have L12 : ∀ (n : Nat) (z56 : Int32) (z57 : Int32) (H : Heap) (locs : List Loc) (ls : Array Slot), k_l2 S12 n z56 z57 = some r → va_P (dC, dI) vwCl (wAll cyI cyC cyO ob n0 n1 n2 n3 t0 t1 t2 t3 s0 aR ro r1 r2 r3 x0 x1 x2 x3 x4 n_ones n_twos n_settings n_tick n_energy n_valuesPut t_ones t_twos t_settings t_tick t_energy t_valuesPut s_ring s_oldest s_count x_signs x_length x_position x_complete x_orders x_kinds x_numbers x_values) H → va_S kF s.heap H locs → lv_has ls 10 [(0, .ref ob), (1, .int z56), (2, .int 0), (3, .int 0), (4, .int ((-1))), (5, .int z57)] → W p l e (k_rm 7 158) s m [.ref ob].toArray below meth c H locs 0 0 (MQ below (qRI r) [.ref ob].toArray s 0 0 kF) (F0 m 12 ls []) := by
    intro n
    induction n with
    | zero =>
      intro z56 z57 H locs ls h
      exact (k_l2_0 h).elim
    | succ n ih12 =>
      intro z56 z57 H locs ls h hP hS hl
      have h := k_l2_s h
      have h := k_a3 hS12 h
      unfold fL_addUp_s12 at h
      refine lv_iload hx hb dL_addUp_12 (lv_at hl 5 rfl) ?_
      refine lv_iconst (v := 5) hx hb dL_addUp_14 (by decide) ?_
      refine g_icmp_gt (tgt := 33) hx hb dL_addUp_15 (by decide) h (fun h => ?_) (fun h => ?_)
      · exact J33 z56 _ _ _ h hP hS (lv_sub hl [0, 1, 2, 3, 4] rfl)
      · refine lv_iload_n hx hb dL_addUp_18 rfl (lv_at hl 1 rfl) ?_
        refine lv_aload_n hx hb dL_addUp_19 rfl (lv_at hl 0 rfl) ?_
        refine lv_iload hx hb dL_addUp_20 (lv_at hl 5 rfl) ?_
        obtain ⟨z58, hc22, h⟩ := k_b1_e h
        refine g_callRI_V (As := [.int z57]) (rest := [.int z56]) hC (mX4_count l dC dI cyI cyC cyO ob n0 n1 n2 n3 t0 t1 t2 t3 s0 aR ro r1 r2 r3 x0 x1 x2 x3 x4 n_ones n_twos n_settings n_tick n_energy n_valuesPut t_ones t_twos t_settings t_tick t_energy t_valuesPut s_ring s_oldest s_count x_signs x_length x_position x_complete x_orders x_kinds x_numbers x_values z57 hc22) q299 q300 q301 q8 q302 1 hdX4_count ⟨Nat.le_of_ble_eq_true rfl, Nat.le_of_ble_eq_true rfl⟩ ⟨Nat.le_of_ble_eq_true rfl, Nat.le_of_ble_eq_true rfl⟩ rfl rfl hl.1 (Nat.le_of_ble_eq_true rfl) hP hK (va_recv hK hP (ci := 3) (q0 := 0) rfl rfl) hS dL_addUp_22 (fun H locs hk hS => ?_)
        have hP := k_kept hP hk
        refine g_iadd hx hb dL_addUp_25 h (fun z59 h => ?_)
        refine lv_istore_n (lv' := [(1, .int z59), (0, .ref ob), (2, .int 0), (3, .int 0), (4, .int ((-1))), (5, .int z57)]) hx hb dL_addUp_26 rfl hl (by decide) rfl (fun ls hl => ?_)
        refine g_iinc (dv := 1) hx hb dL_addUp_27 hl (j := 5) rfl (by decide) (by decide) h (fun z60 ls h hl => ?_)
        have hl : lv_has ls 10 [(5, .int z60), (1, .int z59), (0, .ref ob), (2, .int 0), (3, .int 0), (4, .int ((-1)))] := hl
        refine lv_goto (tgt := 12) hx hb dL_addUp_30 (by decide) ?_
        exact ih12 z59 z60 _ _ _ h hP hS (lv_sub hl [2, 1, 3, 4, 5, 0] rfl)
  exact L12 5000 0 1 _ _ _ h hP hS (lv_sub hl [5, 4, 3, 2, 1, 0] rfl)
