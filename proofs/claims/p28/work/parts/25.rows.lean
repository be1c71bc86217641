abbrev wAll (cyI cyC cyO : ClassId) (ob : Nat) (n0 : Nat) (n1 : Nat) (n2 : Nat) (n3 : Nat) (t0 : Nat) (t1 : Nat) (t2 : Nat) (t3 : Nat) (s0 : Nat) (aR : Nat) (ro : Nat → Nat) (r1 : Nat → Nat) (r2 : Nat → Nat) (r3 : Nat → Nat) (x0 : Nat) (x1 : Nat) (x2 : Nat) (x3 : Nat) (x4 : Nat) (n_ones : Nat → Int32) (n_twos : Nat → Int32) (n_settings : Nat → Int32) (n_tick : Int32) (n_energy : Int32) (n_valuesPut : Int32) (t_ones : Nat → Int32) (t_twos : Nat → Int32) (t_settings : Nat → Int32) (t_tick : Int32) (t_energy : Int32) (t_valuesPut : Int32) (s_ring : Nat → SV) (s_oldest : Int32) (s_count : Int32) (x_signs : Nat → Int32) (x_length : Int32) (x_position : Int32) (x_complete : Int32) (x_orders : Int32) (x_kinds : Nat → Int32) (x_numbers : Nat → Int32) (x_values : Nat → Int32) : va_W := [(ob, .inr (3, [.ref n0, .ref t0, .ref s0, .ref x0])), (n0, .inr (2, [.ref n1, .ref n2, .ref n3, .int n_tick, .int n_energy, .int n_valuesPut])), (n1, .inl (cyI, 20, .inl n_ones)), (n2, .inl (cyI, 20, .inl n_twos)), (n3, .inl (cyI, 4, .inl n_settings)), (t0, .inr (2, [.ref t1, .ref t2, .ref t3, .int t_tick, .int t_energy, .int t_valuesPut])), (t1, .inl (cyI, 20, .inl t_ones)), (t2, .inl (cyI, 20, .inl t_twos)), (t3, .inl (cyI, 4, .inl t_settings)), (s0, .inr (1, [.ref aR, .int s_oldest, .int s_count])), (aR, .inl (cyO, 6, .inr (.inr (.inr (.inr (fun k => some (ro k))))))), (ro 0, .inr (2, [.ref (r1 0), .ref (r2 0), .ref (r3 0), .int (s_ring 0).2.2.2.1, .int (s_ring 0).2.2.2.2.1, .int (s_ring 0).2.2.2.2.2])), ((r1 0), .inl (cyI, 20, .inl (s_ring 0).1)), ((r2 0), .inl (cyI, 20, .inl (s_ring 0).2.1)), ((r3 0), .inl (cyI, 4, .inl (s_ring 0).2.2.1)), (ro 1, .inr (2, [.ref (r1 1), .ref (r2 1), .ref (r3 1), .int (s_ring 1).2.2.2.1, .int (s_ring 1).2.2.2.2.1, .int (s_ring 1).2.2.2.2.2])), ((r1 1), .inl (cyI, 20, .inl (s_ring 1).1)), ((r2 1), .inl (cyI, 20, .inl (s_ring 1).2.1)), ((r3 1), .inl (cyI, 4, .inl (s_ring 1).2.2.1)), (ro 2, .inr (2, [.ref (r1 2), .ref (r2 2), .ref (r3 2), .int (s_ring 2).2.2.2.1, .int (s_ring 2).2.2.2.2.1, .int (s_ring 2).2.2.2.2.2])), ((r1 2), .inl (cyI, 20, .inl (s_ring 2).1)), ((r2 2), .inl (cyI, 20, .inl (s_ring 2).2.1)), ((r3 2), .inl (cyI, 4, .inl (s_ring 2).2.2.1)), (ro 3, .inr (2, [.ref (r1 3), .ref (r2 3), .ref (r3 3), .int (s_ring 3).2.2.2.1, .int (s_ring 3).2.2.2.2.1, .int (s_ring 3).2.2.2.2.2])), ((r1 3), .inl (cyI, 20, .inl (s_ring 3).1)), ((r2 3), .inl (cyI, 20, .inl (s_ring 3).2.1)), ((r3 3), .inl (cyI, 4, .inl (s_ring 3).2.2.1)), (ro 4, .inr (2, [.ref (r1 4), .ref (r2 4), .ref (r3 4), .int (s_ring 4).2.2.2.1, .int (s_ring 4).2.2.2.2.1, .int (s_ring 4).2.2.2.2.2])), ((r1 4), .inl (cyI, 20, .inl (s_ring 4).1)), ((r2 4), .inl (cyI, 20, .inl (s_ring 4).2.1)), ((r3 4), .inl (cyI, 4, .inl (s_ring 4).2.2.1)), (ro 5, .inr (2, [.ref (r1 5), .ref (r2 5), .ref (r3 5), .int (s_ring 5).2.2.2.1, .int (s_ring 5).2.2.2.2.1, .int (s_ring 5).2.2.2.2.2])), ((r1 5), .inl (cyI, 20, .inl (s_ring 5).1)), ((r2 5), .inl (cyI, 20, .inl (s_ring 5).2.1)), ((r3 5), .inl (cyI, 4, .inl (s_ring 5).2.2.1)), (x0, .inr (0, [.ref x1, .int x_length, .int x_position, .int x_complete, .int x_orders, .ref x2, .ref x3, .ref x4])), (x1, .inl (cyC, 60, .inl x_signs)), (x2, .inl (cyI, 10, .inl x_kinds)), (x3, .inl (cyI, 10, .inl x_numbers)), (x4, .inl (cyI, 10, .inl x_values))]
def fX4_isIndex (p0 : Int32) (p1 : Int32) : Option (Int32) :=
  k_if (p0 < 0)
  (
    some 0)
  (
    k_if (p1 ≤ p0)
    (
      some 0)
    (
      some 1))
theorem hdX4_isIndex : yX4_isIndex.cls ≠ "java/lang/invoke/MethodHandle" ∧ yX4_isIndex.cls ≠ "java/lang/invoke/VarHandle" ∧ (parseMethodDescriptor yX4_isIndex.desc).map (fun d => d.parameters.length) = some 2 := by decide +kernel
set_option maxRecDepth 100000 in
set_option maxHeartbeats 4000000 in
theorem mX4_isIndex (l : Launch) (dC : Nat → ClassId) (dI : Nat → Nat → Nat) (cyI cyC cyO : ClassId)  (p0 : Int32) (p1 : Int32) {r : Int32} (hf : fX4_isIndex p0 p1 = some r) : MetRI l yX4_isIndex cX4_isIndex 2 (some .boolean) 0 0 [.int p0, .int p1] (dC, dI) (tyS cyI cyC cyO) [] r := by
  refine metRI_of (by decide) (Nat.le_of_ble_eq_true rfl) ?_
  intro p e s m below meth c ls hC hr hlk hP hK hl
  have hC : CallFix p m c cX4_isIndex 2 s [.int p0, .int p1].toArray wA RX4 := hC
  obtain ⟨hx, hb, hml, hown, hts⟩ := id hC
  have hS : va_S kF s.heap s.heap [] := va_S.rf
  have hl : lv_has ls 2 [(0, .int p0), (1, .int p1)] := hl
  have h := hf
  unfold fX4_isIndex at h
  obtain ⟨H, hH⟩ : ∃ H, H = s.heap := ⟨_, rfl⟩
  obtain ⟨locs, hlo⟩ : ∃ locs : List Loc, locs = [] := ⟨_, rfl⟩
  rw [← hH] at hP
  rw [← hlo] at hS
  have hS : va_S kF s.heap H locs := by rw [hH]; exact hS
  show W p l e (k_rm 0 0) s m [.int p0, .int p1].toArray below meth c s.heap [] 0 0 _ _
  rw [← hlo, ← hH]
  refine lv_iload_n hx hb dX4_isIndex_0 rfl (lv_at hl 0 rfl) ?_
  refine g_if_lt (tgt := 13) hx hb dX4_isIndex_1 (by decide) h (fun h => ?_) (fun h => ?_)
  · refine lv_iconst (v := 0) hx hb dX4_isIndex_13 (by decide) ?_
    exact g_retRZ hx hb hr (by decide +kernel) hlk hS h dX4_isIndex_14
  · refine lv_iload_n hx hb dX4_isIndex_4 rfl (lv_at hl 0 rfl) ?_
    refine lv_iload_n hx hb dX4_isIndex_5 rfl (lv_at hl 1 rfl) ?_
    refine g_icmp_ge (tgt := 13) hx hb dX4_isIndex_6 (by decide) h (fun h => ?_) (fun h => ?_)
    · refine lv_iconst (v := 0) hx hb dX4_isIndex_13 (by decide) ?_
      exact g_retRZ hx hb hr (by decide +kernel) hlk hS h dX4_isIndex_14
    · refine lv_iconst (v := 1) hx hb dX4_isIndex_9 (by decide) ?_
      refine lv_goto (tgt := 14) hx hb dX4_isIndex_10 (by decide) ?_
      exact g_retRZ hx hb hr (by decide +kernel) hlk hS h dX4_isIndex_14
def fX4_isWithin (p0 : Int32) (p1 : Int32) (p2 : Int32) : Option (Int32) :=
  k_if (p0 < p1)
  (
    some 0)
  (
    k_if (p2 < p0)
    (
      some 0)
    (
      some 1))
theorem hdX4_isWithin : yX4_isWithin.cls ≠ "java/lang/invoke/MethodHandle" ∧ yX4_isWithin.cls ≠ "java/lang/invoke/VarHandle" ∧ (parseMethodDescriptor yX4_isWithin.desc).map (fun d => d.parameters.length) = some 3 := by decide +kernel
set_option maxRecDepth 100000 in
set_option maxHeartbeats 4000000 in
theorem mX4_isWithin (l : Launch) (dC : Nat → ClassId) (dI : Nat → Nat → Nat) (cyI cyC cyO : ClassId)  (p0 : Int32) (p1 : Int32) (p2 : Int32) {r : Int32} (hf : fX4_isWithin p0 p1 p2 = some r) : MetRI l yX4_isWithin cX4_isWithin 3 (some .boolean) 0 0 [.int p0, .int p1, .int p2] (dC, dI) (tyS cyI cyC cyO) [] r := by
  refine metRI_of (by decide) (Nat.le_of_ble_eq_true rfl) ?_
  intro p e s m below meth c ls hC hr hlk hP hK hl
  have hC : CallFix p m c cX4_isWithin 3 s [.int p0, .int p1, .int p2].toArray wA RX4 := hC
  obtain ⟨hx, hb, hml, hown, hts⟩ := id hC
  have hS : va_S kF s.heap s.heap [] := va_S.rf
  have hl : lv_has ls 3 [(0, .int p0), (1, .int p1), (2, .int p2)] := hl
  have h := hf
  unfold fX4_isWithin at h
  obtain ⟨H, hH⟩ : ∃ H, H = s.heap := ⟨_, rfl⟩
  obtain ⟨locs, hlo⟩ : ∃ locs : List Loc, locs = [] := ⟨_, rfl⟩
  rw [← hH] at hP
  rw [← hlo] at hS
  have hS : va_S kF s.heap H locs := by rw [hH]; exact hS
  show W p l e (k_rm 0 0) s m [.int p0, .int p1, .int p2].toArray below meth c s.heap [] 0 0 _ _
  rw [← hlo, ← hH]
  refine lv_iload_n hx hb dX4_isWithin_0 rfl (lv_at hl 0 rfl) ?_
  refine lv_iload_n hx hb dX4_isWithin_1 rfl (lv_at hl 1 rfl) ?_
  refine g_icmp_lt (tgt := 14) hx hb dX4_isWithin_2 (by decide) h (fun h => ?_) (fun h => ?_)
  · refine lv_iconst (v := 0) hx hb dX4_isWithin_14 (by decide) ?_
    exact g_retRZ hx hb hr (by decide +kernel) hlk hS h dX4_isWithin_15
  · refine lv_iload_n hx hb dX4_isWithin_5 rfl (lv_at hl 0 rfl) ?_
    refine lv_iload_n hx hb dX4_isWithin_6 rfl (lv_at hl 2 rfl) ?_
    refine g_icmp_gt (tgt := 14) hx hb dX4_isWithin_7 (by decide) h (fun h => ?_) (fun h => ?_)
    · refine lv_iconst (v := 0) hx hb dX4_isWithin_14 (by decide) ?_
      exact g_retRZ hx hb hr (by decide +kernel) hlk hS h dX4_isWithin_15
    · refine lv_iconst (v := 1) hx hb dX4_isWithin_10 (by decide) ?_
      refine lv_goto (tgt := 15) hx hb dX4_isWithin_11 (by decide) ?_
      exact g_retRZ hx hb hr (by decide +kernel) hlk hS h dX4_isWithin_15
def fX4_blow (n_ones : Nat → Int32) (n_twos : Nat → Int32) (n_settings : Nat → Int32) (n_tick : Int32) (n_energy : Int32) (n_valuesPut : Int32) (s_ring : Nat → SV) (s_oldest : Int32) (s_count : Int32) (p1 : Int32) (p2 : Int32) (p3 : Int32) : Option (Int32 × (Nat → Int32) × (Nat → Int32) × Int32 × (Nat → SV) × Int32 × Int32) :=
  k_b1 (fX4_isIndex p1 20) fun (z1 : Int32) =>
  k_j1
  (fun (z2 : Int32) =>
    k_if (z2 = 0) none <|
    k_b1 (fX4_isWithin p3 1 3) fun (z3 : Int32) =>
    k_if (z3 = 0) none <|
    k_b1 (fX3_isLocked n_ones n_twos n_tick p1) fun (z4 : Int32) =>
    k_j1
    (fun (z5 : Int32) =>
      k_if (z5 = 0) none <|
      k_b3 (fX2_save s_ring s_oldest s_count n_ones n_twos n_settings n_tick n_energy n_valuesPut) fun (c6 : Nat → SV) (c7 : Int32) (c8 : Int32) =>
      k_b3 (fX3_blowFuse n_ones n_twos n_energy p1 p2 p3) fun (c9 : Nat → Int32) (c10 : Nat → Int32) (c11 : Int32) =>
      k_b1 (fX3_strength c9 c10 p1 p2) fun (z12 : Int32) =>
      some (z12, c9, c10, c11, c6, c7, c8))
    (fun K51 =>
    k_if (z4 = 0)
    (
      K51 1)
    (
      K51 0)))
  (fun K23 =>
  k_if (z1 = 0)
  (
    K23 0)
  (
    k_b1 (fX4_isIndex p2 16) fun (z13 : Int32) =>
    k_if (z13 = 0)
    (
      K23 0)
    (
      K23 1)))
theorem hdX4_blow : yX4_blow.cls = RX4 ∧ yX4_blow.cls ≠ "java/lang/invoke/MethodHandle" ∧ yX4_blow.cls ≠ "java/lang/invoke/VarHandle" ∧ (parseMethodDescriptor yX4_blow.desc).map (fun d => d.parameters.length) = some 3 := by decide +kernel
set_option maxRecDepth 100000 in
set_option maxHeartbeats 4000000 in
theorem mX4_blow (l : Launch) (dC : Nat → ClassId) (dI : Nat → Nat → Nat) (cyI cyC cyO : ClassId) (ob : Nat) (n0 : Nat) (n1 : Nat) (n2 : Nat) (n3 : Nat) (t0 : Nat) (t1 : Nat) (t2 : Nat) (t3 : Nat) (s0 : Nat) (aR : Nat) (ro : Nat → Nat) (r1 : Nat → Nat) (r2 : Nat → Nat) (r3 : Nat → Nat) (x0 : Nat) (x1 : Nat) (x2 : Nat) (x3 : Nat) (x4 : Nat) (n_ones : Nat → Int32) (n_twos : Nat → Int32) (n_settings : Nat → Int32) (n_tick : Int32) (n_energy : Int32) (n_valuesPut : Int32) (t_ones : Nat → Int32) (t_twos : Nat → Int32) (t_settings : Nat → Int32) (t_tick : Int32) (t_energy : Int32) (t_valuesPut : Int32) (s_ring : Nat → SV) (s_oldest : Int32) (s_count : Int32) (x_signs : Nat → Int32) (x_length : Int32) (x_position : Int32) (x_complete : Int32) (x_orders : Int32) (x_kinds : Nat → Int32) (x_numbers : Nat → Int32) (x_values : Nat → Int32) (p1 : Int32) (p2 : Int32) (p3 : Int32) {r : Int32} {r_n_ones : Nat → Int32} {r_n_twos : Nat → Int32} {r_n_energy : Int32} {r_s_ring : Nat → SV} {r_s_oldest : Int32} {r_s_count : Int32} (hf : fX4_blow n_ones n_twos n_settings n_tick n_energy n_valuesPut s_ring s_oldest s_count p1 p2 p3 = some (r, r_n_ones, r_n_twos, r_n_energy, r_s_ring, r_s_oldest, r_s_count)) : MetMI l yX4_blow cX4_blow 4 (some .int) 3 68 [.ref ob, .int p1, .int p2, .int p3] (dC, dI) (tyS cyI cyC cyO) (wAll cyI cyC cyO ob n0 n1 n2 n3 t0 t1 t2 t3 s0 aR ro r1 r2 r3 x0 x1 x2 x3 x4 n_ones n_twos n_settings n_tick n_energy n_valuesPut t_ones t_twos t_settings t_tick t_energy t_valuesPut s_ring s_oldest s_count x_signs x_length x_position x_complete x_orders x_kinds x_numbers x_values) (wAll cyI cyC cyO ob n0 n1 n2 n3 t0 t1 t2 t3 s0 aR ro r1 r2 r3 x0 x1 x2 x3 x4 r_n_ones r_n_twos n_settings n_tick r_n_energy n_valuesPut t_ones t_twos t_settings t_tick t_energy t_valuesPut r_s_ring r_s_oldest r_s_count x_signs x_length x_position x_complete x_orders x_kinds x_numbers x_values) r := by
  refine metMI_of (by decide) (Nat.le_of_ble_eq_true rfl) ?_
  intro p e s m below meth c ls hC hr hlk hP hK hD hl
  have hC : CallFix p m c cX4_blow 4 s [.ref ob, .int p1, .int p2, .int p3].toArray wA RX4 := hC
  obtain ⟨hx, hb, hml, hown, hts⟩ := id hC
  have hS : va_S (k_A (wAll cyI cyC cyO ob n0 n1 n2 n3 t0 t1 t2 t3 s0 aR ro r1 r2 r3 x0 x1 x2 x3 x4 n_ones n_twos n_settings n_tick n_energy n_valuesPut t_ones t_twos t_settings t_tick t_energy t_valuesPut s_ring s_oldest s_count x_signs x_length x_position x_complete x_orders x_kinds x_numbers x_values)) s.heap s.heap [] := va_S.rf
  have hl : lv_has ls 4 [(0, .ref ob), (1, .int p1), (2, .int p2), (3, .int p3)] := hl
  have h := hf
  unfold fX4_blow at h
  obtain ⟨H, hH⟩ : ∃ H, H = s.heap := ⟨_, rfl⟩
  obtain ⟨locs, hlo⟩ : ∃ locs : List Loc, locs = [] := ⟨_, rfl⟩
  rw [← hH] at hP
  rw [← hlo] at hS
  have hS : va_S (k_A (wAll cyI cyC cyO ob n0 n1 n2 n3 t0 t1 t2 t3 s0 aR ro r1 r2 r3 x0 x1 x2 x3 x4 n_ones n_twos n_settings n_tick n_energy n_valuesPut t_ones t_twos t_settings t_tick t_energy t_valuesPut s_ring s_oldest s_count x_signs x_length x_position x_complete x_orders x_kinds x_numbers x_values)) s.heap H locs := by rw [hH]; exact hS
  show W p l e (k_rm 3 68) s m [.ref ob, .int p1, .int p2, .int p3].toArray below meth c s.heap [] 0 0 _ _
  rw [← hlo, ← hH]
  refine lv_iload_n hx hb dX4_blow_0 rfl (lv_at hl 1 rfl) ?_
  refine lv_bipush (v := 20) hx hb dX4_blow_1 (by decide) ?_
  obtain ⟨z1, hc3, h⟩ := k_b1_e h
  refine g_callRI_S (As := [.int p1, .int 20]) (rest := []) hC (mX4_isIndex l dC dI cyI cyC cyO p1 20 hc3) q80 q81 q8 q82 2 hdX4_isIndex ⟨Nat.le_of_ble_eq_true rfl, Nat.le_of_ble_eq_true rfl⟩ ⟨Nat.le_of_ble_eq_true rfl, Nat.le_of_ble_eq_true rfl⟩ rfl rfl hl.1 (Nat.le_of_ble_eq_true rfl) va_P_nil hK hS dX4_blow_3 (fun H locs hk hS => ?_)
  have hP := k_kept hP hk
  obtain ⟨K23, hK23, h⟩ := k_j1_e h
  have J23 : ∀ (z2 : Int32) (H : Heap) (locs : List Loc) (ls : Array Slot), K23 z2 = some (r, r_n_ones, r_n_twos, r_n_energy, r_s_ring, r_s_oldest, r_s_count) → va_P (dC, dI) vwCl (wAll cyI cyC cyO ob n0 n1 n2 n3 t0 t1 t2 t3 s0 aR ro r1 r2 r3 x0 x1 x2 x3 x4 n_ones n_twos n_settings n_tick n_energy n_valuesPut t_ones t_twos t_settings t_tick t_energy t_valuesPut s_ring s_oldest s_count x_signs x_length x_position x_complete x_orders x_kinds x_numbers x_values) H → va_S (k_A (wAll cyI cyC cyO ob n0 n1 n2 n3 t0 t1 t2 t3 s0 aR ro r1 r2 r3 x0 x1 x2 x3 x4 n_ones n_twos n_settings n_tick n_energy n_valuesPut t_ones t_twos t_settings t_tick t_energy t_valuesPut s_ring s_oldest s_count x_signs x_length x_position x_complete x_orders x_kinds x_numbers x_values)) s.heap H locs → lv_has ls 4 [(0, .ref ob), (1, .int p1), (2, .int p2), (3, .int p3)] → W p l e (k_rm 3 68) s m [.ref ob, .int p1, .int p2, .int p3].toArray below meth c H locs 0 0 (MQ below (qMI r (dC, dI) (wAll cyI cyC cyO ob n0 n1 n2 n3 t0 t1 t2 t3 s0 aR ro r1 r2 r3 x0 x1 x2 x3 x4 n_ones n_twos n_settings n_tick n_energy n_valuesPut t_ones t_twos t_settings t_tick t_energy t_valuesPut s_ring s_oldest s_count x_signs x_length x_position x_complete x_orders x_kinds x_numbers x_values) (wAll cyI cyC cyO ob n0 n1 n2 n3 t0 t1 t2 t3 s0 aR ro r1 r2 r3 x0 x1 x2 x3 x4 r_n_ones r_n_twos n_settings n_tick r_n_energy n_valuesPut t_ones t_twos t_settings t_tick t_energy t_valuesPut r_s_ring r_s_oldest r_s_count x_signs x_length x_position x_complete x_orders x_kinds x_numbers x_values)) [.ref ob, .int p1, .int p2, .int p3].toArray s 0 0 (k_A (wAll cyI cyC cyO ob n0 n1 n2 n3 t0 t1 t2 t3 s0 aR ro r1 r2 r3 x0 x1 x2 x3 x4 n_ones n_twos n_settings n_tick n_energy n_valuesPut t_ones t_twos t_settings t_tick t_energy t_valuesPut s_ring s_oldest s_count x_signs x_length x_position x_complete x_orders x_kinds x_numbers x_values))) (F0 m 23 ls [.int z2]) := by
    intro z2 H locs ls h hP hS hl
    have h := k_a1 hK23 h
    obtain ⟨hv, h⟩ := k_req_e h
    refine g_callRV_S (As := [.int z2]) (rest := []) hC (mX4_requireIndex l (dC, dI) (tyS cyI cyC cyO) z2 hv) q188 q189 q8 q190 1 hdX4_requireIndex ⟨Nat.le_of_ble_eq_true rfl, Nat.le_of_ble_eq_true rfl⟩ ⟨Nat.le_of_ble_eq_true rfl, Nat.le_of_ble_eq_true rfl⟩ rfl rfl hl.1 (Nat.le_of_ble_eq_true rfl) va_P_nil hK hS dX4_blow_23 (fun H locs hk hS => ?_)
    have hP := k_kept hP hk
    refine lv_iload_n hx hb dX4_blow_26 rfl (lv_at hl 3 rfl) ?_
    refine lv_iconst (v := 1) hx hb dX4_blow_27 (by decide) ?_
    refine lv_iconst (v := 3) hx hb dX4_blow_28 (by decide) ?_
    obtain ⟨z3, hc29, h⟩ := k_b1_e h
    refine g_callRI_S (As := [.int p3, .int 1, .int 3]) (rest := []) hC (mX4_isWithin l dC dI cyI cyC cyO p3 1 3 hc29) q220 q221 q8 q222 3 hdX4_isWithin ⟨Nat.le_of_ble_eq_true rfl, Nat.le_of_ble_eq_true rfl⟩ ⟨Nat.le_of_ble_eq_true rfl, Nat.le_of_ble_eq_true rfl⟩ rfl rfl hl.1 (Nat.le_of_ble_eq_true rfl) va_P_nil hK hS dX4_blow_29 (fun H locs hk hS => ?_)
    have hP := k_kept hP hk
    obtain ⟨hv, h⟩ := k_req_e h
    refine g_callRV_S (As := [.int z3]) (rest := []) hC (mX4_requireArgument l (dC, dI) (tyS cyI cyC cyO) z3 hv) q83 q84 q8 q85 1 hdX4_requireArgument ⟨Nat.le_of_ble_eq_true rfl, Nat.le_of_ble_eq_true rfl⟩ ⟨Nat.le_of_ble_eq_true rfl, Nat.le_of_ble_eq_true rfl⟩ rfl rfl hl.1 (Nat.le_of_ble_eq_true rfl) va_P_nil hK hS dX4_blow_32 (fun H locs hk hS => ?_)
    have hP := k_kept hP hk
    refine lv_aload_n hx hb dX4_blow_35 rfl (lv_at hl 0 rfl) ?_
    refine va_get (D := (dC, dI)) (ci := 3) (v := .ref n0) (C := RX4) (T := TX4) (N := 4) hx hb hts iaX4 hown hK hP 0 rfl rfl 0 (by decide) (hts _ q72) (fun _ h9 => h9) rfl dX4_blow_36 ?_
    refine lv_iload_n hx hb dX4_blow_39 rfl (lv_at hl 1 rfl) ?_
    obtain ⟨z4, hc40, h⟩ := k_b1_e h
    refine g_callRI_V (As := [.int p1]) (rest := []) hC (mX3_isLocked l dC dI cyI cyC cyO n0 n1 n2 n3 n_ones n_twos n_settings n_tick n_energy n_valuesPut p1 hc40) q199 q155 q156 q9 q157 1 hdX3_isLocked ⟨Nat.le_of_ble_eq_true rfl, Nat.le_of_ble_eq_true rfl⟩ ⟨Nat.le_of_ble_eq_true rfl, Nat.le_of_ble_eq_true rfl⟩ rfl rfl hl.1 (Nat.le_of_ble_eq_true rfl) (hP.sub (ws' := (wX3 cyI cyC n0 n1 n2 n3 n_ones n_twos n_settings n_tick n_energy n_valuesPut)) [1, 2, 3, 4] rfl) hK (va_recv hK hP (ci := 2) (q0 := 1) rfl rfl) hS dX4_blow_40 (fun H locs hk hS => ?_)
    have hP := k_kept hP hk
    obtain ⟨K51, hK51, h⟩ := k_j1_e h
    have J51 : ∀ (z5 : Int32) (H : Heap) (locs : List Loc) (ls : Array Slot), K51 z5 = some (r, r_n_ones, r_n_twos, r_n_energy, r_s_ring, r_s_oldest, r_s_count) → va_P (dC, dI) vwCl (wAll cyI cyC cyO ob n0 n1 n2 n3 t0 t1 t2 t3 s0 aR ro r1 r2 r3 x0 x1 x2 x3 x4 n_ones n_twos n_settings n_tick n_energy n_valuesPut t_ones t_twos t_settings t_tick t_energy t_valuesPut s_ring s_oldest s_count x_signs x_length x_position x_complete x_orders x_kinds x_numbers x_values) H → va_S (k_A (wAll cyI cyC cyO ob n0 n1 n2 n3 t0 t1 t2 t3 s0 aR ro r1 r2 r3 x0 x1 x2 x3 x4 n_ones n_twos n_settings n_tick n_energy n_valuesPut t_ones t_twos t_settings t_tick t_energy t_valuesPut s_ring s_oldest s_count x_signs x_length x_position x_complete x_orders x_kinds x_numbers x_values)) s.heap H locs → lv_has ls 4 [(0, .ref ob), (1, .int p1), (2, .int p2), (3, .int p3)] → W p l e (k_rm 3 68) s m [.ref ob, .int p1, .int p2, .int p3].toArray below meth c H locs 0 0 (MQ below (qMI r (dC, dI) (wAll cyI cyC cyO ob n0 n1 n2 n3 t0 t1 t2 t3 s0 aR ro r1 r2 r3 x0 x1 x2 x3 x4 n_ones n_twos n_settings n_tick n_energy n_valuesPut t_ones t_twos t_settings t_tick t_energy t_valuesPut s_ring s_oldest s_count x_signs x_length x_position x_complete x_orders x_kinds x_numbers x_values) (wAll cyI cyC cyO ob n0 n1 n2 n3 t0 t1 t2 t3 s0 aR ro r1 r2 r3 x0 x1 x2 x3 x4 r_n_ones r_n_twos n_settings n_tick r_n_energy n_valuesPut t_ones t_twos t_settings t_tick t_energy t_valuesPut r_s_ring r_s_oldest r_s_count x_signs x_length x_position x_complete x_orders x_kinds x_numbers x_values)) [.ref ob, .int p1, .int p2, .int p3].toArray s 0 0 (k_A (wAll cyI cyC cyO ob n0 n1 n2 n3 t0 t1 t2 t3 s0 aR ro r1 r2 r3 x0 x1 x2 x3 x4 n_ones n_twos n_settings n_tick n_energy n_valuesPut t_ones t_twos t_settings t_tick t_energy t_valuesPut s_ring s_oldest s_count x_signs x_length x_position x_complete x_orders x_kinds x_numbers x_values))) (F0 m 51 ls [.int z5]) := by
      intro z5 H locs ls h hP hS hl
      have h := k_a1 hK51 h
      obtain ⟨hv, h⟩ := k_req_e h
      refine g_callRV_S (As := [.int z5]) (rest := []) hC (mX4_requireState l (dC, dI) (tyS cyI cyC cyO) z5 hv) q200 q201 q8 q202 1 hdX4_requireState ⟨Nat.le_of_ble_eq_true rfl, Nat.le_of_ble_eq_true rfl⟩ ⟨Nat.le_of_ble_eq_true rfl, Nat.le_of_ble_eq_true rfl⟩ rfl rfl hl.1 (Nat.le_of_ble_eq_true rfl) va_P_nil hK hS dX4_blow_51 (fun H locs hk hS => ?_)
      have hP := k_kept hP hk
      refine lv_aload_n hx hb dX4_blow_54 rfl (lv_at hl 0 rfl) ?_
      refine va_get (D := (dC, dI)) (ci := 3) (v := .ref s0) (C := RX4) (T := TX4) (N := 4) hx hb hts iaX4 hown hK hP 0 rfl rfl 2 (by decide) (hts _ q74) (fun _ h9 => h9) rfl dX4_blow_55 ?_
      refine lv_aload_n hx hb dX4_blow_58 rfl (lv_at hl 0 rfl) ?_
      refine va_get (D := (dC, dI)) (ci := 3) (v := .ref n0) (C := RX4) (T := TX4) (N := 4) hx hb hts iaX4 hown hK hP 0 rfl rfl 0 (by decide) (hts _ q72) (fun _ h9 => h9) rfl dX4_blow_59 ?_
      obtain ⟨c6, c7, c8, hc62, h⟩ := k_b3_e h
      refine g_callMV_V (As := [.ref n0]) (rest := []) hC (mX2_save l dC dI cyI cyC cyO s0 aR ro r1 r2 r3 n0 n1 n2 n3 s_ring s_oldest s_count n_ones n_twos n_settings n_tick n_energy n_valuesPut hc62) q124 q125 q126 q10 q127 1 hdX2_save ⟨Nat.le_of_ble_eq_true rfl, Nat.le_of_ble_eq_true rfl⟩ ⟨Nat.le_of_ble_eq_true rfl, Nat.le_of_ble_eq_true rfl⟩ rfl rfl hl.1 (Nat.le_of_ble_eq_true rfl) (hP.sub (ws' := (wX2 cyI cyC cyO s0 aR ro r1 r2 r3 s_ring s_oldest s_count) ++ (wX3 cyI cyC n0 n1 n2 n3 n_ones n_twos n_settings n_tick n_energy n_valuesPut)) [9, 10, 11, 12, 13, 14, 15, 16, 17, 18, 19, 20, 21, 22, 23, 24, 25, 26, 27, 28, 29, 30, 31, 32, 33, 34, 1, 2, 3, 4] rfl) hK (hD.sub (ws' := (wX2 cyI cyC cyO s0 aR ro r1 r2 r3 s_ring s_oldest s_count) ++ (wX3 cyI cyC n0 n1 n2 n3 n_ones n_twos n_settings n_tick n_energy n_valuesPut)) [9, 10, 11, 12, 13, 14, 15, 16, 17, 18, 19, 20, 21, 22, 23, 24, 25, 26, 27, 28, 29, 30, 31, 32, 33, 34, 1, 2, 3, 4] (by decide) rfl) (va_recv hK hP (ci := 1) (q0 := 9) rfl rfl) hS dX4_blow_62 (fun H locs hPn hk hS => ?_)
      have hP : va_P (dC, dI) vwCl (wAll cyI cyC cyO ob n0 n1 n2 n3 t0 t1 t2 t3 s0 aR ro r1 r2 r3 x0 x1 x2 x3 x4 n_ones n_twos n_settings n_tick n_energy n_valuesPut t_ones t_twos t_settings t_tick t_energy t_valuesPut c6 c7 c8 x_signs x_length x_position x_complete x_orders x_kinds x_numbers x_values) H := k_repl hP hD [9, 10, 11, 12, 13, 14, 15, 16, 17, 18, 19, 20, 21, 22, 23, 24, 25, 26, 27, 28, 29, 30, 31, 32, 33, 34, 1, 2, 3, 4] rfl hk hPn [.inl 0, .inr 26, .inr 27, .inr 28, .inr 29, .inl 5, .inl 6, .inl 7, .inl 8, .inr 0, .inr 1, .inr 2, .inr 3, .inr 4, .inr 5, .inr 6, .inr 7, .inr 8, .inr 9, .inr 10, .inr 11, .inr 12, .inr 13, .inr 14, .inr 15, .inr 16, .inr 17, .inr 18, .inr 19, .inr 20, .inr 21, .inr 22, .inr 23, .inr 24, .inr 25, .inl 35, .inl 36, .inl 37, .inl 38, .inl 39] rfl (by decide)
      have hD : va_D (k_A (wAll cyI cyC cyO ob n0 n1 n2 n3 t0 t1 t2 t3 s0 aR ro r1 r2 r3 x0 x1 x2 x3 x4 n_ones n_twos n_settings n_tick n_energy n_valuesPut t_ones t_twos t_settings t_tick t_energy t_valuesPut s_ring s_oldest s_count x_signs x_length x_position x_complete x_orders x_kinds x_numbers x_values)) (wAll cyI cyC cyO ob n0 n1 n2 n3 t0 t1 t2 t3 s0 aR ro r1 r2 r3 x0 x1 x2 x3 x4 n_ones n_twos n_settings n_tick n_energy n_valuesPut t_ones t_twos t_settings t_tick t_energy t_valuesPut c6 c7 c8 x_signs x_length x_position x_complete x_orders x_kinds x_numbers x_values) := k_Dm hD rfl
      refine lv_aload_n hx hb dX4_blow_65 rfl (lv_at hl 0 rfl) ?_
      refine va_get (D := (dC, dI)) (ci := 3) (v := .ref n0) (C := RX4) (T := TX4) (N := 4) hx hb hts iaX4 hown hK hP 0 rfl rfl 0 (by decide) (hts _ q72) (fun _ h9 => h9) rfl dX4_blow_66 ?_
      refine lv_iload_n hx hb dX4_blow_69 rfl (lv_at hl 1 rfl) ?_
      refine lv_iload_n hx hb dX4_blow_70 rfl (lv_at hl 2 rfl) ?_
      refine lv_iload_n hx hb dX4_blow_71 rfl (lv_at hl 3 rfl) ?_
      obtain ⟨c9, c10, c11, hc72, h⟩ := k_b3_e h
      refine g_callMV_V (As := [.int p1, .int p2, .int p3]) (rest := []) hC (mX3_blowFuse l dC dI cyI cyC cyO n0 n1 n2 n3 n_ones n_twos n_settings n_tick n_energy n_valuesPut p1 p2 p3 hc72) q211 q174 q175 q9 q176 3 hdX3_blowFuse ⟨Nat.le_of_ble_eq_true rfl, Nat.le_of_ble_eq_true rfl⟩ ⟨Nat.le_of_ble_eq_true rfl, Nat.le_of_ble_eq_true rfl⟩ rfl rfl hl.1 (Nat.le_of_ble_eq_true rfl) (hP.sub (ws' := (wX3 cyI cyC n0 n1 n2 n3 n_ones n_twos n_settings n_tick n_energy n_valuesPut)) [1, 2, 3, 4] rfl) hK (hD.sub (ws' := (wX3 cyI cyC n0 n1 n2 n3 n_ones n_twos n_settings n_tick n_energy n_valuesPut)) [1, 2, 3, 4] (by decide) rfl) (va_recv hK hP (ci := 2) (q0 := 1) rfl rfl) hS dX4_blow_72 (fun H locs hPn hk hS => ?_)
      have hP : va_P (dC, dI) vwCl (wAll cyI cyC cyO ob n0 n1 n2 n3 t0 t1 t2 t3 s0 aR ro r1 r2 r3 x0 x1 x2 x3 x4 c9 c10 n_settings n_tick c11 n_valuesPut t_ones t_twos t_settings t_tick t_energy t_valuesPut c6 c7 c8 x_signs x_length x_position x_complete x_orders x_kinds x_numbers x_values) H := k_repl hP hD [1, 2, 3, 4] rfl hk hPn [.inl 0, .inr 0, .inr 1, .inr 2, .inr 3, .inl 5, .inl 6, .inl 7, .inl 8, .inl 9, .inl 10, .inl 11, .inl 12, .inl 13, .inl 14, .inl 15, .inl 16, .inl 17, .inl 18, .inl 19, .inl 20, .inl 21, .inl 22, .inl 23, .inl 24, .inl 25, .inl 26, .inl 27, .inl 28, .inl 29, .inl 30, .inl 31, .inl 32, .inl 33, .inl 34, .inl 35, .inl 36, .inl 37, .inl 38, .inl 39] rfl (by decide)
      have hD : va_D (k_A (wAll cyI cyC cyO ob n0 n1 n2 n3 t0 t1 t2 t3 s0 aR ro r1 r2 r3 x0 x1 x2 x3 x4 n_ones n_twos n_settings n_tick n_energy n_valuesPut t_ones t_twos t_settings t_tick t_energy t_valuesPut s_ring s_oldest s_count x_signs x_length x_position x_complete x_orders x_kinds x_numbers x_values)) (wAll cyI cyC cyO ob n0 n1 n2 n3 t0 t1 t2 t3 s0 aR ro r1 r2 r3 x0 x1 x2 x3 x4 c9 c10 n_settings n_tick c11 n_valuesPut t_ones t_twos t_settings t_tick t_energy t_valuesPut c6 c7 c8 x_signs x_length x_position x_complete x_orders x_kinds x_numbers x_values) := k_Dm hD rfl
      refine lv_aload_n hx hb dX4_blow_75 rfl (lv_at hl 0 rfl) ?_
      refine va_get (D := (dC, dI)) (ci := 3) (v := .ref n0) (C := RX4) (T := TX4) (N := 4) hx hb hts iaX4 hown hK hP 0 rfl rfl 0 (by decide) (hts _ q72) (fun _ h9 => h9) rfl dX4_blow_76 ?_
      refine lv_iload_n hx hb dX4_blow_79 rfl (lv_at hl 1 rfl) ?_
      refine lv_iload_n hx hb dX4_blow_80 rfl (lv_at hl 2 rfl) ?_
      obtain ⟨z12, hc81, h⟩ := k_b1_e h
      refine g_callRI_V (As := [.int p1, .int p2]) (rest := []) hC (mX3_strength l dC dI cyI cyC cyO n0 n1 n2 n3 c9 c10 n_settings n_tick c11 n_valuesPut p1 p2 hc81) q412 q178 q179 q9 q180 2 hdX3_strength ⟨Nat.le_of_ble_eq_true rfl, Nat.le_of_ble_eq_true rfl⟩ ⟨Nat.le_of_ble_eq_true rfl, Nat.le_of_ble_eq_true rfl⟩ rfl rfl hl.1 (Nat.le_of_ble_eq_true rfl) (hP.sub (ws' := (wX3 cyI cyC n0 n1 n2 n3 c9 c10 n_settings n_tick c11 n_valuesPut)) [1, 2, 3, 4] rfl) hK (va_recv hK hP (ci := 2) (q0 := 1) rfl rfl) hS dX4_blow_81 (fun H locs hk hS => ?_)
      have hP := k_kept hP hk
      obtain ⟨e0, e1, e2, e3, e4, e5, e6⟩ := k_t7 h
      exact g_retMI hx hb hr hlk hS e0 (by rw [← e1, ← e2, ← e3, ← e4, ← e5, ← e6]; exact hP) dX4_blow_84
    refine g_if_ne (tgt := 50) hx hb dX4_blow_43 (by decide) h (fun h => ?_) (fun h => ?_)
    · refine lv_iconst (v := 0) hx hb dX4_blow_50 (by decide) ?_
      exact J51 0 _ _ _ h hP hS (lv_sub hl [0, 1, 2, 3] rfl)
    · refine lv_iconst (v := 1) hx hb dX4_blow_46 (by decide) ?_
      refine lv_goto (tgt := 51) hx hb dX4_blow_47 (by decide) ?_
      exact J51 1 _ _ _ h hP hS (lv_sub hl [0, 1, 2, 3] rfl)
  refine g_if_eq (tgt := 22) hx hb dX4_blow_6 (by decide) h (fun h => ?_) (fun h => ?_)
  · refine lv_iconst (v := 0) hx hb dX4_blow_22 (by decide) ?_
    exact J23 0 _ _ _ h hP hS (lv_sub hl [0, 1, 2, 3] rfl)
  · refine lv_iload_n hx hb dX4_blow_9 rfl (lv_at hl 2 rfl) ?_
    refine lv_bipush (v := 16) hx hb dX4_blow_10 (by decide) ?_
    obtain ⟨z13, hc12, h⟩ := k_b1_e h
    refine g_callRI_S (As := [.int p2, .int 16]) (rest := []) hC (mX4_isIndex l dC dI cyI cyC cyO p2 16 hc12) q80 q81 q8 q82 2 hdX4_isIndex ⟨Nat.le_of_ble_eq_true rfl, Nat.le_of_ble_eq_true rfl⟩ ⟨Nat.le_of_ble_eq_true rfl, Nat.le_of_ble_eq_true rfl⟩ rfl rfl hl.1 (Nat.le_of_ble_eq_true rfl) va_P_nil hK hS dX4_blow_12 (fun H locs hk hS => ?_)
    have hP := k_kept hP hk
    refine g_if_eq (tgt := 22) hx hb dX4_blow_15 (by decide) h (fun h => ?_) (fun h => ?_)
    · refine lv_iconst (v := 0) hx hb dX4_blow_22 (by decide) ?_
      exact J23 0 _ _ _ h hP hS (lv_sub hl [0, 1, 2, 3] rfl)
    · refine lv_iconst (v := 1) hx hb dX4_blow_18 (by decide) ?_
      refine lv_goto (tgt := 23) hx hb dX4_blow_19 (by decide) ?_
      exact J23 1 _ _ _ h hP hS (lv_sub hl [0, 1, 2, 3] rfl)
def fX4_put (n_ones : Nat → Int32) (n_twos : Nat → Int32) (n_settings : Nat → Int32) (n_tick : Int32) (n_energy : Int32) (n_valuesPut : Int32) (s_ring : Nat → SV) (s_oldest : Int32) (s_count : Int32) (p1 : Int32) (p2 : Int32) : Option (Int32 × (Nat → Int32) × (Nat → Int32) × Int32 × Int32 × (Nat → SV) × Int32 × Int32) :=
  k_b1 (fX4_isIndex p1 16) fun (z1 : Int32) =>
  k_j1
  (fun (z2 : Int32) =>
    k_if (z2 = 0) none <|
    k_b1 (fX3_nextRow n_ones n_twos n_settings n_tick) fun (z3 : Int32) =>
    k_j1
    (fun (z4 : Int32) =>
      k_if (z4 = 0) none <|
      k_b3 (fX2_save s_ring s_oldest s_count n_ones n_twos n_settings n_tick n_energy n_valuesPut) fun (c5 : Nat → SV) (c6 : Int32) (c7 : Int32) =>
      k_b5 (fX3_putNext n_ones n_twos n_settings n_tick n_energy n_valuesPut p1 p2) fun (z8 : Int32) (c9 : Nat → Int32) (c10 : Nat → Int32) (c11 : Int32) (c12 : Int32) =>
      some (z8, c9, c10, c11, c12, c5, c6, c7))
    (fun K42 =>
    k_if (z3 = ((-1)))
    (
      K42 0)
    (
      K42 1)))
  (fun K23 =>
  k_if (z1 = 0)
  (
    K23 0)
  (
    k_b1 (fX4_isIndex p2 64) fun (z13 : Int32) =>
    k_if (z13 = 0)
    (
      K23 0)
    (
      K23 1)))
theorem hdX4_put : yX4_put.cls = RX4 ∧ yX4_put.cls ≠ "java/lang/invoke/MethodHandle" ∧ yX4_put.cls ≠ "java/lang/invoke/VarHandle" ∧ (parseMethodDescriptor yX4_put.desc).map (fun d => d.parameters.length) = some 2 := by decide +kernel
set_option maxRecDepth 100000 in
set_option maxHeartbeats 4000000 in
theorem mX4_put (l : Launch) (dC : Nat → ClassId) (dI : Nat → Nat → Nat) (cyI cyC cyO : ClassId) (ob : Nat) (n0 : Nat) (n1 : Nat) (n2 : Nat) (n3 : Nat) (t0 : Nat) (t1 : Nat) (t2 : Nat) (t3 : Nat) (s0 : Nat) (aR : Nat) (ro : Nat → Nat) (r1 : Nat → Nat) (r2 : Nat → Nat) (r3 : Nat → Nat) (x0 : Nat) (x1 : Nat) (x2 : Nat) (x3 : Nat) (x4 : Nat) (n_ones : Nat → Int32) (n_twos : Nat → Int32) (n_settings : Nat → Int32) (n_tick : Int32) (n_energy : Int32) (n_valuesPut : Int32) (t_ones : Nat → Int32) (t_twos : Nat → Int32) (t_settings : Nat → Int32) (t_tick : Int32) (t_energy : Int32) (t_valuesPut : Int32) (s_ring : Nat → SV) (s_oldest : Int32) (s_count : Int32) (x_signs : Nat → Int32) (x_length : Int32) (x_position : Int32) (x_complete : Int32) (x_orders : Int32) (x_kinds : Nat → Int32) (x_numbers : Nat → Int32) (x_values : Nat → Int32) (p1 : Int32) (p2 : Int32) {r : Int32} {r_n_ones : Nat → Int32} {r_n_twos : Nat → Int32} {r_n_energy : Int32} {r_n_valuesPut : Int32} {r_s_ring : Nat → SV} {r_s_oldest : Int32} {r_s_count : Int32} (hf : fX4_put n_ones n_twos n_settings n_tick n_energy n_valuesPut s_ring s_oldest s_count p1 p2 = some (r, r_n_ones, r_n_twos, r_n_energy, r_n_valuesPut, r_s_ring, r_s_oldest, r_s_count)) : MetMI l yX4_put cX4_put 3 (some .int) 5 121 [.ref ob, .int p1, .int p2] (dC, dI) (tyS cyI cyC cyO) (wAll cyI cyC cyO ob n0 n1 n2 n3 t0 t1 t2 t3 s0 aR ro r1 r2 r3 x0 x1 x2 x3 x4 n_ones n_twos n_settings n_tick n_energy n_valuesPut t_ones t_twos t_settings t_tick t_energy t_valuesPut s_ring s_oldest s_count x_signs x_length x_position x_complete x_orders x_kinds x_numbers x_values) (wAll cyI cyC cyO ob n0 n1 n2 n3 t0 t1 t2 t3 s0 aR ro r1 r2 r3 x0 x1 x2 x3 x4 r_n_ones r_n_twos n_settings n_tick r_n_energy r_n_valuesPut t_ones t_twos t_settings t_tick t_energy t_valuesPut r_s_ring r_s_oldest r_s_count x_signs x_length x_position x_complete x_orders x_kinds x_numbers x_values) r := by
  refine metMI_of (by decide) (Nat.le_of_ble_eq_true rfl) ?_
  intro p e s m below meth c ls hC hr hlk hP hK hD hl
  have hC : CallFix p m c cX4_put 3 s [.ref ob, .int p1, .int p2].toArray wA RX4 := hC
  obtain ⟨hx, hb, hml, hown, hts⟩ := id hC
  have hS : va_S (k_A (wAll cyI cyC cyO ob n0 n1 n2 n3 t0 t1 t2 t3 s0 aR ro r1 r2 r3 x0 x1 x2 x3 x4 n_ones n_twos n_settings n_tick n_energy n_valuesPut t_ones t_twos t_settings t_tick t_energy t_valuesPut s_ring s_oldest s_count x_signs x_length x_position x_complete x_orders x_kinds x_numbers x_values)) s.heap s.heap [] := va_S.rf
  have hl : lv_has ls 3 [(0, .ref ob), (1, .int p1), (2, .int p2)] := hl
  have h := hf
  unfold fX4_put at h
  obtain ⟨H, hH⟩ : ∃ H, H = s.heap := ⟨_, rfl⟩
  obtain ⟨locs, hlo⟩ : ∃ locs : List Loc, locs = [] := ⟨_, rfl⟩
  rw [← hH] at hP
  rw [← hlo] at hS
  have hS : va_S (k_A (wAll cyI cyC cyO ob n0 n1 n2 n3 t0 t1 t2 t3 s0 aR ro r1 r2 r3 x0 x1 x2 x3 x4 n_ones n_twos n_settings n_tick n_energy n_valuesPut t_ones t_twos t_settings t_tick t_energy t_valuesPut s_ring s_oldest s_count x_signs x_length x_position x_complete x_orders x_kinds x_numbers x_values)) s.heap H locs := by rw [hH]; exact hS
  show W p l e (k_rm 5 121) s m [.ref ob, .int p1, .int p2].toArray below meth c s.heap [] 0 0 _ _
  rw [← hlo, ← hH]
  refine lv_iload_n hx hb dX4_put_0 rfl (lv_at hl 1 rfl) ?_
  refine lv_bipush (v := 16) hx hb dX4_put_1 (by decide) ?_
  obtain ⟨z1, hc3, h⟩ := k_b1_e h
  refine g_callRI_S (As := [.int p1, .int 16]) (rest := []) hC (mX4_isIndex l dC dI cyI cyC cyO p1 16 hc3) q80 q81 q8 q82 2 hdX4_isIndex ⟨Nat.le_of_ble_eq_true rfl, Nat.le_of_ble_eq_true rfl⟩ ⟨Nat.le_of_ble_eq_true rfl, Nat.le_of_ble_eq_true rfl⟩ rfl rfl hl.1 (Nat.le_of_ble_eq_true rfl) va_P_nil hK hS dX4_put_3 (fun H locs hk hS => ?_)
  have hP := k_kept hP hk
  obtain ⟨K23, hK23, h⟩ := k_j1_e h
  have J23 : ∀ (z2 : Int32) (H : Heap) (locs : List Loc) (ls : Array Slot), K23 z2 = some (r, r_n_ones, r_n_twos, r_n_energy, r_n_valuesPut, r_s_ring, r_s_oldest, r_s_count) → va_P (dC, dI) vwCl (wAll cyI cyC cyO ob n0 n1 n2 n3 t0 t1 t2 t3 s0 aR ro r1 r2 r3 x0 x1 x2 x3 x4 n_ones n_twos n_settings n_tick n_energy n_valuesPut t_ones t_twos t_settings t_tick t_energy t_valuesPut s_ring s_oldest s_count x_signs x_length x_position x_complete x_orders x_kinds x_numbers x_values) H → va_S (k_A (wAll cyI cyC cyO ob n0 n1 n2 n3 t0 t1 t2 t3 s0 aR ro r1 r2 r3 x0 x1 x2 x3 x4 n_ones n_twos n_settings n_tick n_energy n_valuesPut t_ones t_twos t_settings t_tick t_energy t_valuesPut s_ring s_oldest s_count x_signs x_length x_position x_complete x_orders x_kinds x_numbers x_values)) s.heap H locs → lv_has ls 3 [(0, .ref ob), (1, .int p1), (2, .int p2)] → W p l e (k_rm 5 121) s m [.ref ob, .int p1, .int p2].toArray below meth c H locs 0 0 (MQ below (qMI r (dC, dI) (wAll cyI cyC cyO ob n0 n1 n2 n3 t0 t1 t2 t3 s0 aR ro r1 r2 r3 x0 x1 x2 x3 x4 n_ones n_twos n_settings n_tick n_energy n_valuesPut t_ones t_twos t_settings t_tick t_energy t_valuesPut s_ring s_oldest s_count x_signs x_length x_position x_complete x_orders x_kinds x_numbers x_values) (wAll cyI cyC cyO ob n0 n1 n2 n3 t0 t1 t2 t3 s0 aR ro r1 r2 r3 x0 x1 x2 x3 x4 r_n_ones r_n_twos n_settings n_tick r_n_energy r_n_valuesPut t_ones t_twos t_settings t_tick t_energy t_valuesPut r_s_ring r_s_oldest r_s_count x_signs x_length x_position x_complete x_orders x_kinds x_numbers x_values)) [.ref ob, .int p1, .int p2].toArray s 0 0 (k_A (wAll cyI cyC cyO ob n0 n1 n2 n3 t0 t1 t2 t3 s0 aR ro r1 r2 r3 x0 x1 x2 x3 x4 n_ones n_twos n_settings n_tick n_energy n_valuesPut t_ones t_twos t_settings t_tick t_energy t_valuesPut s_ring s_oldest s_count x_signs x_length x_position x_complete x_orders x_kinds x_numbers x_values))) (F0 m 23 ls [.int z2]) := by
    intro z2 H locs ls h hP hS hl
    have h := k_a1 hK23 h
    obtain ⟨hv, h⟩ := k_req_e h
    refine g_callRV_S (As := [.int z2]) (rest := []) hC (mX4_requireArgument l (dC, dI) (tyS cyI cyC cyO) z2 hv) q83 q84 q8 q85 1 hdX4_requireArgument ⟨Nat.le_of_ble_eq_true rfl, Nat.le_of_ble_eq_true rfl⟩ ⟨Nat.le_of_ble_eq_true rfl, Nat.le_of_ble_eq_true rfl⟩ rfl rfl hl.1 (Nat.le_of_ble_eq_true rfl) va_P_nil hK hS dX4_put_23 (fun H locs hk hS => ?_)
    have hP := k_kept hP hk
    refine lv_aload_n hx hb dX4_put_26 rfl (lv_at hl 0 rfl) ?_
    refine va_get (D := (dC, dI)) (ci := 3) (v := .ref n0) (C := RX4) (T := TX4) (N := 4) hx hb hts iaX4 hown hK hP 0 rfl rfl 0 (by decide) (hts _ q72) (fun _ h9 => h9) rfl dX4_put_27 ?_
    obtain ⟨z3, hc30, h⟩ := k_b1_e h
    refine g_callRI_V (As := []) (rest := []) hC (mX3_nextRow l dC dI cyI cyC cyO n0 n1 n2 n3 n_ones n_twos n_settings n_tick n_energy n_valuesPut hc30) q315 q316 q317 q9 q318 0 hdX3_nextRow ⟨Nat.le_of_ble_eq_true rfl, Nat.le_of_ble_eq_true rfl⟩ ⟨Nat.le_of_ble_eq_true rfl, Nat.le_of_ble_eq_true rfl⟩ rfl rfl hl.1 (Nat.le_of_ble_eq_true rfl) (hP.sub (ws' := (wX3 cyI cyC n0 n1 n2 n3 n_ones n_twos n_settings n_tick n_energy n_valuesPut)) [1, 2, 3, 4] rfl) hK (va_recv hK hP (ci := 2) (q0 := 1) rfl rfl) hS dX4_put_30 (fun H locs hk hS => ?_)
    have hP := k_kept hP hk
    refine lv_iconst (v := (-1)) hx hb dX4_put_33 (by decide) ?_
    obtain ⟨K42, hK42, h⟩ := k_j1_e h
    have J42 : ∀ (z4 : Int32) (H : Heap) (locs : List Loc) (ls : Array Slot), K42 z4 = some (r, r_n_ones, r_n_twos, r_n_energy, r_n_valuesPut, r_s_ring, r_s_oldest, r_s_count) → va_P (dC, dI) vwCl (wAll cyI cyC cyO ob n0 n1 n2 n3 t0 t1 t2 t3 s0 aR ro r1 r2 r3 x0 x1 x2 x3 x4 n_ones n_twos n_settings n_tick n_energy n_valuesPut t_ones t_twos t_settings t_tick t_energy t_valuesPut s_ring s_oldest s_count x_signs x_length x_position x_complete x_orders x_kinds x_numbers x_values) H → va_S (k_A (wAll cyI cyC cyO ob n0 n1 n2 n3 t0 t1 t2 t3 s0 aR ro r1 r2 r3 x0 x1 x2 x3 x4 n_ones n_twos n_settings n_tick n_energy n_valuesPut t_ones t_twos t_settings t_tick t_energy t_valuesPut s_ring s_oldest s_count x_signs x_length x_position x_complete x_orders x_kinds x_numbers x_values)) s.heap H locs → lv_has ls 3 [(0, .ref ob), (1, .int p1), (2, .int p2)] → W p l e (k_rm 5 121) s m [.ref ob, .int p1, .int p2].toArray below meth c H locs 0 0 (MQ below (qMI r (dC, dI) (wAll cyI cyC cyO ob n0 n1 n2 n3 t0 t1 t2 t3 s0 aR ro r1 r2 r3 x0 x1 x2 x3 x4 n_ones n_twos n_settings n_tick n_energy n_valuesPut t_ones t_twos t_settings t_tick t_energy t_valuesPut s_ring s_oldest s_count x_signs x_length x_position x_complete x_orders x_kinds x_numbers x_values) (wAll cyI cyC cyO ob n0 n1 n2 n3 t0 t1 t2 t3 s0 aR ro r1 r2 r3 x0 x1 x2 x3 x4 r_n_ones r_n_twos n_settings n_tick r_n_energy r_n_valuesPut t_ones t_twos t_settings t_tick t_energy t_valuesPut r_s_ring r_s_oldest r_s_count x_signs x_length x_position x_complete x_orders x_kinds x_numbers x_values)) [.ref ob, .int p1, .int p2].toArray s 0 0 (k_A (wAll cyI cyC cyO ob n0 n1 n2 n3 t0 t1 t2 t3 s0 aR ro r1 r2 r3 x0 x1 x2 x3 x4 n_ones n_twos n_settings n_tick n_energy n_valuesPut t_ones t_twos t_settings t_tick t_energy t_valuesPut s_ring s_oldest s_count x_signs x_length x_position x_complete x_orders x_kinds x_numbers x_values))) (F0 m 42 ls [.int z4]) := by
      intro z4 H locs ls h hP hS hl
      have h := k_a1 hK42 h
      obtain ⟨hv, h⟩ := k_req_e h
      refine g_callRV_S (As := [.int z4]) (rest := []) hC (mX4_requireState l (dC, dI) (tyS cyI cyC cyO) z4 hv) q200 q201 q8 q202 1 hdX4_requireState ⟨Nat.le_of_ble_eq_true rfl, Nat.le_of_ble_eq_true rfl⟩ ⟨Nat.le_of_ble_eq_true rfl, Nat.le_of_ble_eq_true rfl⟩ rfl rfl hl.1 (Nat.le_of_ble_eq_true rfl) va_P_nil hK hS dX4_put_42 (fun H locs hk hS => ?_)
      have hP := k_kept hP hk
      refine lv_aload_n hx hb dX4_put_45 rfl (lv_at hl 0 rfl) ?_
      refine va_get (D := (dC, dI)) (ci := 3) (v := .ref s0) (C := RX4) (T := TX4) (N := 4) hx hb hts iaX4 hown hK hP 0 rfl rfl 2 (by decide) (hts _ q74) (fun _ h9 => h9) rfl dX4_put_46 ?_
      refine lv_aload_n hx hb dX4_put_49 rfl (lv_at hl 0 rfl) ?_
      refine va_get (D := (dC, dI)) (ci := 3) (v := .ref n0) (C := RX4) (T := TX4) (N := 4) hx hb hts iaX4 hown hK hP 0 rfl rfl 0 (by decide) (hts _ q72) (fun _ h9 => h9) rfl dX4_put_50 ?_
      obtain ⟨c5, c6, c7, hc53, h⟩ := k_b3_e h
      refine g_callMV_V (As := [.ref n0]) (rest := []) hC (mX2_save l dC dI cyI cyC cyO s0 aR ro r1 r2 r3 n0 n1 n2 n3 s_ring s_oldest s_count n_ones n_twos n_settings n_tick n_energy n_valuesPut hc53) q124 q125 q126 q10 q127 1 hdX2_save ⟨Nat.le_of_ble_eq_true rfl, Nat.le_of_ble_eq_true rfl⟩ ⟨Nat.le_of_ble_eq_true rfl, Nat.le_of_ble_eq_true rfl⟩ rfl rfl hl.1 (Nat.le_of_ble_eq_true rfl) (hP.sub (ws' := (wX2 cyI cyC cyO s0 aR ro r1 r2 r3 s_ring s_oldest s_count) ++ (wX3 cyI cyC n0 n1 n2 n3 n_ones n_twos n_settings n_tick n_energy n_valuesPut)) [9, 10, 11, 12, 13, 14, 15, 16, 17, 18, 19, 20, 21, 22, 23, 24, 25, 26, 27, 28, 29, 30, 31, 32, 33, 34, 1, 2, 3, 4] rfl) hK (hD.sub (ws' := (wX2 cyI cyC cyO s0 aR ro r1 r2 r3 s_ring s_oldest s_count) ++ (wX3 cyI cyC n0 n1 n2 n3 n_ones n_twos n_settings n_tick n_energy n_valuesPut)) [9, 10, 11, 12, 13, 14, 15, 16, 17, 18, 19, 20, 21, 22, 23, 24, 25, 26, 27, 28, 29, 30, 31, 32, 33, 34, 1, 2, 3, 4] (by decide) rfl) (va_recv hK hP (ci := 1) (q0 := 9) rfl rfl) hS dX4_put_53 (fun H locs hPn hk hS => ?_)
      have hP : va_P (dC, dI) vwCl (wAll cyI cyC cyO ob n0 n1 n2 n3 t0 t1 t2 t3 s0 aR ro r1 r2 r3 x0 x1 x2 x3 x4 n_ones n_twos n_settings n_tick n_energy n_valuesPut t_ones t_twos t_settings t_tick t_energy t_valuesPut c5 c6 c7 x_signs x_length x_position x_complete x_orders x_kinds x_numbers x_values) H := k_repl hP hD [9, 10, 11, 12, 13, 14, 15, 16, 17, 18, 19, 20, 21, 22, 23, 24, 25, 26, 27, 28, 29, 30, 31, 32, 33, 34, 1, 2, 3, 4] rfl hk hPn [.inl 0, .inr 26, .inr 27, .inr 28, .inr 29, .inl 5, .inl 6, .inl 7, .inl 8, .inr 0, .inr 1, .inr 2, .inr 3, .inr 4, .inr 5, .inr 6, .inr 7, .inr 8, .inr 9, .inr 10, .inr 11, .inr 12, .inr 13, .inr 14, .inr 15, .inr 16, .inr 17, .inr 18, .inr 19, .inr 20, .inr 21, .inr 22, .inr 23, .inr 24, .inr 25, .inl 35, .inl 36, .inl 37, .inl 38, .inl 39] rfl (by decide)
      have hD : va_D (k_A (wAll cyI cyC cyO ob n0 n1 n2 n3 t0 t1 t2 t3 s0 aR ro r1 r2 r3 x0 x1 x2 x3 x4 n_ones n_twos n_settings n_tick n_energy n_valuesPut t_ones t_twos t_settings t_tick t_energy t_valuesPut s_ring s_oldest s_count x_signs x_length x_position x_complete x_orders x_kinds x_numbers x_values)) (wAll cyI cyC cyO ob n0 n1 n2 n3 t0 t1 t2 t3 s0 aR ro r1 r2 r3 x0 x1 x2 x3 x4 n_ones n_twos n_settings n_tick n_energy n_valuesPut t_ones t_twos t_settings t_tick t_energy t_valuesPut c5 c6 c7 x_signs x_length x_position x_complete x_orders x_kinds x_numbers x_values) := k_Dm hD rfl
      refine lv_aload_n hx hb dX4_put_56 rfl (lv_at hl 0 rfl) ?_
      refine va_get (D := (dC, dI)) (ci := 3) (v := .ref n0) (C := RX4) (T := TX4) (N := 4) hx hb hts iaX4 hown hK hP 0 rfl rfl 0 (by decide) (hts _ q72) (fun _ h9 => h9) rfl dX4_put_57 ?_
      refine lv_iload_n hx hb dX4_put_60 rfl (lv_at hl 1 rfl) ?_
      refine lv_iload_n hx hb dX4_put_61 rfl (lv_at hl 2 rfl) ?_
      obtain ⟨z8, c9, c10, c11, c12, hc62, h⟩ := k_b5_e h
      refine g_callMI_V (As := [.int p1, .int p2]) (rest := []) hC (mX3_putNext l dC dI cyI cyC cyO n0 n1 n2 n3 n_ones n_twos n_settings n_tick n_energy n_valuesPut p1 p2 hc62) q398 q399 q400 q9 q401 2 hdX3_putNext ⟨Nat.le_of_ble_eq_true rfl, Nat.le_of_ble_eq_true rfl⟩ ⟨Nat.le_of_ble_eq_true rfl, Nat.le_of_ble_eq_true rfl⟩ rfl rfl hl.1 (Nat.le_of_ble_eq_true rfl) (hP.sub (ws' := (wX3 cyI cyC n0 n1 n2 n3 n_ones n_twos n_settings n_tick n_energy n_valuesPut)) [1, 2, 3, 4] rfl) hK (hD.sub (ws' := (wX3 cyI cyC n0 n1 n2 n3 n_ones n_twos n_settings n_tick n_energy n_valuesPut)) [1, 2, 3, 4] (by decide) rfl) (va_recv hK hP (ci := 2) (q0 := 1) rfl rfl) hS dX4_put_62 (fun H locs hPn hk hS => ?_)
      have hP : va_P (dC, dI) vwCl (wAll cyI cyC cyO ob n0 n1 n2 n3 t0 t1 t2 t3 s0 aR ro r1 r2 r3 x0 x1 x2 x3 x4 c9 c10 n_settings n_tick c11 c12 t_ones t_twos t_settings t_tick t_energy t_valuesPut c5 c6 c7 x_signs x_length x_position x_complete x_orders x_kinds x_numbers x_values) H := k_repl hP hD [1, 2, 3, 4] rfl hk hPn [.inl 0, .inr 0, .inr 1, .inr 2, .inr 3, .inl 5, .inl 6, .inl 7, .inl 8, .inl 9, .inl 10, .inl 11, .inl 12, .inl 13, .inl 14, .inl 15, .inl 16, .inl 17, .inl 18, .inl 19, .inl 20, .inl 21, .inl 22, .inl 23, .inl 24, .inl 25, .inl 26, .inl 27, .inl 28, .inl 29, .inl 30, .inl 31, .inl 32, .inl 33, .inl 34, .inl 35, .inl 36, .inl 37, .inl 38, .inl 39] rfl (by decide)
      have hD : va_D (k_A (wAll cyI cyC cyO ob n0 n1 n2 n3 t0 t1 t2 t3 s0 aR ro r1 r2 r3 x0 x1 x2 x3 x4 n_ones n_twos n_settings n_tick n_energy n_valuesPut t_ones t_twos t_settings t_tick t_energy t_valuesPut s_ring s_oldest s_count x_signs x_length x_position x_complete x_orders x_kinds x_numbers x_values)) (wAll cyI cyC cyO ob n0 n1 n2 n3 t0 t1 t2 t3 s0 aR ro r1 r2 r3 x0 x1 x2 x3 x4 c9 c10 n_settings n_tick c11 c12 t_ones t_twos t_settings t_tick t_energy t_valuesPut c5 c6 c7 x_signs x_length x_position x_complete x_orders x_kinds x_numbers x_values) := k_Dm hD rfl
      obtain ⟨e0, e1, e2, e3, e4, e5, e6, e7⟩ := k_t8 h
      exact g_retMI hx hb hr hlk hS e0 (by rw [← e1, ← e2, ← e3, ← e4, ← e5, ← e6, ← e7]; exact hP) dX4_put_65
    refine g_icmp_eq (tgt := 41) hx hb dX4_put_34 (by decide) h (fun h => ?_) (fun h => ?_)
    · refine lv_iconst (v := 0) hx hb dX4_put_41 (by decide) ?_
      exact J42 0 _ _ _ h hP hS (lv_sub hl [0, 1, 2] rfl)
    · refine lv_iconst (v := 1) hx hb dX4_put_37 (by decide) ?_
      refine lv_goto (tgt := 42) hx hb dX4_put_38 (by decide) ?_
      exact J42 1 _ _ _ h hP hS (lv_sub hl [0, 1, 2] rfl)
  refine g_if_eq (tgt := 22) hx hb dX4_put_6 (by decide) h (fun h => ?_) (fun h => ?_)
  · refine lv_iconst (v := 0) hx hb dX4_put_22 (by decide) ?_
    exact J23 0 _ _ _ h hP hS (lv_sub hl [0, 1, 2] rfl)
  · refine lv_iload_n hx hb dX4_put_9 rfl (lv_at hl 2 rfl) ?_
    refine lv_bipush (v := 64) hx hb dX4_put_10 (by decide) ?_
    obtain ⟨z13, hc12, h⟩ := k_b1_e h
    refine g_callRI_S (As := [.int p2, .int 64]) (rest := []) hC (mX4_isIndex l dC dI cyI cyC cyO p2 64 hc12) q80 q81 q8 q82 2 hdX4_isIndex ⟨Nat.le_of_ble_eq_true rfl, Nat.le_of_ble_eq_true rfl⟩ ⟨Nat.le_of_ble_eq_true rfl, Nat.le_of_ble_eq_true rfl⟩ rfl rfl hl.1 (Nat.le_of_ble_eq_true rfl) va_P_nil hK hS dX4_put_12 (fun H locs hk hS => ?_)
    have hP := k_kept hP hk
    refine g_if_eq (tgt := 22) hx hb dX4_put_15 (by decide) h (fun h => ?_) (fun h => ?_)
    · refine lv_iconst (v := 0) hx hb dX4_put_22 (by decide) ?_
      exact J23 0 _ _ _ h hP hS (lv_sub hl [0, 1, 2] rfl)
    · refine lv_iconst (v := 1) hx hb dX4_put_18 (by decide) ?_
      refine lv_goto (tgt := 23) hx hb dX4_put_19 (by decide) ?_
      exact J23 1 _ _ _ h hP hS (lv_sub hl [0, 1, 2] rfl)
def fX4_drop (n_ones : Nat → Int32) (n_twos : Nat → Int32) (n_settings : Nat → Int32) (n_tick : Int32) (n_energy : Int32) (n_valuesPut : Int32) (s_ring : Nat → SV) (s_oldest : Int32) (s_count : Int32) (p1 : Int32) : Option (Int32 × (Nat → Int32) × (Nat → Int32) × Int32 × (Nat → SV) × Int32 × Int32) :=
  k_b1 (fX4_isIndex p1 16) fun (z1 : Int32) =>
  k_if (z1 = 0) none <|
  k_b3 (fX2_save s_ring s_oldest s_count n_ones n_twos n_settings n_tick n_energy n_valuesPut) fun (c2 : Nat → SV) (c3 : Int32) (c4 : Int32) =>
  k_b4 (fX3_markEntries n_ones n_twos n_settings n_tick n_energy p1 ((-1)) 3) fun (z5 : Int32) (c6 : Nat → Int32) (c7 : Nat → Int32) (c8 : Int32) =>
  some (z5, c6, c7, c8, c2, c3, c4)
theorem hdX4_drop : yX4_drop.cls = RX4 ∧ yX4_drop.cls ≠ "java/lang/invoke/MethodHandle" ∧ yX4_drop.cls ≠ "java/lang/invoke/VarHandle" ∧ (parseMethodDescriptor yX4_drop.desc).map (fun d => d.parameters.length) = some 1 := by decide +kernel
set_option maxRecDepth 100000 in
set_option maxHeartbeats 4000000 in
theorem mX4_drop (l : Launch) (dC : Nat → ClassId) (dI : Nat → Nat → Nat) (cyI cyC cyO : ClassId) (ob : Nat) (n0 : Nat) (n1 : Nat) (n2 : Nat) (n3 : Nat) (t0 : Nat) (t1 : Nat) (t2 : Nat) (t3 : Nat) (s0 : Nat) (aR : Nat) (ro : Nat → Nat) (r1 : Nat → Nat) (r2 : Nat → Nat) (r3 : Nat → Nat) (x0 : Nat) (x1 : Nat) (x2 : Nat) (x3 : Nat) (x4 : Nat) (n_ones : Nat → Int32) (n_twos : Nat → Int32) (n_settings : Nat → Int32) (n_tick : Int32) (n_energy : Int32) (n_valuesPut : Int32) (t_ones : Nat → Int32) (t_twos : Nat → Int32) (t_settings : Nat → Int32) (t_tick : Int32) (t_energy : Int32) (t_valuesPut : Int32) (s_ring : Nat → SV) (s_oldest : Int32) (s_count : Int32) (x_signs : Nat → Int32) (x_length : Int32) (x_position : Int32) (x_complete : Int32) (x_orders : Int32) (x_kinds : Nat → Int32) (x_numbers : Nat → Int32) (x_values : Nat → Int32) (p1 : Int32) {r : Int32} {r_n_ones : Nat → Int32} {r_n_twos : Nat → Int32} {r_n_energy : Int32} {r_s_ring : Nat → SV} {r_s_oldest : Int32} {r_s_count : Int32} (hf : fX4_drop n_ones n_twos n_settings n_tick n_energy n_valuesPut s_ring s_oldest s_count p1 = some (r, r_n_ones, r_n_twos, r_n_energy, r_s_ring, r_s_oldest, r_s_count)) : MetMI l yX4_drop cX4_drop 2 (some .int) 3 74 [.ref ob, .int p1] (dC, dI) (tyS cyI cyC cyO) (wAll cyI cyC cyO ob n0 n1 n2 n3 t0 t1 t2 t3 s0 aR ro r1 r2 r3 x0 x1 x2 x3 x4 n_ones n_twos n_settings n_tick n_energy n_valuesPut t_ones t_twos t_settings t_tick t_energy t_valuesPut s_ring s_oldest s_count x_signs x_length x_position x_complete x_orders x_kinds x_numbers x_values) (wAll cyI cyC cyO ob n0 n1 n2 n3 t0 t1 t2 t3 s0 aR ro r1 r2 r3 x0 x1 x2 x3 x4 r_n_ones r_n_twos n_settings n_tick r_n_energy n_valuesPut t_ones t_twos t_settings t_tick t_energy t_valuesPut r_s_ring r_s_oldest r_s_count x_signs x_length x_position x_complete x_orders x_kinds x_numbers x_values) r := by
  refine metMI_of (by decide) (Nat.le_of_ble_eq_true rfl) ?_
  intro p e s m below meth c ls hC hr hlk hP hK hD hl
  have hC : CallFix p m c cX4_drop 2 s [.ref ob, .int p1].toArray wA RX4 := hC
  obtain ⟨hx, hb, hml, hown, hts⟩ := id hC
  have hS : va_S (k_A (wAll cyI cyC cyO ob n0 n1 n2 n3 t0 t1 t2 t3 s0 aR ro r1 r2 r3 x0 x1 x2 x3 x4 n_ones n_twos n_settings n_tick n_energy n_valuesPut t_ones t_twos t_settings t_tick t_energy t_valuesPut s_ring s_oldest s_count x_signs x_length x_position x_complete x_orders x_kinds x_numbers x_values)) s.heap s.heap [] := va_S.rf
  have hl : lv_has ls 2 [(0, .ref ob), (1, .int p1)] := hl
  have h := hf
  unfold fX4_drop at h
  obtain ⟨H, hH⟩ : ∃ H, H = s.heap := ⟨_, rfl⟩
  obtain ⟨locs, hlo⟩ : ∃ locs : List Loc, locs = [] := ⟨_, rfl⟩
  rw [← hH] at hP
  rw [← hlo] at hS
  have hS : va_S (k_A (wAll cyI cyC cyO ob n0 n1 n2 n3 t0 t1 t2 t3 s0 aR ro r1 r2 r3 x0 x1 x2 x3 x4 n_ones n_twos n_settings n_tick n_energy n_valuesPut t_ones t_twos t_settings t_tick t_energy t_valuesPut s_ring s_oldest s_count x_signs x_length x_position x_complete x_orders x_kinds x_numbers x_values)) s.heap H locs := by rw [hH]; exact hS
  show W p l e (k_rm 3 74) s m [.ref ob, .int p1].toArray below meth c s.heap [] 0 0 _ _
  rw [← hlo, ← hH]
  refine lv_iload_n hx hb dX4_drop_0 rfl (lv_at hl 1 rfl) ?_
  refine lv_bipush (v := 16) hx hb dX4_drop_1 (by decide) ?_
  obtain ⟨z1, hc3, h⟩ := k_b1_e h
  refine g_callRI_S (As := [.int p1, .int 16]) (rest := []) hC (mX4_isIndex l dC dI cyI cyC cyO p1 16 hc3) q80 q81 q8 q82 2 hdX4_isIndex ⟨Nat.le_of_ble_eq_true rfl, Nat.le_of_ble_eq_true rfl⟩ ⟨Nat.le_of_ble_eq_true rfl, Nat.le_of_ble_eq_true rfl⟩ rfl rfl hl.1 (Nat.le_of_ble_eq_true rfl) va_P_nil hK hS dX4_drop_3 (fun H locs hk hS => ?_)
  have hP := k_kept hP hk
  obtain ⟨hv, h⟩ := k_req_e h
  refine g_callRV_S (As := [.int z1]) (rest := []) hC (mX4_requireArgument l (dC, dI) (tyS cyI cyC cyO) z1 hv) q83 q84 q8 q85 1 hdX4_requireArgument ⟨Nat.le_of_ble_eq_true rfl, Nat.le_of_ble_eq_true rfl⟩ ⟨Nat.le_of_ble_eq_true rfl, Nat.le_of_ble_eq_true rfl⟩ rfl rfl hl.1 (Nat.le_of_ble_eq_true rfl) va_P_nil hK hS dX4_drop_6 (fun H locs hk hS => ?_)
  have hP := k_kept hP hk
  refine lv_aload_n hx hb dX4_drop_9 rfl (lv_at hl 0 rfl) ?_
  refine va_get (D := (dC, dI)) (ci := 3) (v := .ref s0) (C := RX4) (T := TX4) (N := 4) hx hb hts iaX4 hown hK hP 0 rfl rfl 2 (by decide) (hts _ q74) (fun _ h9 => h9) rfl dX4_drop_10 ?_
  refine lv_aload_n hx hb dX4_drop_13 rfl (lv_at hl 0 rfl) ?_
  refine va_get (D := (dC, dI)) (ci := 3) (v := .ref n0) (C := RX4) (T := TX4) (N := 4) hx hb hts iaX4 hown hK hP 0 rfl rfl 0 (by decide) (hts _ q72) (fun _ h9 => h9) rfl dX4_drop_14 ?_
  obtain ⟨c2, c3, c4, hc17, h⟩ := k_b3_e h
  refine g_callMV_V (As := [.ref n0]) (rest := []) hC (mX2_save l dC dI cyI cyC cyO s0 aR ro r1 r2 r3 n0 n1 n2 n3 s_ring s_oldest s_count n_ones n_twos n_settings n_tick n_energy n_valuesPut hc17) q124 q125 q126 q10 q127 1 hdX2_save ⟨Nat.le_of_ble_eq_true rfl, Nat.le_of_ble_eq_true rfl⟩ ⟨Nat.le_of_ble_eq_true rfl, Nat.le_of_ble_eq_true rfl⟩ rfl rfl hl.1 (Nat.le_of_ble_eq_true rfl) (hP.sub (ws' := (wX2 cyI cyC cyO s0 aR ro r1 r2 r3 s_ring s_oldest s_count) ++ (wX3 cyI cyC n0 n1 n2 n3 n_ones n_twos n_settings n_tick n_energy n_valuesPut)) [9, 10, 11, 12, 13, 14, 15, 16, 17, 18, 19, 20, 21, 22, 23, 24, 25, 26, 27, 28, 29, 30, 31, 32, 33, 34, 1, 2, 3, 4] rfl) hK (hD.sub (ws' := (wX2 cyI cyC cyO s0 aR ro r1 r2 r3 s_ring s_oldest s_count) ++ (wX3 cyI cyC n0 n1 n2 n3 n_ones n_twos n_settings n_tick n_energy n_valuesPut)) [9, 10, 11, 12, 13, 14, 15, 16, 17, 18, 19, 20, 21, 22, 23, 24, 25, 26, 27, 28, 29, 30, 31, 32, 33, 34, 1, 2, 3, 4] (by decide) rfl) (va_recv hK hP (ci := 1) (q0 := 9) rfl rfl) hS dX4_drop_17 (fun H locs hPn hk hS => ?_)
  have hP : va_P (dC, dI) vwCl (wAll cyI cyC cyO ob n0 n1 n2 n3 t0 t1 t2 t3 s0 aR ro r1 r2 r3 x0 x1 x2 x3 x4 n_ones n_twos n_settings n_tick n_energy n_valuesPut t_ones t_twos t_settings t_tick t_energy t_valuesPut c2 c3 c4 x_signs x_length x_position x_complete x_orders x_kinds x_numbers x_values) H := k_repl hP hD [9, 10, 11, 12, 13, 14, 15, 16, 17, 18, 19, 20, 21, 22, 23, 24, 25, 26, 27, 28, 29, 30, 31, 32, 33, 34, 1, 2, 3, 4] rfl hk hPn [.inl 0, .inr 26, .inr 27, .inr 28, .inr 29, .inl 5, .inl 6, .inl 7, .inl 8, .inr 0, .inr 1, .inr 2, .inr 3, .inr 4, .inr 5, .inr 6, .inr 7, .inr 8, .inr 9, .inr 10, .inr 11, .inr 12, .inr 13, .inr 14, .inr 15, .inr 16, .inr 17, .inr 18, .inr 19, .inr 20, .inr 21, .inr 22, .inr 23, .inr 24, .inr 25, .inl 35, .inl 36, .inl 37, .inl 38, .inl 39] rfl (by decide)
  have hD : va_D (k_A (wAll cyI cyC cyO ob n0 n1 n2 n3 t0 t1 t2 t3 s0 aR ro r1 r2 r3 x0 x1 x2 x3 x4 n_ones n_twos n_settings n_tick n_energy n_valuesPut t_ones t_twos t_settings t_tick t_energy t_valuesPut s_ring s_oldest s_count x_signs x_length x_position x_complete x_orders x_kinds x_numbers x_values)) (wAll cyI cyC cyO ob n0 n1 n2 n3 t0 t1 t2 t3 s0 aR ro r1 r2 r3 x0 x1 x2 x3 x4 n_ones n_twos n_settings n_tick n_energy n_valuesPut t_ones t_twos t_settings t_tick t_energy t_valuesPut c2 c3 c4 x_signs x_length x_position x_complete x_orders x_kinds x_numbers x_values) := k_Dm hD rfl
  refine lv_aload_n hx hb dX4_drop_20 rfl (lv_at hl 0 rfl) ?_
  refine va_get (D := (dC, dI)) (ci := 3) (v := .ref n0) (C := RX4) (T := TX4) (N := 4) hx hb hts iaX4 hown hK hP 0 rfl rfl 0 (by decide) (hts _ q72) (fun _ h9 => h9) rfl dX4_drop_21 ?_
  refine lv_iload_n hx hb dX4_drop_24 rfl (lv_at hl 1 rfl) ?_
  refine lv_iconst (v := (-1)) hx hb dX4_drop_25 (by decide) ?_
  refine lv_iconst (v := 3) hx hb dX4_drop_26 (by decide) ?_
  obtain ⟨z5, c6, c7, c8, hc27, h⟩ := k_b4_e h
  refine g_callMI_V (As := [.int p1, .int ((-1)), .int 3]) (rest := []) hC (mX3_markEntries l dC dI cyI cyC cyO n0 n1 n2 n3 n_ones n_twos n_settings n_tick n_energy n_valuesPut p1 ((-1)) 3 hc27) q135 q136 q137 q9 q138 3 hdX3_markEntries ⟨Nat.le_of_ble_eq_true rfl, Nat.le_of_ble_eq_true rfl⟩ ⟨Nat.le_of_ble_eq_true rfl, Nat.le_of_ble_eq_true rfl⟩ rfl rfl hl.1 (Nat.le_of_ble_eq_true rfl) (hP.sub (ws' := (wX3 cyI cyC n0 n1 n2 n3 n_ones n_twos n_settings n_tick n_energy n_valuesPut)) [1, 2, 3, 4] rfl) hK (hD.sub (ws' := (wX3 cyI cyC n0 n1 n2 n3 n_ones n_twos n_settings n_tick n_energy n_valuesPut)) [1, 2, 3, 4] (by decide) rfl) (va_recv hK hP (ci := 2) (q0 := 1) rfl rfl) hS dX4_drop_27 (fun H locs hPn hk hS => ?_)
  have hP : va_P (dC, dI) vwCl (wAll cyI cyC cyO ob n0 n1 n2 n3 t0 t1 t2 t3 s0 aR ro r1 r2 r3 x0 x1 x2 x3 x4 c6 c7 n_settings n_tick c8 n_valuesPut t_ones t_twos t_settings t_tick t_energy t_valuesPut c2 c3 c4 x_signs x_length x_position x_complete x_orders x_kinds x_numbers x_values) H := k_repl hP hD [1, 2, 3, 4] rfl hk hPn [.inl 0, .inr 0, .inr 1, .inr 2, .inr 3, .inl 5, .inl 6, .inl 7, .inl 8, .inl 9, .inl 10, .inl 11, .inl 12, .inl 13, .inl 14, .inl 15, .inl 16, .inl 17, .inl 18, .inl 19, .inl 20, .inl 21, .inl 22, .inl 23, .inl 24, .inl 25, .inl 26, .inl 27, .inl 28, .inl 29, .inl 30, .inl 31, .inl 32, .inl 33, .inl 34, .inl 35, .inl 36, .inl 37, .inl 38, .inl 39] rfl (by decide)
  have hD : va_D (k_A (wAll cyI cyC cyO ob n0 n1 n2 n3 t0 t1 t2 t3 s0 aR ro r1 r2 r3 x0 x1 x2 x3 x4 n_ones n_twos n_settings n_tick n_energy n_valuesPut t_ones t_twos t_settings t_tick t_energy t_valuesPut s_ring s_oldest s_count x_signs x_length x_position x_complete x_orders x_kinds x_numbers x_values)) (wAll cyI cyC cyO ob n0 n1 n2 n3 t0 t1 t2 t3 s0 aR ro r1 r2 r3 x0 x1 x2 x3 x4 c6 c7 n_settings n_tick c8 n_valuesPut t_ones t_twos t_settings t_tick t_energy t_valuesPut c2 c3 c4 x_signs x_length x_position x_complete x_orders x_kinds x_numbers x_values) := k_Dm hD rfl
  obtain ⟨e0, e1, e2, e3, e4, e5, e6⟩ := k_t7 h
  exact g_retMI hx hb hr hlk hS e0 (by rw [← e1, ← e2, ← e3, ← e4, ← e5, ← e6]; exact hP) dX4_drop_30
def fX4_lock (n_ones : Nat → Int32) (n_twos : Nat → Int32) (n_settings : Nat → Int32) (n_tick : Int32) (n_energy : Int32) (n_valuesPut : Int32) (s_ring : Nat → SV) (s_oldest : Int32) (s_count : Int32) (p1 : Int32) : Option (Int32 × (Nat → Int32) × (Nat → Int32) × Int32 × (Nat → SV) × Int32 × Int32) :=
  k_b1 (fX4_isIndex p1 20) fun (z1 : Int32) =>
  k_if (z1 = 0) none <|
  k_b1 (fX3_isLocked n_ones n_twos n_tick p1) fun (z2 : Int32) =>
  k_j1
  (fun (z3 : Int32) =>
    k_if (z3 = 0) none <|
    k_b3 (fX2_save s_ring s_oldest s_count n_ones n_twos n_settings n_tick n_energy n_valuesPut) fun (c4 : Nat → SV) (c5 : Int32) (c6 : Int32) =>
    k_b3 (fX3_blowFuse n_ones n_twos n_energy p1 15 3) fun (c7 : Nat → Int32) (c8 : Nat → Int32) (c9 : Int32) =>
    k_b1 (fX3_lockedRows c7 c8 n_tick) fun (z10 : Int32) =>
    some (z10, c7, c8, c9, c4, c5, c6))
  (fun K25 =>
  k_if (z2 = 0)
  (
    K25 1)
  (
    K25 0))
theorem hdX4_lock : yX4_lock.cls = RX4 ∧ yX4_lock.cls ≠ "java/lang/invoke/MethodHandle" ∧ yX4_lock.cls ≠ "java/lang/invoke/VarHandle" ∧ (parseMethodDescriptor yX4_lock.desc).map (fun d => d.parameters.length) = some 1 := by decide +kernel
set_option maxRecDepth 100000 in
set_option maxHeartbeats 4000000 in
theorem mX4_lock (l : Launch) (dC : Nat → ClassId) (dI : Nat → Nat → Nat) (cyI cyC cyO : ClassId) (ob : Nat) (n0 : Nat) (n1 : Nat) (n2 : Nat) (n3 : Nat) (t0 : Nat) (t1 : Nat) (t2 : Nat) (t3 : Nat) (s0 : Nat) (aR : Nat) (ro : Nat → Nat) (r1 : Nat → Nat) (r2 : Nat → Nat) (r3 : Nat → Nat) (x0 : Nat) (x1 : Nat) (x2 : Nat) (x3 : Nat) (x4 : Nat) (n_ones : Nat → Int32) (n_twos : Nat → Int32) (n_settings : Nat → Int32) (n_tick : Int32) (n_energy : Int32) (n_valuesPut : Int32) (t_ones : Nat → Int32) (t_twos : Nat → Int32) (t_settings : Nat → Int32) (t_tick : Int32) (t_energy : Int32) (t_valuesPut : Int32) (s_ring : Nat → SV) (s_oldest : Int32) (s_count : Int32) (x_signs : Nat → Int32) (x_length : Int32) (x_position : Int32) (x_complete : Int32) (x_orders : Int32) (x_kinds : Nat → Int32) (x_numbers : Nat → Int32) (x_values : Nat → Int32) (p1 : Int32) {r : Int32} {r_n_ones : Nat → Int32} {r_n_twos : Nat → Int32} {r_n_energy : Int32} {r_s_ring : Nat → SV} {r_s_oldest : Int32} {r_s_count : Int32} (hf : fX4_lock n_ones n_twos n_settings n_tick n_energy n_valuesPut s_ring s_oldest s_count p1 = some (r, r_n_ones, r_n_twos, r_n_energy, r_s_ring, r_s_oldest, r_s_count)) : MetMI l yX4_lock cX4_lock 2 (some .int) 3 70 [.ref ob, .int p1] (dC, dI) (tyS cyI cyC cyO) (wAll cyI cyC cyO ob n0 n1 n2 n3 t0 t1 t2 t3 s0 aR ro r1 r2 r3 x0 x1 x2 x3 x4 n_ones n_twos n_settings n_tick n_energy n_valuesPut t_ones t_twos t_settings t_tick t_energy t_valuesPut s_ring s_oldest s_count x_signs x_length x_position x_complete x_orders x_kinds x_numbers x_values) (wAll cyI cyC cyO ob n0 n1 n2 n3 t0 t1 t2 t3 s0 aR ro r1 r2 r3 x0 x1 x2 x3 x4 r_n_ones r_n_twos n_settings n_tick r_n_energy n_valuesPut t_ones t_twos t_settings t_tick t_energy t_valuesPut r_s_ring r_s_oldest r_s_count x_signs x_length x_position x_complete x_orders x_kinds x_numbers x_values) r := by
  refine metMI_of (by decide) (Nat.le_of_ble_eq_true rfl) ?_
  intro p e s m below meth c ls hC hr hlk hP hK hD hl
  have hC : CallFix p m c cX4_lock 2 s [.ref ob, .int p1].toArray wA RX4 := hC
  obtain ⟨hx, hb, hml, hown, hts⟩ := id hC
  have hS : va_S (k_A (wAll cyI cyC cyO ob n0 n1 n2 n3 t0 t1 t2 t3 s0 aR ro r1 r2 r3 x0 x1 x2 x3 x4 n_ones n_twos n_settings n_tick n_energy n_valuesPut t_ones t_twos t_settings t_tick t_energy t_valuesPut s_ring s_oldest s_count x_signs x_length x_position x_complete x_orders x_kinds x_numbers x_values)) s.heap s.heap [] := va_S.rf
  have hl : lv_has ls 2 [(0, .ref ob), (1, .int p1)] := hl
  have h := hf
  unfold fX4_lock at h
  obtain ⟨H, hH⟩ : ∃ H, H = s.heap := ⟨_, rfl⟩
  obtain ⟨locs, hlo⟩ : ∃ locs : List Loc, locs = [] := ⟨_, rfl⟩
  rw [← hH] at hP
  rw [← hlo] at hS
  have hS : va_S (k_A (wAll cyI cyC cyO ob n0 n1 n2 n3 t0 t1 t2 t3 s0 aR ro r1 r2 r3 x0 x1 x2 x3 x4 n_ones n_twos n_settings n_tick n_energy n_valuesPut t_ones t_twos t_settings t_tick t_energy t_valuesPut s_ring s_oldest s_count x_signs x_length x_position x_complete x_orders x_kinds x_numbers x_values)) s.heap H locs := by rw [hH]; exact hS
  show W p l e (k_rm 3 70) s m [.ref ob, .int p1].toArray below meth c s.heap [] 0 0 _ _
  rw [← hlo, ← hH]
  refine lv_iload_n hx hb dX4_lock_0 rfl (lv_at hl 1 rfl) ?_
  refine lv_bipush (v := 20) hx hb dX4_lock_1 (by decide) ?_
  obtain ⟨z1, hc3, h⟩ := k_b1_e h
  refine g_callRI_S (As := [.int p1, .int 20]) (rest := []) hC (mX4_isIndex l dC dI cyI cyC cyO p1 20 hc3) q80 q81 q8 q82 2 hdX4_isIndex ⟨Nat.le_of_ble_eq_true rfl, Nat.le_of_ble_eq_true rfl⟩ ⟨Nat.le_of_ble_eq_true rfl, Nat.le_of_ble_eq_true rfl⟩ rfl rfl hl.1 (Nat.le_of_ble_eq_true rfl) va_P_nil hK hS dX4_lock_3 (fun H locs hk hS => ?_)
  have hP := k_kept hP hk
  obtain ⟨hv, h⟩ := k_req_e h
  refine g_callRV_S (As := [.int z1]) (rest := []) hC (mX4_requireIndex l (dC, dI) (tyS cyI cyC cyO) z1 hv) q188 q189 q8 q190 1 hdX4_requireIndex ⟨Nat.le_of_ble_eq_true rfl, Nat.le_of_ble_eq_true rfl⟩ ⟨Nat.le_of_ble_eq_true rfl, Nat.le_of_ble_eq_true rfl⟩ rfl rfl hl.1 (Nat.le_of_ble_eq_true rfl) va_P_nil hK hS dX4_lock_6 (fun H locs hk hS => ?_)
  have hP := k_kept hP hk
  refine lv_aload_n hx hb dX4_lock_9 rfl (lv_at hl 0 rfl) ?_
  refine va_get (D := (dC, dI)) (ci := 3) (v := .ref n0) (C := RX4) (T := TX4) (N := 4) hx hb hts iaX4 hown hK hP 0 rfl rfl 0 (by decide) (hts _ q72) (fun _ h9 => h9) rfl dX4_lock_10 ?_
  refine lv_iload_n hx hb dX4_lock_13 rfl (lv_at hl 1 rfl) ?_
  obtain ⟨z2, hc14, h⟩ := k_b1_e h
  refine g_callRI_V (As := [.int p1]) (rest := []) hC (mX3_isLocked l dC dI cyI cyC cyO n0 n1 n2 n3 n_ones n_twos n_settings n_tick n_energy n_valuesPut p1 hc14) q199 q155 q156 q9 q157 1 hdX3_isLocked ⟨Nat.le_of_ble_eq_true rfl, Nat.le_of_ble_eq_true rfl⟩ ⟨Nat.le_of_ble_eq_true rfl, Nat.le_of_ble_eq_true rfl⟩ rfl rfl hl.1 (Nat.le_of_ble_eq_true rfl) (hP.sub (ws' := (wX3 cyI cyC n0 n1 n2 n3 n_ones n_twos n_settings n_tick n_energy n_valuesPut)) [1, 2, 3, 4] rfl) hK (va_recv hK hP (ci := 2) (q0 := 1) rfl rfl) hS dX4_lock_14 (fun H locs hk hS => ?_)
  have hP := k_kept hP hk
  obtain ⟨K25, hK25, h⟩ := k_j1_e h
  have J25 : ∀ (z3 : Int32) (H : Heap) (locs : List Loc) (ls : Array Slot), K25 z3 = some (r, r_n_ones, r_n_twos, r_n_energy, r_s_ring, r_s_oldest, r_s_count) → va_P (dC, dI) vwCl (wAll cyI cyC cyO ob n0 n1 n2 n3 t0 t1 t2 t3 s0 aR ro r1 r2 r3 x0 x1 x2 x3 x4 n_ones n_twos n_settings n_tick n_energy n_valuesPut t_ones t_twos t_settings t_tick t_energy t_valuesPut s_ring s_oldest s_count x_signs x_length x_position x_complete x_orders x_kinds x_numbers x_values) H → va_S (k_A (wAll cyI cyC cyO ob n0 n1 n2 n3 t0 t1 t2 t3 s0 aR ro r1 r2 r3 x0 x1 x2 x3 x4 n_ones n_twos n_settings n_tick n_energy n_valuesPut t_ones t_twos t_settings t_tick t_energy t_valuesPut s_ring s_oldest s_count x_signs x_length x_position x_complete x_orders x_kinds x_numbers x_values)) s.heap H locs → lv_has ls 2 [(0, .ref ob), (1, .int p1)] → W p l e (k_rm 3 70) s m [.ref ob, .int p1].toArray below meth c H locs 0 0 (MQ below (qMI r (dC, dI) (wAll cyI cyC cyO ob n0 n1 n2 n3 t0 t1 t2 t3 s0 aR ro r1 r2 r3 x0 x1 x2 x3 x4 n_ones n_twos n_settings n_tick n_energy n_valuesPut t_ones t_twos t_settings t_tick t_energy t_valuesPut s_ring s_oldest s_count x_signs x_length x_position x_complete x_orders x_kinds x_numbers x_values) (wAll cyI cyC cyO ob n0 n1 n2 n3 t0 t1 t2 t3 s0 aR ro r1 r2 r3 x0 x1 x2 x3 x4 r_n_ones r_n_twos n_settings n_tick r_n_energy n_valuesPut t_ones t_twos t_settings t_tick t_energy t_valuesPut r_s_ring r_s_oldest r_s_count x_signs x_length x_position x_complete x_orders x_kinds x_numbers x_values)) [.ref ob, .int p1].toArray s 0 0 (k_A (wAll cyI cyC cyO ob n0 n1 n2 n3 t0 t1 t2 t3 s0 aR ro r1 r2 r3 x0 x1 x2 x3 x4 n_ones n_twos n_settings n_tick n_energy n_valuesPut t_ones t_twos t_settings t_tick t_energy t_valuesPut s_ring s_oldest s_count x_signs x_length x_position x_complete x_orders x_kinds x_numbers x_values))) (F0 m 25 ls [.int z3]) := by
    intro z3 H locs ls h hP hS hl
    have h := k_a1 hK25 h
    obtain ⟨hv, h⟩ := k_req_e h
    refine g_callRV_S (As := [.int z3]) (rest := []) hC (mX4_requireState l (dC, dI) (tyS cyI cyC cyO) z3 hv) q200 q201 q8 q202 1 hdX4_requireState ⟨Nat.le_of_ble_eq_true rfl, Nat.le_of_ble_eq_true rfl⟩ ⟨Nat.le_of_ble_eq_true rfl, Nat.le_of_ble_eq_true rfl⟩ rfl rfl hl.1 (Nat.le_of_ble_eq_true rfl) va_P_nil hK hS dX4_lock_25 (fun H locs hk hS => ?_)
    have hP := k_kept hP hk
    refine lv_aload_n hx hb dX4_lock_28 rfl (lv_at hl 0 rfl) ?_
    refine va_get (D := (dC, dI)) (ci := 3) (v := .ref s0) (C := RX4) (T := TX4) (N := 4) hx hb hts iaX4 hown hK hP 0 rfl rfl 2 (by decide) (hts _ q74) (fun _ h9 => h9) rfl dX4_lock_29 ?_
    refine lv_aload_n hx hb dX4_lock_32 rfl (lv_at hl 0 rfl) ?_
    refine va_get (D := (dC, dI)) (ci := 3) (v := .ref n0) (C := RX4) (T := TX4) (N := 4) hx hb hts iaX4 hown hK hP 0 rfl rfl 0 (by decide) (hts _ q72) (fun _ h9 => h9) rfl dX4_lock_33 ?_
    obtain ⟨c4, c5, c6, hc36, h⟩ := k_b3_e h
    refine g_callMV_V (As := [.ref n0]) (rest := []) hC (mX2_save l dC dI cyI cyC cyO s0 aR ro r1 r2 r3 n0 n1 n2 n3 s_ring s_oldest s_count n_ones n_twos n_settings n_tick n_energy n_valuesPut hc36) q124 q125 q126 q10 q127 1 hdX2_save ⟨Nat.le_of_ble_eq_true rfl, Nat.le_of_ble_eq_true rfl⟩ ⟨Nat.le_of_ble_eq_true rfl, Nat.le_of_ble_eq_true rfl⟩ rfl rfl hl.1 (Nat.le_of_ble_eq_true rfl) (hP.sub (ws' := (wX2 cyI cyC cyO s0 aR ro r1 r2 r3 s_ring s_oldest s_count) ++ (wX3 cyI cyC n0 n1 n2 n3 n_ones n_twos n_settings n_tick n_energy n_valuesPut)) [9, 10, 11, 12, 13, 14, 15, 16, 17, 18, 19, 20, 21, 22, 23, 24, 25, 26, 27, 28, 29, 30, 31, 32, 33, 34, 1, 2, 3, 4] rfl) hK (hD.sub (ws' := (wX2 cyI cyC cyO s0 aR ro r1 r2 r3 s_ring s_oldest s_count) ++ (wX3 cyI cyC n0 n1 n2 n3 n_ones n_twos n_settings n_tick n_energy n_valuesPut)) [9, 10, 11, 12, 13, 14, 15, 16, 17, 18, 19, 20, 21, 22, 23, 24, 25, 26, 27, 28, 29, 30, 31, 32, 33, 34, 1, 2, 3, 4] (by decide) rfl) (va_recv hK hP (ci := 1) (q0 := 9) rfl rfl) hS dX4_lock_36 (fun H locs hPn hk hS => ?_)
    have hP : va_P (dC, dI) vwCl (wAll cyI cyC cyO ob n0 n1 n2 n3 t0 t1 t2 t3 s0 aR ro r1 r2 r3 x0 x1 x2 x3 x4 n_ones n_twos n_settings n_tick n_energy n_valuesPut t_ones t_twos t_settings t_tick t_energy t_valuesPut c4 c5 c6 x_signs x_length x_position x_complete x_orders x_kinds x_numbers x_values) H := k_repl hP hD [9, 10, 11, 12, 13, 14, 15, 16, 17, 18, 19, 20, 21, 22, 23, 24, 25, 26, 27, 28, 29, 30, 31, 32, 33, 34, 1, 2, 3, 4] rfl hk hPn [.inl 0, .inr 26, .inr 27, .inr 28, .inr 29, .inl 5, .inl 6, .inl 7, .inl 8, .inr 0, .inr 1, .inr 2, .inr 3, .inr 4, .inr 5, .inr 6, .inr 7, .inr 8, .inr 9, .inr 10, .inr 11, .inr 12, .inr 13, .inr 14, .inr 15, .inr 16, .inr 17, .inr 18, .inr 19, .inr 20, .inr 21, .inr 22, .inr 23, .inr 24, .inr 25, .inl 35, .inl 36, .inl 37, .inl 38, .inl 39] rfl (by decide)
    have hD : va_D (k_A (wAll cyI cyC cyO ob n0 n1 n2 n3 t0 t1 t2 t3 s0 aR ro r1 r2 r3 x0 x1 x2 x3 x4 n_ones n_twos n_settings n_tick n_energy n_valuesPut t_ones t_twos t_settings t_tick t_energy t_valuesPut s_ring s_oldest s_count x_signs x_length x_position x_complete x_orders x_kinds x_numbers x_values)) (wAll cyI cyC cyO ob n0 n1 n2 n3 t0 t1 t2 t3 s0 aR ro r1 r2 r3 x0 x1 x2 x3 x4 n_ones n_twos n_settings n_tick n_energy n_valuesPut t_ones t_twos t_settings t_tick t_energy t_valuesPut c4 c5 c6 x_signs x_length x_position x_complete x_orders x_kinds x_numbers x_values) := k_Dm hD rfl
    refine lv_aload_n hx hb dX4_lock_39 rfl (lv_at hl 0 rfl) ?_
    refine va_get (D := (dC, dI)) (ci := 3) (v := .ref n0) (C := RX4) (T := TX4) (N := 4) hx hb hts iaX4 hown hK hP 0 rfl rfl 0 (by decide) (hts _ q72) (fun _ h9 => h9) rfl dX4_lock_40 ?_
    refine lv_iload_n hx hb dX4_lock_43 rfl (lv_at hl 1 rfl) ?_
    refine lv_bipush (v := 15) hx hb dX4_lock_44 (by decide) ?_
    refine lv_iconst (v := 3) hx hb dX4_lock_46 (by decide) ?_
    obtain ⟨c7, c8, c9, hc47, h⟩ := k_b3_e h
    refine g_callMV_V (As := [.int p1, .int 15, .int 3]) (rest := []) hC (mX3_blowFuse l dC dI cyI cyC cyO n0 n1 n2 n3 n_ones n_twos n_settings n_tick n_energy n_valuesPut p1 15 3 hc47) q211 q174 q175 q9 q176 3 hdX3_blowFuse ⟨Nat.le_of_ble_eq_true rfl, Nat.le_of_ble_eq_true rfl⟩ ⟨Nat.le_of_ble_eq_true rfl, Nat.le_of_ble_eq_true rfl⟩ rfl rfl hl.1 (Nat.le_of_ble_eq_true rfl) (hP.sub (ws' := (wX3 cyI cyC n0 n1 n2 n3 n_ones n_twos n_settings n_tick n_energy n_valuesPut)) [1, 2, 3, 4] rfl) hK (hD.sub (ws' := (wX3 cyI cyC n0 n1 n2 n3 n_ones n_twos n_settings n_tick n_energy n_valuesPut)) [1, 2, 3, 4] (by decide) rfl) (va_recv hK hP (ci := 2) (q0 := 1) rfl rfl) hS dX4_lock_47 (fun H locs hPn hk hS => ?_)
    have hP : va_P (dC, dI) vwCl (wAll cyI cyC cyO ob n0 n1 n2 n3 t0 t1 t2 t3 s0 aR ro r1 r2 r3 x0 x1 x2 x3 x4 c7 c8 n_settings n_tick c9 n_valuesPut t_ones t_twos t_settings t_tick t_energy t_valuesPut c4 c5 c6 x_signs x_length x_position x_complete x_orders x_kinds x_numbers x_values) H := k_repl hP hD [1, 2, 3, 4] rfl hk hPn [.inl 0, .inr 0, .inr 1, .inr 2, .inr 3, .inl 5, .inl 6, .inl 7, .inl 8, .inl 9, .inl 10, .inl 11, .inl 12, .inl 13, .inl 14, .inl 15, .inl 16, .inl 17, .inl 18, .inl 19, .inl 20, .inl 21, .inl 22, .inl 23, .inl 24, .inl 25, .inl 26, .inl 27, .inl 28, .inl 29, .inl 30, .inl 31, .inl 32, .inl 33, .inl 34, .inl 35, .inl 36, .inl 37, .inl 38, .inl 39] rfl (by decide)
    have hD : va_D (k_A (wAll cyI cyC cyO ob n0 n1 n2 n3 t0 t1 t2 t3 s0 aR ro r1 r2 r3 x0 x1 x2 x3 x4 n_ones n_twos n_settings n_tick n_energy n_valuesPut t_ones t_twos t_settings t_tick t_energy t_valuesPut s_ring s_oldest s_count x_signs x_length x_position x_complete x_orders x_kinds x_numbers x_values)) (wAll cyI cyC cyO ob n0 n1 n2 n3 t0 t1 t2 t3 s0 aR ro r1 r2 r3 x0 x1 x2 x3 x4 c7 c8 n_settings n_tick c9 n_valuesPut t_ones t_twos t_settings t_tick t_energy t_valuesPut c4 c5 c6 x_signs x_length x_position x_complete x_orders x_kinds x_numbers x_values) := k_Dm hD rfl
    refine lv_aload_n hx hb dX4_lock_50 rfl (lv_at hl 0 rfl) ?_
    refine va_get (D := (dC, dI)) (ci := 3) (v := .ref n0) (C := RX4) (T := TX4) (N := 4) hx hb hts iaX4 hown hK hP 0 rfl rfl 0 (by decide) (hts _ q72) (fun _ h9 => h9) rfl dX4_lock_51 ?_
    obtain ⟨z10, hc54, h⟩ := k_b1_e h
    refine g_callRI_V (As := []) (rest := []) hC (mX3_lockedRows l dC dI cyI cyC cyO n0 n1 n2 n3 c7 c8 n_settings n_tick c9 n_valuesPut hc54) q212 q213 q214 q9 q215 0 hdX3_lockedRows ⟨Nat.le_of_ble_eq_true rfl, Nat.le_of_ble_eq_true rfl⟩ ⟨Nat.le_of_ble_eq_true rfl, Nat.le_of_ble_eq_true rfl⟩ rfl rfl hl.1 (Nat.le_of_ble_eq_true rfl) (hP.sub (ws' := (wX3 cyI cyC n0 n1 n2 n3 c7 c8 n_settings n_tick c9 n_valuesPut)) [1, 2, 3, 4] rfl) hK (va_recv hK hP (ci := 2) (q0 := 1) rfl rfl) hS dX4_lock_54 (fun H locs hk hS => ?_)
    have hP := k_kept hP hk
    obtain ⟨e0, e1, e2, e3, e4, e5, e6⟩ := k_t7 h
    exact g_retMI hx hb hr hlk hS e0 (by rw [← e1, ← e2, ← e3, ← e4, ← e5, ← e6]; exact hP) dX4_lock_57
  refine g_if_ne (tgt := 24) hx hb dX4_lock_17 (by decide) h (fun h => ?_) (fun h => ?_)
  · refine lv_iconst (v := 0) hx hb dX4_lock_24 (by decide) ?_
    exact J25 0 _ _ _ h hP hS (lv_sub hl [0, 1] rfl)
  · refine lv_iconst (v := 1) hx hb dX4_lock_20 (by decide) ?_
    refine lv_goto (tgt := 25) hx hb dX4_lock_21 (by decide) ?_
    exact J25 1 _ _ _ h hP hS (lv_sub hl [0, 1] rfl)
def fX4_refresh (n_ones : Nat → Int32) (n_twos : Nat → Int32) (n_settings : Nat → Int32) (n_tick : Int32) (n_energy : Int32) (n_valuesPut : Int32) (s_ring : Nat → SV) (s_oldest : Int32) (s_count : Int32) (p1 : Int32) : Option (Int32 × (Nat → Int32) × (Nat → Int32) × Int32 × (Nat → SV) × Int32 × Int32) :=
  k_b1 (fX4_isIndex p1 20) fun (z1 : Int32) =>
  k_if (z1 = 0) none <|
  k_b1 (fX3_isLocked n_ones n_twos n_tick p1) fun (z2 : Int32) =>
  k_j1
  (fun (z3 : Int32) =>
    k_if (z3 = 0) none <|
    k_b3 (fX2_save s_ring s_oldest s_count n_ones n_twos n_settings n_tick n_energy n_valuesPut) fun (c4 : Nat → SV) (c5 : Int32) (c6 : Int32) =>
    k_b4 (fX3_refreshRow n_ones n_twos n_tick n_energy p1) fun (z7 : Int32) (c8 : Nat → Int32) (c9 : Nat → Int32) (c10 : Int32) =>
    some (z7, c8, c9, c10, c4, c5, c6))
  (fun K25 =>
  k_if (z2 = 0)
  (
    K25 1)
  (
    K25 0))
theorem hdX4_refresh : yX4_refresh.cls = RX4 ∧ yX4_refresh.cls ≠ "java/lang/invoke/MethodHandle" ∧ yX4_refresh.cls ≠ "java/lang/invoke/VarHandle" ∧ (parseMethodDescriptor yX4_refresh.desc).map (fun d => d.parameters.length) = some 1 := by decide +kernel
set_option maxRecDepth 100000 in
set_option maxHeartbeats 4000000 in
theorem mX4_refresh (l : Launch) (dC : Nat → ClassId) (dI : Nat → Nat → Nat) (cyI cyC cyO : ClassId) (ob : Nat) (n0 : Nat) (n1 : Nat) (n2 : Nat) (n3 : Nat) (t0 : Nat) (t1 : Nat) (t2 : Nat) (t3 : Nat) (s0 : Nat) (aR : Nat) (ro : Nat → Nat) (r1 : Nat → Nat) (r2 : Nat → Nat) (r3 : Nat → Nat) (x0 : Nat) (x1 : Nat) (x2 : Nat) (x3 : Nat) (x4 : Nat) (n_ones : Nat → Int32) (n_twos : Nat → Int32) (n_settings : Nat → Int32) (n_tick : Int32) (n_energy : Int32) (n_valuesPut : Int32) (t_ones : Nat → Int32) (t_twos : Nat → Int32) (t_settings : Nat → Int32) (t_tick : Int32) (t_energy : Int32) (t_valuesPut : Int32) (s_ring : Nat → SV) (s_oldest : Int32) (s_count : Int32) (x_signs : Nat → Int32) (x_length : Int32) (x_position : Int32) (x_complete : Int32) (x_orders : Int32) (x_kinds : Nat → Int32) (x_numbers : Nat → Int32) (x_values : Nat → Int32) (p1 : Int32) {r : Int32} {r_n_ones : Nat → Int32} {r_n_twos : Nat → Int32} {r_n_energy : Int32} {r_s_ring : Nat → SV} {r_s_oldest : Int32} {r_s_count : Int32} (hf : fX4_refresh n_ones n_twos n_settings n_tick n_energy n_valuesPut s_ring s_oldest s_count p1 = some (r, r_n_ones, r_n_twos, r_n_energy, r_s_ring, r_s_oldest, r_s_count)) : MetMI l yX4_refresh cX4_refresh 2 (some .int) 4 92 [.ref ob, .int p1] (dC, dI) (tyS cyI cyC cyO) (wAll cyI cyC cyO ob n0 n1 n2 n3 t0 t1 t2 t3 s0 aR ro r1 r2 r3 x0 x1 x2 x3 x4 n_ones n_twos n_settings n_tick n_energy n_valuesPut t_ones t_twos t_settings t_tick t_energy t_valuesPut s_ring s_oldest s_count x_signs x_length x_position x_complete x_orders x_kinds x_numbers x_values) (wAll cyI cyC cyO ob n0 n1 n2 n3 t0 t1 t2 t3 s0 aR ro r1 r2 r3 x0 x1 x2 x3 x4 r_n_ones r_n_twos n_settings n_tick r_n_energy n_valuesPut t_ones t_twos t_settings t_tick t_energy t_valuesPut r_s_ring r_s_oldest r_s_count x_signs x_length x_position x_complete x_orders x_kinds x_numbers x_values) r := by
  refine metMI_of (by decide) (Nat.le_of_ble_eq_true rfl) ?_
  intro p e s m below meth c ls hC hr hlk hP hK hD hl
  have hC : CallFix p m c cX4_refresh 2 s [.ref ob, .int p1].toArray wA RX4 := hC
  obtain ⟨hx, hb, hml, hown, hts⟩ := id hC
  have hS : va_S (k_A (wAll cyI cyC cyO ob n0 n1 n2 n3 t0 t1 t2 t3 s0 aR ro r1 r2 r3 x0 x1 x2 x3 x4 n_ones n_twos n_settings n_tick n_energy n_valuesPut t_ones t_twos t_settings t_tick t_energy t_valuesPut s_ring s_oldest s_count x_signs x_length x_position x_complete x_orders x_kinds x_numbers x_values)) s.heap s.heap [] := va_S.rf
  have hl : lv_has ls 2 [(0, .ref ob), (1, .int p1)] := hl
  have h := hf
  unfold fX4_refresh at h
  obtain ⟨H, hH⟩ : ∃ H, H = s.heap := ⟨_, rfl⟩
  obtain ⟨locs, hlo⟩ : ∃ locs : List Loc, locs = [] := ⟨_, rfl⟩
  rw [← hH] at hP
  rw [← hlo] at hS
  have hS : va_S (k_A (wAll cyI cyC cyO ob n0 n1 n2 n3 t0 t1 t2 t3 s0 aR ro r1 r2 r3 x0 x1 x2 x3 x4 n_ones n_twos n_settings n_tick n_energy n_valuesPut t_ones t_twos t_settings t_tick t_energy t_valuesPut s_ring s_oldest s_count x_signs x_length x_position x_complete x_orders x_kinds x_numbers x_values)) s.heap H locs := by rw [hH]; exact hS
  show W p l e (k_rm 4 92) s m [.ref ob, .int p1].toArray below meth c s.heap [] 0 0 _ _
  rw [← hlo, ← hH]
  refine lv_iload_n hx hb dX4_refresh_0 rfl (lv_at hl 1 rfl) ?_
  refine lv_bipush (v := 20) hx hb dX4_refresh_1 (by decide) ?_
  obtain ⟨z1, hc3, h⟩ := k_b1_e h
  refine g_callRI_S (As := [.int p1, .int 20]) (rest := []) hC (mX4_isIndex l dC dI cyI cyC cyO p1 20 hc3) q80 q81 q8 q82 2 hdX4_isIndex ⟨Nat.le_of_ble_eq_true rfl, Nat.le_of_ble_eq_true rfl⟩ ⟨Nat.le_of_ble_eq_true rfl, Nat.le_of_ble_eq_true rfl⟩ rfl rfl hl.1 (Nat.le_of_ble_eq_true rfl) va_P_nil hK hS dX4_refresh_3 (fun H locs hk hS => ?_)
  have hP := k_kept hP hk
  obtain ⟨hv, h⟩ := k_req_e h
  refine g_callRV_S (As := [.int z1]) (rest := []) hC (mX4_requireIndex l (dC, dI) (tyS cyI cyC cyO) z1 hv) q188 q189 q8 q190 1 hdX4_requireIndex ⟨Nat.le_of_ble_eq_true rfl, Nat.le_of_ble_eq_true rfl⟩ ⟨Nat.le_of_ble_eq_true rfl, Nat.le_of_ble_eq_true rfl⟩ rfl rfl hl.1 (Nat.le_of_ble_eq_true rfl) va_P_nil hK hS dX4_refresh_6 (fun H locs hk hS => ?_)
  have hP := k_kept hP hk
  refine lv_aload_n hx hb dX4_refresh_9 rfl (lv_at hl 0 rfl) ?_
  refine va_get (D := (dC, dI)) (ci := 3) (v := .ref n0) (C := RX4) (T := TX4) (N := 4) hx hb hts iaX4 hown hK hP 0 rfl rfl 0 (by decide) (hts _ q72) (fun _ h9 => h9) rfl dX4_refresh_10 ?_
  refine lv_iload_n hx hb dX4_refresh_13 rfl (lv_at hl 1 rfl) ?_
  obtain ⟨z2, hc14, h⟩ := k_b1_e h
  refine g_callRI_V (As := [.int p1]) (rest := []) hC (mX3_isLocked l dC dI cyI cyC cyO n0 n1 n2 n3 n_ones n_twos n_settings n_tick n_energy n_valuesPut p1 hc14) q199 q155 q156 q9 q157 1 hdX3_isLocked ⟨Nat.le_of_ble_eq_true rfl, Nat.le_of_ble_eq_true rfl⟩ ⟨Nat.le_of_ble_eq_true rfl, Nat.le_of_ble_eq_true rfl⟩ rfl rfl hl.1 (Nat.le_of_ble_eq_true rfl) (hP.sub (ws' := (wX3 cyI cyC n0 n1 n2 n3 n_ones n_twos n_settings n_tick n_energy n_valuesPut)) [1, 2, 3, 4] rfl) hK (va_recv hK hP (ci := 2) (q0 := 1) rfl rfl) hS dX4_refresh_14 (fun H locs hk hS => ?_)
  have hP := k_kept hP hk
  obtain ⟨K25, hK25, h⟩ := k_j1_e h
  have J25 : ∀ (z3 : Int32) (H : Heap) (locs : List Loc) (ls : Array Slot), K25 z3 = some (r, r_n_ones, r_n_twos, r_n_energy, r_s_ring, r_s_oldest, r_s_count) → va_P (dC, dI) vwCl (wAll cyI cyC cyO ob n0 n1 n2 n3 t0 t1 t2 t3 s0 aR ro r1 r2 r3 x0 x1 x2 x3 x4 n_ones n_twos n_settings n_tick n_energy n_valuesPut t_ones t_twos t_settings t_tick t_energy t_valuesPut s_ring s_oldest s_count x_signs x_length x_position x_complete x_orders x_kinds x_numbers x_values) H → va_S (k_A (wAll cyI cyC cyO ob n0 n1 n2 n3 t0 t1 t2 t3 s0 aR ro r1 r2 r3 x0 x1 x2 x3 x4 n_ones n_twos n_settings n_tick n_energy n_valuesPut t_ones t_twos t_settings t_tick t_energy t_valuesPut s_ring s_oldest s_count x_signs x_length x_position x_complete x_orders x_kinds x_numbers x_values)) s.heap H locs → lv_has ls 2 [(0, .ref ob), (1, .int p1)] → W p l e (k_rm 4 92) s m [.ref ob, .int p1].toArray below meth c H locs 0 0 (MQ below (qMI r (dC, dI) (wAll cyI cyC cyO ob n0 n1 n2 n3 t0 t1 t2 t3 s0 aR ro r1 r2 r3 x0 x1 x2 x3 x4 n_ones n_twos n_settings n_tick n_energy n_valuesPut t_ones t_twos t_settings t_tick t_energy t_valuesPut s_ring s_oldest s_count x_signs x_length x_position x_complete x_orders x_kinds x_numbers x_values) (wAll cyI cyC cyO ob n0 n1 n2 n3 t0 t1 t2 t3 s0 aR ro r1 r2 r3 x0 x1 x2 x3 x4 r_n_ones r_n_twos n_settings n_tick r_n_energy n_valuesPut t_ones t_twos t_settings t_tick t_energy t_valuesPut r_s_ring r_s_oldest r_s_count x_signs x_length x_position x_complete x_orders x_kinds x_numbers x_values)) [.ref ob, .int p1].toArray s 0 0 (k_A (wAll cyI cyC cyO ob n0 n1 n2 n3 t0 t1 t2 t3 s0 aR ro r1 r2 r3 x0 x1 x2 x3 x4 n_ones n_twos n_settings n_tick n_energy n_valuesPut t_ones t_twos t_settings t_tick t_energy t_valuesPut s_ring s_oldest s_count x_signs x_length x_position x_complete x_orders x_kinds x_numbers x_values))) (F0 m 25 ls [.int z3]) := by
    intro z3 H locs ls h hP hS hl
    have h := k_a1 hK25 h
    obtain ⟨hv, h⟩ := k_req_e h
    refine g_callRV_S (As := [.int z3]) (rest := []) hC (mX4_requireState l (dC, dI) (tyS cyI cyC cyO) z3 hv) q200 q201 q8 q202 1 hdX4_requireState ⟨Nat.le_of_ble_eq_true rfl, Nat.le_of_ble_eq_true rfl⟩ ⟨Nat.le_of_ble_eq_true rfl, Nat.le_of_ble_eq_true rfl⟩ rfl rfl hl.1 (Nat.le_of_ble_eq_true rfl) va_P_nil hK hS dX4_refresh_25 (fun H locs hk hS => ?_)
    have hP := k_kept hP hk
    refine lv_aload_n hx hb dX4_refresh_28 rfl (lv_at hl 0 rfl) ?_
    refine va_get (D := (dC, dI)) (ci := 3) (v := .ref s0) (C := RX4) (T := TX4) (N := 4) hx hb hts iaX4 hown hK hP 0 rfl rfl 2 (by decide) (hts _ q74) (fun _ h9 => h9) rfl dX4_refresh_29 ?_
    refine lv_aload_n hx hb dX4_refresh_32 rfl (lv_at hl 0 rfl) ?_
    refine va_get (D := (dC, dI)) (ci := 3) (v := .ref n0) (C := RX4) (T := TX4) (N := 4) hx hb hts iaX4 hown hK hP 0 rfl rfl 0 (by decide) (hts _ q72) (fun _ h9 => h9) rfl dX4_refresh_33 ?_
    obtain ⟨c4, c5, c6, hc36, h⟩ := k_b3_e h
    refine g_callMV_V (As := [.ref n0]) (rest := []) hC (mX2_save l dC dI cyI cyC cyO s0 aR ro r1 r2 r3 n0 n1 n2 n3 s_ring s_oldest s_count n_ones n_twos n_settings n_tick n_energy n_valuesPut hc36) q124 q125 q126 q10 q127 1 hdX2_save ⟨Nat.le_of_ble_eq_true rfl, Nat.le_of_ble_eq_true rfl⟩ ⟨Nat.le_of_ble_eq_true rfl, Nat.le_of_ble_eq_true rfl⟩ rfl rfl hl.1 (Nat.le_of_ble_eq_true rfl) (hP.sub (ws' := (wX2 cyI cyC cyO s0 aR ro r1 r2 r3 s_ring s_oldest s_count) ++ (wX3 cyI cyC n0 n1 n2 n3 n_ones n_twos n_settings n_tick n_energy n_valuesPut)) [9, 10, 11, 12, 13, 14, 15, 16, 17, 18, 19, 20, 21, 22, 23, 24, 25, 26, 27, 28, 29, 30, 31, 32, 33, 34, 1, 2, 3, 4] rfl) hK (hD.sub (ws' := (wX2 cyI cyC cyO s0 aR ro r1 r2 r3 s_ring s_oldest s_count) ++ (wX3 cyI cyC n0 n1 n2 n3 n_ones n_twos n_settings n_tick n_energy n_valuesPut)) [9, 10, 11, 12, 13, 14, 15, 16, 17, 18, 19, 20, 21, 22, 23, 24, 25, 26, 27, 28, 29, 30, 31, 32, 33, 34, 1, 2, 3, 4] (by decide) rfl) (va_recv hK hP (ci := 1) (q0 := 9) rfl rfl) hS dX4_refresh_36 (fun H locs hPn hk hS => ?_)
    have hP : va_P (dC, dI) vwCl (wAll cyI cyC cyO ob n0 n1 n2 n3 t0 t1 t2 t3 s0 aR ro r1 r2 r3 x0 x1 x2 x3 x4 n_ones n_twos n_settings n_tick n_energy n_valuesPut t_ones t_twos t_settings t_tick t_energy t_valuesPut c4 c5 c6 x_signs x_length x_position x_complete x_orders x_kinds x_numbers x_values) H := k_repl hP hD [9, 10, 11, 12, 13, 14, 15, 16, 17, 18, 19, 20, 21, 22, 23, 24, 25, 26, 27, 28, 29, 30, 31, 32, 33, 34, 1, 2, 3, 4] rfl hk hPn [.inl 0, .inr 26, .inr 27, .inr 28, .inr 29, .inl 5, .inl 6, .inl 7, .inl 8, .inr 0, .inr 1, .inr 2, .inr 3, .inr 4, .inr 5, .inr 6, .inr 7, .inr 8, .inr 9, .inr 10, .inr 11, .inr 12, .inr 13, .inr 14, .inr 15, .inr 16, .inr 17, .inr 18, .inr 19, .inr 20, .inr 21, .inr 22, .inr 23, .inr 24, .inr 25, .inl 35, .inl 36, .inl 37, .inl 38, .inl 39] rfl (by decide)
    have hD : va_D (k_A (wAll cyI cyC cyO ob n0 n1 n2 n3 t0 t1 t2 t3 s0 aR ro r1 r2 r3 x0 x1 x2 x3 x4 n_ones n_twos n_settings n_tick n_energy n_valuesPut t_ones t_twos t_settings t_tick t_energy t_valuesPut s_ring s_oldest s_count x_signs x_length x_position x_complete x_orders x_kinds x_numbers x_values)) (wAll cyI cyC cyO ob n0 n1 n2 n3 t0 t1 t2 t3 s0 aR ro r1 r2 r3 x0 x1 x2 x3 x4 n_ones n_twos n_settings n_tick n_energy n_valuesPut t_ones t_twos t_settings t_tick t_energy t_valuesPut c4 c5 c6 x_signs x_length x_position x_complete x_orders x_kinds x_numbers x_values) := k_Dm hD rfl
    refine lv_aload_n hx hb dX4_refresh_39 rfl (lv_at hl 0 rfl) ?_
    refine va_get (D := (dC, dI)) (ci := 3) (v := .ref n0) (C := RX4) (T := TX4) (N := 4) hx hb hts iaX4 hown hK hP 0 rfl rfl 0 (by decide) (hts _ q72) (fun _ h9 => h9) rfl dX4_refresh_40 ?_
    refine lv_iload_n hx hb dX4_refresh_43 rfl (lv_at hl 1 rfl) ?_
    obtain ⟨z7, c8, c9, c10, hc44, h⟩ := k_b4_e h
    refine g_callMI_V (As := [.int p1]) (rest := []) hC (mX3_refreshRow l dC dI cyI cyC cyO n0 n1 n2 n3 n_ones n_twos n_settings n_tick n_energy n_valuesPut p1 hc44) q451 q452 q453 q9 q454 1 hdX3_refreshRow ⟨Nat.le_of_ble_eq_true rfl, Nat.le_of_ble_eq_true rfl⟩ ⟨Nat.le_of_ble_eq_true rfl, Nat.le_of_ble_eq_true rfl⟩ rfl rfl hl.1 (Nat.le_of_ble_eq_true rfl) (hP.sub (ws' := (wX3 cyI cyC n0 n1 n2 n3 n_ones n_twos n_settings n_tick n_energy n_valuesPut)) [1, 2, 3, 4] rfl) hK (hD.sub (ws' := (wX3 cyI cyC n0 n1 n2 n3 n_ones n_twos n_settings n_tick n_energy n_valuesPut)) [1, 2, 3, 4] (by decide) rfl) (va_recv hK hP (ci := 2) (q0 := 1) rfl rfl) hS dX4_refresh_44 (fun H locs hPn hk hS => ?_)
    have hP : va_P (dC, dI) vwCl (wAll cyI cyC cyO ob n0 n1 n2 n3 t0 t1 t2 t3 s0 aR ro r1 r2 r3 x0 x1 x2 x3 x4 c8 c9 n_settings n_tick c10 n_valuesPut t_ones t_twos t_settings t_tick t_energy t_valuesPut c4 c5 c6 x_signs x_length x_position x_complete x_orders x_kinds x_numbers x_values) H := k_repl hP hD [1, 2, 3, 4] rfl hk hPn [.inl 0, .inr 0, .inr 1, .inr 2, .inr 3, .inl 5, .inl 6, .inl 7, .inl 8, .inl 9, .inl 10, .inl 11, .inl 12, .inl 13, .inl 14, .inl 15, .inl 16, .inl 17, .inl 18, .inl 19, .inl 20, .inl 21, .inl 22, .inl 23, .inl 24, .inl 25, .inl 26, .inl 27, .inl 28, .inl 29, .inl 30, .inl 31, .inl 32, .inl 33, .inl 34, .inl 35, .inl 36, .inl 37, .inl 38, .inl 39] rfl (by decide)
    have hD : va_D (k_A (wAll cyI cyC cyO ob n0 n1 n2 n3 t0 t1 t2 t3 s0 aR ro r1 r2 r3 x0 x1 x2 x3 x4 n_ones n_twos n_settings n_tick n_energy n_valuesPut t_ones t_twos t_settings t_tick t_energy t_valuesPut s_ring s_oldest s_count x_signs x_length x_position x_complete x_orders x_kinds x_numbers x_values)) (wAll cyI cyC cyO ob n0 n1 n2 n3 t0 t1 t2 t3 s0 aR ro r1 r2 r3 x0 x1 x2 x3 x4 c8 c9 n_settings n_tick c10 n_valuesPut t_ones t_twos t_settings t_tick t_energy t_valuesPut c4 c5 c6 x_signs x_length x_position x_complete x_orders x_kinds x_numbers x_values) := k_Dm hD rfl
    obtain ⟨e0, e1, e2, e3, e4, e5, e6⟩ := k_t7 h
    exact g_retMI hx hb hr hlk hS e0 (by rw [← e1, ← e2, ← e3, ← e4, ← e5, ← e6]; exact hP) dX4_refresh_47
  refine g_if_ne (tgt := 24) hx hb dX4_refresh_17 (by decide) h (fun h => ?_) (fun h => ?_)
  · refine lv_iconst (v := 0) hx hb dX4_refresh_24 (by decide) ?_
    exact J25 0 _ _ _ h hP hS (lv_sub hl [0, 1] rfl)
  · refine lv_iconst (v := 1) hx hb dX4_refresh_20 (by decide) ?_
    refine lv_goto (tgt := 25) hx hb dX4_refresh_21 (by decide) ?_
    exact J25 1 _ _ _ h hP hS (lv_sub hl [0, 1] rfl)
def fX4_heat (n_ones : Nat → Int32) (n_twos : Nat → Int32) (n_settings : Nat → Int32) (n_tick : Int32) (n_energy : Int32) (n_valuesPut : Int32) (s_ring : Nat → SV) (s_oldest : Int32) (s_count : Int32) (p1 : Int32) : Option (Int32 × (Nat → Int32) × (Nat → Int32) × (Nat → SV) × Int32 × Int32) :=
  k_b1 (fX4_isWithin p1 1 9) fun (z1 : Int32) =>
  k_if (z1 = 0) none <|
  k_b3 (fX2_save s_ring s_oldest s_count n_ones n_twos n_settings n_tick n_energy n_valuesPut) fun (c2 : Nat → SV) (c3 : Int32) (c4 : Int32) =>
  k_b3 (fX3_heatRows n_ones n_twos p1) fun (z5 : Int32) (c6 : Nat → Int32) (c7 : Nat → Int32) =>
  some (z5, c6, c7, c2, c3, c4)
theorem hdX4_heat : yX4_heat.cls = RX4 ∧ yX4_heat.cls ≠ "java/lang/invoke/MethodHandle" ∧ yX4_heat.cls ≠ "java/lang/invoke/VarHandle" ∧ (parseMethodDescriptor yX4_heat.desc).map (fun d => d.parameters.length) = some 1 := by decide +kernel
set_option maxRecDepth 100000 in
set_option maxHeartbeats 4000000 in
theorem mX4_heat (l : Launch) (dC : Nat → ClassId) (dI : Nat → Nat → Nat) (cyI cyC cyO : ClassId) (ob : Nat) (n0 : Nat) (n1 : Nat) (n2 : Nat) (n3 : Nat) (t0 : Nat) (t1 : Nat) (t2 : Nat) (t3 : Nat) (s0 : Nat) (aR : Nat) (ro : Nat → Nat) (r1 : Nat → Nat) (r2 : Nat → Nat) (r3 : Nat → Nat) (x0 : Nat) (x1 : Nat) (x2 : Nat) (x3 : Nat) (x4 : Nat) (n_ones : Nat → Int32) (n_twos : Nat → Int32) (n_settings : Nat → Int32) (n_tick : Int32) (n_energy : Int32) (n_valuesPut : Int32) (t_ones : Nat → Int32) (t_twos : Nat → Int32) (t_settings : Nat → Int32) (t_tick : Int32) (t_energy : Int32) (t_valuesPut : Int32) (s_ring : Nat → SV) (s_oldest : Int32) (s_count : Int32) (x_signs : Nat → Int32) (x_length : Int32) (x_position : Int32) (x_complete : Int32) (x_orders : Int32) (x_kinds : Nat → Int32) (x_numbers : Nat → Int32) (x_values : Nat → Int32) (p1 : Int32) {r : Int32} {r_n_ones : Nat → Int32} {r_n_twos : Nat → Int32} {r_s_ring : Nat → SV} {r_s_oldest : Int32} {r_s_count : Int32} (hf : fX4_heat n_ones n_twos n_settings n_tick n_energy n_valuesPut s_ring s_oldest s_count p1 = some (r, r_n_ones, r_n_twos, r_s_ring, r_s_oldest, r_s_count)) : MetMI l yX4_heat cX4_heat 2 (some .int) 3 68 [.ref ob, .int p1] (dC, dI) (tyS cyI cyC cyO) (wAll cyI cyC cyO ob n0 n1 n2 n3 t0 t1 t2 t3 s0 aR ro r1 r2 r3 x0 x1 x2 x3 x4 n_ones n_twos n_settings n_tick n_energy n_valuesPut t_ones t_twos t_settings t_tick t_energy t_valuesPut s_ring s_oldest s_count x_signs x_length x_position x_complete x_orders x_kinds x_numbers x_values) (wAll cyI cyC cyO ob n0 n1 n2 n3 t0 t1 t2 t3 s0 aR ro r1 r2 r3 x0 x1 x2 x3 x4 r_n_ones r_n_twos n_settings n_tick n_energy n_valuesPut t_ones t_twos t_settings t_tick t_energy t_valuesPut r_s_ring r_s_oldest r_s_count x_signs x_length x_position x_complete x_orders x_kinds x_numbers x_values) r := by
  refine metMI_of (by decide) (Nat.le_of_ble_eq_true rfl) ?_
  intro p e s m below meth c ls hC hr hlk hP hK hD hl
  have hC : CallFix p m c cX4_heat 2 s [.ref ob, .int p1].toArray wA RX4 := hC
  obtain ⟨hx, hb, hml, hown, hts⟩ := id hC
  have hS : va_S (k_A (wAll cyI cyC cyO ob n0 n1 n2 n3 t0 t1 t2 t3 s0 aR ro r1 r2 r3 x0 x1 x2 x3 x4 n_ones n_twos n_settings n_tick n_energy n_valuesPut t_ones t_twos t_settings t_tick t_energy t_valuesPut s_ring s_oldest s_count x_signs x_length x_position x_complete x_orders x_kinds x_numbers x_values)) s.heap s.heap [] := va_S.rf
  have hl : lv_has ls 2 [(0, .ref ob), (1, .int p1)] := hl
  have h := hf
  unfold fX4_heat at h
  obtain ⟨H, hH⟩ : ∃ H, H = s.heap := ⟨_, rfl⟩
  obtain ⟨locs, hlo⟩ : ∃ locs : List Loc, locs = [] := ⟨_, rfl⟩
  rw [← hH] at hP
  rw [← hlo] at hS
  have hS : va_S (k_A (wAll cyI cyC cyO ob n0 n1 n2 n3 t0 t1 t2 t3 s0 aR ro r1 r2 r3 x0 x1 x2 x3 x4 n_ones n_twos n_settings n_tick n_energy n_valuesPut t_ones t_twos t_settings t_tick t_energy t_valuesPut s_ring s_oldest s_count x_signs x_length x_position x_complete x_orders x_kinds x_numbers x_values)) s.heap H locs := by rw [hH]; exact hS
  show W p l e (k_rm 3 68) s m [.ref ob, .int p1].toArray below meth c s.heap [] 0 0 _ _
  rw [← hlo, ← hH]
  refine lv_iload_n hx hb dX4_heat_0 rfl (lv_at hl 1 rfl) ?_
  refine lv_iconst (v := 1) hx hb dX4_heat_1 (by decide) ?_
  refine lv_bipush (v := 9) hx hb dX4_heat_2 (by decide) ?_
  obtain ⟨z1, hc4, h⟩ := k_b1_e h
  refine g_callRI_S (As := [.int p1, .int 1, .int 9]) (rest := []) hC (mX4_isWithin l dC dI cyI cyC cyO p1 1 9 hc4) q220 q221 q8 q222 3 hdX4_isWithin ⟨Nat.le_of_ble_eq_true rfl, Nat.le_of_ble_eq_true rfl⟩ ⟨Nat.le_of_ble_eq_true rfl, Nat.le_of_ble_eq_true rfl⟩ rfl rfl hl.1 (Nat.le_of_ble_eq_true rfl) va_P_nil hK hS dX4_heat_4 (fun H locs hk hS => ?_)
  have hP := k_kept hP hk
  obtain ⟨hv, h⟩ := k_req_e h
  refine g_callRV_S (As := [.int z1]) (rest := []) hC (mX4_requireArgument l (dC, dI) (tyS cyI cyC cyO) z1 hv) q83 q84 q8 q85 1 hdX4_requireArgument ⟨Nat.le_of_ble_eq_true rfl, Nat.le_of_ble_eq_true rfl⟩ ⟨Nat.le_of_ble_eq_true rfl, Nat.le_of_ble_eq_true rfl⟩ rfl rfl hl.1 (Nat.le_of_ble_eq_true rfl) va_P_nil hK hS dX4_heat_7 (fun H locs hk hS => ?_)
  have hP := k_kept hP hk
  refine lv_aload_n hx hb dX4_heat_10 rfl (lv_at hl 0 rfl) ?_
  refine va_get (D := (dC, dI)) (ci := 3) (v := .ref s0) (C := RX4) (T := TX4) (N := 4) hx hb hts iaX4 hown hK hP 0 rfl rfl 2 (by decide) (hts _ q74) (fun _ h9 => h9) rfl dX4_heat_11 ?_
  refine lv_aload_n hx hb dX4_heat_14 rfl (lv_at hl 0 rfl) ?_
  refine va_get (D := (dC, dI)) (ci := 3) (v := .ref n0) (C := RX4) (T := TX4) (N := 4) hx hb hts iaX4 hown hK hP 0 rfl rfl 0 (by decide) (hts _ q72) (fun _ h9 => h9) rfl dX4_heat_15 ?_
  obtain ⟨c2, c3, c4, hc18, h⟩ := k_b3_e h
  refine g_callMV_V (As := [.ref n0]) (rest := []) hC (mX2_save l dC dI cyI cyC cyO s0 aR ro r1 r2 r3 n0 n1 n2 n3 s_ring s_oldest s_count n_ones n_twos n_settings n_tick n_energy n_valuesPut hc18) q124 q125 q126 q10 q127 1 hdX2_save ⟨Nat.le_of_ble_eq_true rfl, Nat.le_of_ble_eq_true rfl⟩ ⟨Nat.le_of_ble_eq_true rfl, Nat.le_of_ble_eq_true rfl⟩ rfl rfl hl.1 (Nat.le_of_ble_eq_true rfl) (hP.sub (ws' := (wX2 cyI cyC cyO s0 aR ro r1 r2 r3 s_ring s_oldest s_count) ++ (wX3 cyI cyC n0 n1 n2 n3 n_ones n_twos n_settings n_tick n_energy n_valuesPut)) [9, 10, 11, 12, 13, 14, 15, 16, 17, 18, 19, 20, 21, 22, 23, 24, 25, 26, 27, 28, 29, 30, 31, 32, 33, 34, 1, 2, 3, 4] rfl) hK (hD.sub (ws' := (wX2 cyI cyC cyO s0 aR ro r1 r2 r3 s_ring s_oldest s_count) ++ (wX3 cyI cyC n0 n1 n2 n3 n_ones n_twos n_settings n_tick n_energy n_valuesPut)) [9, 10, 11, 12, 13, 14, 15, 16, 17, 18, 19, 20, 21, 22, 23, 24, 25, 26, 27, 28, 29, 30, 31, 32, 33, 34, 1, 2, 3, 4] (by decide) rfl) (va_recv hK hP (ci := 1) (q0 := 9) rfl rfl) hS dX4_heat_18 (fun H locs hPn hk hS => ?_)
  have hP : va_P (dC, dI) vwCl (wAll cyI cyC cyO ob n0 n1 n2 n3 t0 t1 t2 t3 s0 aR ro r1 r2 r3 x0 x1 x2 x3 x4 n_ones n_twos n_settings n_tick n_energy n_valuesPut t_ones t_twos t_settings t_tick t_energy t_valuesPut c2 c3 c4 x_signs x_length x_position x_complete x_orders x_kinds x_numbers x_values) H := k_repl hP hD [9, 10, 11, 12, 13, 14, 15, 16, 17, 18, 19, 20, 21, 22, 23, 24, 25, 26, 27, 28, 29, 30, 31, 32, 33, 34, 1, 2, 3, 4] rfl hk hPn [.inl 0, .inr 26, .inr 27, .inr 28, .inr 29, .inl 5, .inl 6, .inl 7, .inl 8, .inr 0, .inr 1, .inr 2, .inr 3, .inr 4, .inr 5, .inr 6, .inr 7, .inr 8, .inr 9, .inr 10, .inr 11, .inr 12, .inr 13, .inr 14, .inr 15, .inr 16, .inr 17, .inr 18, .inr 19, .inr 20, .inr 21, .inr 22, .inr 23, .inr 24, .inr 25, .inl 35, .inl 36, .inl 37, .inl 38, .inl 39] rfl (by decide)
  have hD : va_D (k_A (wAll cyI cyC cyO ob n0 n1 n2 n3 t0 t1 t2 t3 s0 aR ro r1 r2 r3 x0 x1 x2 x3 x4 n_ones n_twos n_settings n_tick n_energy n_valuesPut t_ones t_twos t_settings t_tick t_energy t_valuesPut s_ring s_oldest s_count x_signs x_length x_position x_complete x_orders x_kinds x_numbers x_values)) (wAll cyI cyC cyO ob n0 n1 n2 n3 t0 t1 t2 t3 s0 aR ro r1 r2 r3 x0 x1 x2 x3 x4 n_ones n_twos n_settings n_tick n_energy n_valuesPut t_ones t_twos t_settings t_tick t_energy t_valuesPut c2 c3 c4 x_signs x_length x_position x_complete x_orders x_kinds x_numbers x_values) := k_Dm hD rfl
  refine lv_aload_n hx hb dX4_heat_21 rfl (lv_at hl 0 rfl) ?_
  refine va_get (D := (dC, dI)) (ci := 3) (v := .ref n0) (C := RX4) (T := TX4) (N := 4) hx hb hts iaX4 hown hK hP 0 rfl rfl 0 (by decide) (hts _ q72) (fun _ h9 => h9) rfl dX4_heat_22 ?_
  refine lv_iload_n hx hb dX4_heat_25 rfl (lv_at hl 1 rfl) ?_
  obtain ⟨z5, c6, c7, hc26, h⟩ := k_b3_e h
  refine g_callMI_V (As := [.int p1]) (rest := []) hC (mX3_heatRows l dC dI cyI cyC cyO n0 n1 n2 n3 n_ones n_twos n_settings n_tick n_energy n_valuesPut p1 hc26) q431 q432 q433 q9 q434 1 hdX3_heatRows ⟨Nat.le_of_ble_eq_true rfl, Nat.le_of_ble_eq_true rfl⟩ ⟨Nat.le_of_ble_eq_true rfl, Nat.le_of_ble_eq_true rfl⟩ rfl rfl hl.1 (Nat.le_of_ble_eq_true rfl) (hP.sub (ws' := (wX3 cyI cyC n0 n1 n2 n3 n_ones n_twos n_settings n_tick n_energy n_valuesPut)) [1, 2, 3, 4] rfl) hK (hD.sub (ws' := (wX3 cyI cyC n0 n1 n2 n3 n_ones n_twos n_settings n_tick n_energy n_valuesPut)) [1, 2, 3, 4] (by decide) rfl) (va_recv hK hP (ci := 2) (q0 := 1) rfl rfl) hS dX4_heat_26 (fun H locs hPn hk hS => ?_)
  have hP : va_P (dC, dI) vwCl (wAll cyI cyC cyO ob n0 n1 n2 n3 t0 t1 t2 t3 s0 aR ro r1 r2 r3 x0 x1 x2 x3 x4 c6 c7 n_settings n_tick n_energy n_valuesPut t_ones t_twos t_settings t_tick t_energy t_valuesPut c2 c3 c4 x_signs x_length x_position x_complete x_orders x_kinds x_numbers x_values) H := k_repl hP hD [1, 2, 3, 4] rfl hk hPn [.inl 0, .inr 0, .inr 1, .inr 2, .inr 3, .inl 5, .inl 6, .inl 7, .inl 8, .inl 9, .inl 10, .inl 11, .inl 12, .inl 13, .inl 14, .inl 15, .inl 16, .inl 17, .inl 18, .inl 19, .inl 20, .inl 21, .inl 22, .inl 23, .inl 24, .inl 25, .inl 26, .inl 27, .inl 28, .inl 29, .inl 30, .inl 31, .inl 32, .inl 33, .inl 34, .inl 35, .inl 36, .inl 37, .inl 38, .inl 39] rfl (by decide)
  have hD : va_D (k_A (wAll cyI cyC cyO ob n0 n1 n2 n3 t0 t1 t2 t3 s0 aR ro r1 r2 r3 x0 x1 x2 x3 x4 n_ones n_twos n_settings n_tick n_energy n_valuesPut t_ones t_twos t_settings t_tick t_energy t_valuesPut s_ring s_oldest s_count x_signs x_length x_position x_complete x_orders x_kinds x_numbers x_values)) (wAll cyI cyC cyO ob n0 n1 n2 n3 t0 t1 t2 t3 s0 aR ro r1 r2 r3 x0 x1 x2 x3 x4 c6 c7 n_settings n_tick n_energy n_valuesPut t_ones t_twos t_settings t_tick t_energy t_valuesPut c2 c3 c4 x_signs x_length x_position x_complete x_orders x_kinds x_numbers x_values) := k_Dm hD rfl
  obtain ⟨e0, e1, e2, e3, e4, e5⟩ := k_t6 h
  exact g_retMI hx hb hr hlk hS e0 (by rw [← e1, ← e2, ← e3, ← e4, ← e5]; exact hP) dX4_heat_29
def fX4_pass (n_ones : Nat → Int32) (n_twos : Nat → Int32) (n_settings : Nat → Int32) (n_tick : Int32) (n_energy : Int32) (n_valuesPut : Int32) (s_ring : Nat → SV) (s_oldest : Int32) (s_count : Int32) (p1 : Int32) : Option (Int32 × Int32 × (Nat → SV) × Int32 × Int32) :=
  k_b1 (fX4_isWithin p1 1 99) fun (z1 : Int32) =>
  k_if (z1 = 0) none <|
  k_let (n_tick + p1) fun (z2 : Int32) =>
  k_j1
  (fun (z3 : Int32) =>
    k_if (z3 = 0) none <|
    k_b3 (fX2_save s_ring s_oldest s_count n_ones n_twos n_settings n_tick n_energy n_valuesPut) fun (c4 : Nat → SV) (c5 : Int32) (c6 : Int32) =>
    k_let (n_tick + p1) fun (z7 : Int32) =>
    some (z7, z7, c4, c5, c6))
  (fun K30 =>
  k_if (9999 < z2)
  (
    K30 0)
  (
    K30 1))
theorem hdX4_pass : yX4_pass.cls = RX4 ∧ yX4_pass.cls ≠ "java/lang/invoke/MethodHandle" ∧ yX4_pass.cls ≠ "java/lang/invoke/VarHandle" ∧ (parseMethodDescriptor yX4_pass.desc).map (fun d => d.parameters.length) = some 1 := by decide +kernel
set_option maxRecDepth 100000 in
set_option maxHeartbeats 4000000 in
theorem mX4_pass (l : Launch) (dC : Nat → ClassId) (dI : Nat → Nat → Nat) (cyI cyC cyO : ClassId) (ob : Nat) (n0 : Nat) (n1 : Nat) (n2 : Nat) (n3 : Nat) (t0 : Nat) (t1 : Nat) (t2 : Nat) (t3 : Nat) (s0 : Nat) (aR : Nat) (ro : Nat → Nat) (r1 : Nat → Nat) (r2 : Nat → Nat) (r3 : Nat → Nat) (x0 : Nat) (x1 : Nat) (x2 : Nat) (x3 : Nat) (x4 : Nat) (n_ones : Nat → Int32) (n_twos : Nat → Int32) (n_settings : Nat → Int32) (n_tick : Int32) (n_energy : Int32) (n_valuesPut : Int32) (t_ones : Nat → Int32) (t_twos : Nat → Int32) (t_settings : Nat → Int32) (t_tick : Int32) (t_energy : Int32) (t_valuesPut : Int32) (s_ring : Nat → SV) (s_oldest : Int32) (s_count : Int32) (x_signs : Nat → Int32) (x_length : Int32) (x_position : Int32) (x_complete : Int32) (x_orders : Int32) (x_kinds : Nat → Int32) (x_numbers : Nat → Int32) (x_values : Nat → Int32) (p1 : Int32) {r : Int32} {r_n_tick : Int32} {r_s_ring : Nat → SV} {r_s_oldest : Int32} {r_s_count : Int32} (hf : fX4_pass n_ones n_twos n_settings n_tick n_energy n_valuesPut s_ring s_oldest s_count p1 = some (r, r_n_tick, r_s_ring, r_s_oldest, r_s_count)) : MetMI l yX4_pass cX4_pass 2 (some .int) 3 68 [.ref ob, .int p1] (dC, dI) (tyS cyI cyC cyO) (wAll cyI cyC cyO ob n0 n1 n2 n3 t0 t1 t2 t3 s0 aR ro r1 r2 r3 x0 x1 x2 x3 x4 n_ones n_twos n_settings n_tick n_energy n_valuesPut t_ones t_twos t_settings t_tick t_energy t_valuesPut s_ring s_oldest s_count x_signs x_length x_position x_complete x_orders x_kinds x_numbers x_values) (wAll cyI cyC cyO ob n0 n1 n2 n3 t0 t1 t2 t3 s0 aR ro r1 r2 r3 x0 x1 x2 x3 x4 n_ones n_twos n_settings r_n_tick n_energy n_valuesPut t_ones t_twos t_settings t_tick t_energy t_valuesPut r_s_ring r_s_oldest r_s_count x_signs x_length x_position x_complete x_orders x_kinds x_numbers x_values) r := by
  refine metMI_of (by decide) (Nat.le_of_ble_eq_true rfl) ?_
  intro p e s m below meth c ls hC hr hlk hP hK hD hl
  have hC : CallFix p m c cX4_pass 2 s [.ref ob, .int p1].toArray wA RX4 := hC
  obtain ⟨hx, hb, hml, hown, hts⟩ := id hC
  have hS : va_S (k_A (wAll cyI cyC cyO ob n0 n1 n2 n3 t0 t1 t2 t3 s0 aR ro r1 r2 r3 x0 x1 x2 x3 x4 n_ones n_twos n_settings n_tick n_energy n_valuesPut t_ones t_twos t_settings t_tick t_energy t_valuesPut s_ring s_oldest s_count x_signs x_length x_position x_complete x_orders x_kinds x_numbers x_values)) s.heap s.heap [] := va_S.rf
  have hl : lv_has ls 2 [(0, .ref ob), (1, .int p1)] := hl
  have h := hf
  unfold fX4_pass at h
  obtain ⟨H, hH⟩ : ∃ H, H = s.heap := ⟨_, rfl⟩
  obtain ⟨locs, hlo⟩ : ∃ locs : List Loc, locs = [] := ⟨_, rfl⟩
  rw [← hH] at hP
  rw [← hlo] at hS
  have hS : va_S (k_A (wAll cyI cyC cyO ob n0 n1 n2 n3 t0 t1 t2 t3 s0 aR ro r1 r2 r3 x0 x1 x2 x3 x4 n_ones n_twos n_settings n_tick n_energy n_valuesPut t_ones t_twos t_settings t_tick t_energy t_valuesPut s_ring s_oldest s_count x_signs x_length x_position x_complete x_orders x_kinds x_numbers x_values)) s.heap H locs := by rw [hH]; exact hS
  show W p l e (k_rm 3 68) s m [.ref ob, .int p1].toArray below meth c s.heap [] 0 0 _ _
  rw [← hlo, ← hH]
  refine lv_iload_n hx hb dX4_pass_0 rfl (lv_at hl 1 rfl) ?_
  refine lv_iconst (v := 1) hx hb dX4_pass_1 (by decide) ?_
  refine lv_bipush (v := 99) hx hb dX4_pass_2 (by decide) ?_
  obtain ⟨z1, hc4, h⟩ := k_b1_e h
  refine g_callRI_S (As := [.int p1, .int 1, .int 99]) (rest := []) hC (mX4_isWithin l dC dI cyI cyC cyO p1 1 99 hc4) q220 q221 q8 q222 3 hdX4_isWithin ⟨Nat.le_of_ble_eq_true rfl, Nat.le_of_ble_eq_true rfl⟩ ⟨Nat.le_of_ble_eq_true rfl, Nat.le_of_ble_eq_true rfl⟩ rfl rfl hl.1 (Nat.le_of_ble_eq_true rfl) va_P_nil hK hS dX4_pass_4 (fun H locs hk hS => ?_)
  have hP := k_kept hP hk
  obtain ⟨hv, h⟩ := k_req_e h
  refine g_callRV_S (As := [.int z1]) (rest := []) hC (mX4_requireArgument l (dC, dI) (tyS cyI cyC cyO) z1 hv) q83 q84 q8 q85 1 hdX4_requireArgument ⟨Nat.le_of_ble_eq_true rfl, Nat.le_of_ble_eq_true rfl⟩ ⟨Nat.le_of_ble_eq_true rfl, Nat.le_of_ble_eq_true rfl⟩ rfl rfl hl.1 (Nat.le_of_ble_eq_true rfl) va_P_nil hK hS dX4_pass_7 (fun H locs hk hS => ?_)
  have hP := k_kept hP hk
  refine lv_aload_n hx hb dX4_pass_10 rfl (lv_at hl 0 rfl) ?_
  refine va_get (D := (dC, dI)) (ci := 3) (v := .ref n0) (C := RX4) (T := TX4) (N := 4) hx hb hts iaX4 hown hK hP 0 rfl rfl 0 (by decide) (hts _ q72) (fun _ h9 => h9) rfl dX4_pass_11 ?_
  refine va_get (D := (dC, dI)) (ci := 2) (v := .int n_tick) (C := RX3) (T := TX3) (N := 6) hx hb hts iaX3 hown hK hP 1 rfl rfl 3 (by decide) (hts _ q43) (fun _ h9 => h9) rfl dX4_pass_14 ?_
  refine lv_iload_n hx hb dX4_pass_17 rfl (lv_at hl 1 rfl) ?_
  refine g_iadd hx hb dX4_pass_18 h (fun z2 h => ?_)
  refine lv_sipush (v := 9999) hx hb dX4_pass_19 (by decide) ?_
  obtain ⟨K30, hK30, h⟩ := k_j1_e h
  have J30 : ∀ (z3 : Int32) (H : Heap) (locs : List Loc) (ls : Array Slot), K30 z3 = some (r, r_n_tick, r_s_ring, r_s_oldest, r_s_count) → va_P (dC, dI) vwCl (wAll cyI cyC cyO ob n0 n1 n2 n3 t0 t1 t2 t3 s0 aR ro r1 r2 r3 x0 x1 x2 x3 x4 n_ones n_twos n_settings n_tick n_energy n_valuesPut t_ones t_twos t_settings t_tick t_energy t_valuesPut s_ring s_oldest s_count x_signs x_length x_position x_complete x_orders x_kinds x_numbers x_values) H → va_S (k_A (wAll cyI cyC cyO ob n0 n1 n2 n3 t0 t1 t2 t3 s0 aR ro r1 r2 r3 x0 x1 x2 x3 x4 n_ones n_twos n_settings n_tick n_energy n_valuesPut t_ones t_twos t_settings t_tick t_energy t_valuesPut s_ring s_oldest s_count x_signs x_length x_position x_complete x_orders x_kinds x_numbers x_values)) s.heap H locs → lv_has ls 2 [(0, .ref ob), (1, .int p1)] → W p l e (k_rm 3 68) s m [.ref ob, .int p1].toArray below meth c H locs 0 0 (MQ below (qMI r (dC, dI) (wAll cyI cyC cyO ob n0 n1 n2 n3 t0 t1 t2 t3 s0 aR ro r1 r2 r3 x0 x1 x2 x3 x4 n_ones n_twos n_settings n_tick n_energy n_valuesPut t_ones t_twos t_settings t_tick t_energy t_valuesPut s_ring s_oldest s_count x_signs x_length x_position x_complete x_orders x_kinds x_numbers x_values) (wAll cyI cyC cyO ob n0 n1 n2 n3 t0 t1 t2 t3 s0 aR ro r1 r2 r3 x0 x1 x2 x3 x4 n_ones n_twos n_settings r_n_tick n_energy n_valuesPut t_ones t_twos t_settings t_tick t_energy t_valuesPut r_s_ring r_s_oldest r_s_count x_signs x_length x_position x_complete x_orders x_kinds x_numbers x_values)) [.ref ob, .int p1].toArray s 0 0 (k_A (wAll cyI cyC cyO ob n0 n1 n2 n3 t0 t1 t2 t3 s0 aR ro r1 r2 r3 x0 x1 x2 x3 x4 n_ones n_twos n_settings n_tick n_energy n_valuesPut t_ones t_twos t_settings t_tick t_energy t_valuesPut s_ring s_oldest s_count x_signs x_length x_position x_complete x_orders x_kinds x_numbers x_values))) (F0 m 30 ls [.int z3]) := by
    intro z3 H locs ls h hP hS hl
    have h := k_a1 hK30 h
    obtain ⟨hv, h⟩ := k_req_e h
    refine g_callRV_S (As := [.int z3]) (rest := []) hC (mX4_requireState l (dC, dI) (tyS cyI cyC cyO) z3 hv) q200 q201 q8 q202 1 hdX4_requireState ⟨Nat.le_of_ble_eq_true rfl, Nat.le_of_ble_eq_true rfl⟩ ⟨Nat.le_of_ble_eq_true rfl, Nat.le_of_ble_eq_true rfl⟩ rfl rfl hl.1 (Nat.le_of_ble_eq_true rfl) va_P_nil hK hS dX4_pass_30 (fun H locs hk hS => ?_)
    have hP := k_kept hP hk
    refine lv_aload_n hx hb dX4_pass_33 rfl (lv_at hl 0 rfl) ?_
    refine va_get (D := (dC, dI)) (ci := 3) (v := .ref s0) (C := RX4) (T := TX4) (N := 4) hx hb hts iaX4 hown hK hP 0 rfl rfl 2 (by decide) (hts _ q74) (fun _ h9 => h9) rfl dX4_pass_34 ?_
    refine lv_aload_n hx hb dX4_pass_37 rfl (lv_at hl 0 rfl) ?_
    refine va_get (D := (dC, dI)) (ci := 3) (v := .ref n0) (C := RX4) (T := TX4) (N := 4) hx hb hts iaX4 hown hK hP 0 rfl rfl 0 (by decide) (hts _ q72) (fun _ h9 => h9) rfl dX4_pass_38 ?_
    obtain ⟨c4, c5, c6, hc41, h⟩ := k_b3_e h
    refine g_callMV_V (As := [.ref n0]) (rest := []) hC (mX2_save l dC dI cyI cyC cyO s0 aR ro r1 r2 r3 n0 n1 n2 n3 s_ring s_oldest s_count n_ones n_twos n_settings n_tick n_energy n_valuesPut hc41) q124 q125 q126 q10 q127 1 hdX2_save ⟨Nat.le_of_ble_eq_true rfl, Nat.le_of_ble_eq_true rfl⟩ ⟨Nat.le_of_ble_eq_true rfl, Nat.le_of_ble_eq_true rfl⟩ rfl rfl hl.1 (Nat.le_of_ble_eq_true rfl) (hP.sub (ws' := (wX2 cyI cyC cyO s0 aR ro r1 r2 r3 s_ring s_oldest s_count) ++ (wX3 cyI cyC n0 n1 n2 n3 n_ones n_twos n_settings n_tick n_energy n_valuesPut)) [9, 10, 11, 12, 13, 14, 15, 16, 17, 18, 19, 20, 21, 22, 23, 24, 25, 26, 27, 28, 29, 30, 31, 32, 33, 34, 1, 2, 3, 4] rfl) hK (hD.sub (ws' := (wX2 cyI cyC cyO s0 aR ro r1 r2 r3 s_ring s_oldest s_count) ++ (wX3 cyI cyC n0 n1 n2 n3 n_ones n_twos n_settings n_tick n_energy n_valuesPut)) [9, 10, 11, 12, 13, 14, 15, 16, 17, 18, 19, 20, 21, 22, 23, 24, 25, 26, 27, 28, 29, 30, 31, 32, 33, 34, 1, 2, 3, 4] (by decide) rfl) (va_recv hK hP (ci := 1) (q0 := 9) rfl rfl) hS dX4_pass_41 (fun H locs hPn hk hS => ?_)
    have hP : va_P (dC, dI) vwCl (wAll cyI cyC cyO ob n0 n1 n2 n3 t0 t1 t2 t3 s0 aR ro r1 r2 r3 x0 x1 x2 x3 x4 n_ones n_twos n_settings n_tick n_energy n_valuesPut t_ones t_twos t_settings t_tick t_energy t_valuesPut c4 c5 c6 x_signs x_length x_position x_complete x_orders x_kinds x_numbers x_values) H := k_repl hP hD [9, 10, 11, 12, 13, 14, 15, 16, 17, 18, 19, 20, 21, 22, 23, 24, 25, 26, 27, 28, 29, 30, 31, 32, 33, 34, 1, 2, 3, 4] rfl hk hPn [.inl 0, .inr 26, .inr 27, .inr 28, .inr 29, .inl 5, .inl 6, .inl 7, .inl 8, .inr 0, .inr 1, .inr 2, .inr 3, .inr 4, .inr 5, .inr 6, .inr 7, .inr 8, .inr 9, .inr 10, .inr 11, .inr 12, .inr 13, .inr 14, .inr 15, .inr 16, .inr 17, .inr 18, .inr 19, .inr 20, .inr 21, .inr 22, .inr 23, .inr 24, .inr 25, .inl 35, .inl 36, .inl 37, .inl 38, .inl 39] rfl (by decide)
    have hD : va_D (k_A (wAll cyI cyC cyO ob n0 n1 n2 n3 t0 t1 t2 t3 s0 aR ro r1 r2 r3 x0 x1 x2 x3 x4 n_ones n_twos n_settings n_tick n_energy n_valuesPut t_ones t_twos t_settings t_tick t_energy t_valuesPut s_ring s_oldest s_count x_signs x_length x_position x_complete x_orders x_kinds x_numbers x_values)) (wAll cyI cyC cyO ob n0 n1 n2 n3 t0 t1 t2 t3 s0 aR ro r1 r2 r3 x0 x1 x2 x3 x4 n_ones n_twos n_settings n_tick n_energy n_valuesPut t_ones t_twos t_settings t_tick t_energy t_valuesPut c4 c5 c6 x_signs x_length x_position x_complete x_orders x_kinds x_numbers x_values) := k_Dm hD rfl
    refine lv_aload_n hx hb dX4_pass_44 rfl (lv_at hl 0 rfl) ?_
    refine va_get (D := (dC, dI)) (ci := 3) (v := .ref n0) (C := RX4) (T := TX4) (N := 4) hx hb hts iaX4 hown hK hP 0 rfl rfl 0 (by decide) (hts _ q72) (fun _ h9 => h9) rfl dX4_pass_45 ?_
    refine lv_dup hx hb dX4_pass_48 rfl ?_
    refine va_get (D := (dC, dI)) (ci := 2) (v := .int n_tick) (C := RX3) (T := TX3) (N := 6) hx hb hts iaX3 hown hK hP 1 rfl rfl 3 (by decide) (hts _ q43) (fun _ h9 => h9) rfl dX4_pass_49 ?_
    refine lv_iload_n hx hb dX4_pass_52 rfl (lv_at hl 1 rfl) ?_
    refine g_iadd hx hb dX4_pass_53 h (fun z7 h => ?_)
    refine va_put (D := (dC, dI)) (ci := 2) (v := .int z7) (ty := .int) (C := RX3) (T := TX3) (N := 6) hx hb hts iaX3 tyX3 tyX3_ok nmX3 hown hK hP hD hS 1 rfl rfl 3 (by decide) (hts _ q43) (fun _ h9 => h9) rfl (by decide +kernel) rfl rfl (Nat.le_of_ble_eq_true rfl) dX4_pass_54 (fun H locs hP _ hS => ?_)
    have hP : va_P (dC, dI) vwCl (wAll cyI cyC cyO ob n0 n1 n2 n3 t0 t1 t2 t3 s0 aR ro r1 r2 r3 x0 x1 x2 x3 x4 n_ones n_twos n_settings z7 n_energy n_valuesPut t_ones t_twos t_settings t_tick t_energy t_valuesPut c4 c5 c6 x_signs x_length x_position x_complete x_orders x_kinds x_numbers x_values) H := hP
    have hD : va_D (k_A (wAll cyI cyC cyO ob n0 n1 n2 n3 t0 t1 t2 t3 s0 aR ro r1 r2 r3 x0 x1 x2 x3 x4 n_ones n_twos n_settings n_tick n_energy n_valuesPut t_ones t_twos t_settings t_tick t_energy t_valuesPut s_ring s_oldest s_count x_signs x_length x_position x_complete x_orders x_kinds x_numbers x_values)) (wAll cyI cyC cyO ob n0 n1 n2 n3 t0 t1 t2 t3 s0 aR ro r1 r2 r3 x0 x1 x2 x3 x4 n_ones n_twos n_settings z7 n_energy n_valuesPut t_ones t_twos t_settings t_tick t_energy t_valuesPut c4 c5 c6 x_signs x_length x_position x_complete x_orders x_kinds x_numbers x_values) := k_Dm hD rfl
    refine lv_aload_n hx hb dX4_pass_57 rfl (lv_at hl 0 rfl) ?_
    refine va_get (D := (dC, dI)) (ci := 3) (v := .ref n0) (C := RX4) (T := TX4) (N := 4) hx hb hts iaX4 hown hK hP 0 rfl rfl 0 (by decide) (hts _ q72) (fun _ h9 => h9) rfl dX4_pass_58 ?_
    refine va_get (D := (dC, dI)) (ci := 2) (v := .int z7) (C := RX3) (T := TX3) (N := 6) hx hb hts iaX3 hown hK hP 1 rfl rfl 3 (by decide) (hts _ q43) (fun _ h9 => h9) rfl dX4_pass_61 ?_
    obtain ⟨e0, e1, e2, e3, e4⟩ := k_t5 h
    exact g_retMI hx hb hr hlk hS e0 (by rw [← e1, ← e2, ← e3, ← e4]; exact hP) dX4_pass_64
  refine g_icmp_gt (tgt := 29) hx hb dX4_pass_22 (by decide) h (fun h => ?_) (fun h => ?_)
  · refine lv_iconst (v := 0) hx hb dX4_pass_29 (by decide) ?_
    exact J30 0 _ _ _ h hP hS (lv_sub hl [0, 1] rfl)
  · refine lv_iconst (v := 1) hx hb dX4_pass_25 (by decide) ?_
    refine lv_goto (tgt := 30) hx hb dX4_pass_26 (by decide) ?_
    exact J30 1 _ _ _ h hP hS (lv_sub hl [0, 1] rfl)
def fX4_set (n_ones : Nat → Int32) (n_twos : Nat → Int32) (n_settings : Nat → Int32) (n_tick : Int32) (n_energy : Int32) (n_valuesPut : Int32) (s_ring : Nat → SV) (s_oldest : Int32) (s_count : Int32) (p1 : Int32) (p2 : Int32) : Option (Int32 × (Nat → Int32) × (Nat → SV) × Int32 × Int32) :=
  k_b1 (fX4_isIndex p1 4) fun (z1 : Int32) =>
  k_if (z1 = 0) none <|
  k_ck p1 4 <| k_let (lowS p1.toNatClampNeg) fun (z2 : Int32) =>
  k_ck p1 4 <| k_let (highS p1.toNatClampNeg) fun (z3 : Int32) =>
  k_b1 (fX4_isWithin p2 z2 z3) fun (z4 : Int32) =>
  k_if (z4 = 0) none <|
  k_b3 (fX2_save s_ring s_oldest s_count n_ones n_twos n_settings n_tick n_energy n_valuesPut) fun (c5 : Nat → SV) (c6 : Int32) (c7 : Int32) =>
  k_ck p1 4 <| k_let (n_settings p1.toNatClampNeg) fun (z8 : Int32) =>
  k_ck p1 4 <| k_let (upd n_settings p1.toNatClampNeg p2) fun (c9 : Nat → Int32) =>
  some (z8, c9, c5, c6, c7)
theorem hdX4_set : yX4_set.cls = RX4 ∧ yX4_set.cls ≠ "java/lang/invoke/MethodHandle" ∧ yX4_set.cls ≠ "java/lang/invoke/VarHandle" ∧ (parseMethodDescriptor yX4_set.desc).map (fun d => d.parameters.length) = some 2 := by decide +kernel
set_option maxRecDepth 100000 in
set_option maxHeartbeats 4000000 in
theorem mX4_set (l : Launch) (dC : Nat → ClassId) (dI : Nat → Nat → Nat) (cyI cyC cyO : ClassId) (ad : Nat → Nat) (ob : Nat) (n0 : Nat) (n1 : Nat) (n2 : Nat) (n3 : Nat) (t0 : Nat) (t1 : Nat) (t2 : Nat) (t3 : Nat) (s0 : Nat) (aR : Nat) (ro : Nat → Nat) (r1 : Nat → Nat) (r2 : Nat → Nat) (r3 : Nat → Nat) (x0 : Nat) (x1 : Nat) (x2 : Nat) (x3 : Nat) (x4 : Nat) (n_ones : Nat → Int32) (n_twos : Nat → Int32) (n_settings : Nat → Int32) (n_tick : Int32) (n_energy : Int32) (n_valuesPut : Int32) (t_ones : Nat → Int32) (t_twos : Nat → Int32) (t_settings : Nat → Int32) (t_tick : Int32) (t_energy : Int32) (t_valuesPut : Int32) (s_ring : Nat → SV) (s_oldest : Int32) (s_count : Int32) (x_signs : Nat → Int32) (x_length : Int32) (x_position : Int32) (x_complete : Int32) (x_orders : Int32) (x_kinds : Nat → Int32) (x_numbers : Nat → Int32) (x_values : Nat → Int32) (p1 : Int32) (p2 : Int32) {r : Int32} {r_n_settings : Nat → Int32} {r_s_ring : Nat → SV} {r_s_oldest : Int32} {r_s_count : Int32} (hf : fX4_set n_ones n_twos n_settings n_tick n_energy n_valuesPut s_ring s_oldest s_count p1 p2 = some (r, r_n_settings, r_s_ring, r_s_oldest, r_s_count)) : MetMIe l yX4_set cX4_set 4 (some .int) 3 68 [.ref ob, .int p1, .int p2] (dC, dI) (tyS cyI cyC cyO) (wAll cyI cyC cyO ob n0 n1 n2 n3 t0 t1 t2 t3 s0 aR ro r1 r2 r3 x0 x1 x2 x3 x4 n_ones n_twos n_settings n_tick n_energy n_valuesPut t_ones t_twos t_settings t_tick t_energy t_valuesPut s_ring s_oldest s_count x_signs x_length x_position x_complete x_orders x_kinds x_numbers x_values) (wAll cyI cyC cyO ob n0 n1 n2 n3 t0 t1 t2 t3 s0 aR ro r1 r2 r3 x0 x1 x2 x3 x4 n_ones n_twos r_n_settings n_tick n_energy n_valuesPut t_ones t_twos t_settings t_tick t_energy t_valuesPut r_s_ring r_s_oldest r_s_count x_signs x_length x_position x_complete x_orders x_kinds x_numbers x_values) ad r := by
  refine metMIe_of (by decide) (Nat.le_of_ble_eq_true rfl) ?_
  intro p e s m below meth c ls hC hr hlk hP hK hD hE hl
  have hC : CallFix p m c cX4_set 4 s [.ref ob, .int p1, .int p2].toArray wA RX4 := hC
  obtain ⟨hx, hb, hml, hown, hts⟩ := id hC
  have hS : va_S (k_A (wAll cyI cyC cyO ob n0 n1 n2 n3 t0 t1 t2 t3 s0 aR ro r1 r2 r3 x0 x1 x2 x3 x4 n_ones n_twos n_settings n_tick n_energy n_valuesPut t_ones t_twos t_settings t_tick t_energy t_valuesPut s_ring s_oldest s_count x_signs x_length x_position x_complete x_orders x_kinds x_numbers x_values)) s.heap s.heap [] := va_S.rf
  have hl : lv_has ls 4 [(0, .ref ob), (1, .int p1), (2, .int p2)] := hl
  have h := hf
  unfold fX4_set at h
  obtain ⟨H, hH⟩ : ∃ H, H = s.heap := ⟨_, rfl⟩
  obtain ⟨locs, hlo⟩ : ∃ locs : List Loc, locs = [] := ⟨_, rfl⟩
  rw [← hH] at hP
  rw [← hlo] at hS
  have hS : va_S (k_A (wAll cyI cyC cyO ob n0 n1 n2 n3 t0 t1 t2 t3 s0 aR ro r1 r2 r3 x0 x1 x2 x3 x4 n_ones n_twos n_settings n_tick n_energy n_valuesPut t_ones t_twos t_settings t_tick t_energy t_valuesPut s_ring s_oldest s_count x_signs x_length x_position x_complete x_orders x_kinds x_numbers x_values)) s.heap H locs := by rw [hH]; exact hS
  show W p l e (k_rm 3 68) s m [.ref ob, .int p1, .int p2].toArray below meth c s.heap [] 0 0 _ _
  rw [← hlo, ← hH]
  refine lv_iload_n hx hb dX4_set_0 rfl (lv_at hl 1 rfl) ?_
  refine lv_iconst (v := 4) hx hb dX4_set_1 (by decide) ?_
  obtain ⟨z1, hc2, h⟩ := k_b1_e h
  refine g_callRI_S (As := [.int p1, .int 4]) (rest := []) hC (mX4_isIndex l dC dI cyI cyC cyO p1 4 hc2) q80 q81 q8 q82 2 hdX4_isIndex ⟨Nat.le_of_ble_eq_true rfl, Nat.le_of_ble_eq_true rfl⟩ ⟨Nat.le_of_ble_eq_true rfl, Nat.le_of_ble_eq_true rfl⟩ rfl rfl hl.1 (Nat.le_of_ble_eq_true rfl) va_P_nil hK hS dX4_set_2 (fun H locs hk hS => ?_)
  have hP := k_kept hP hk
  obtain ⟨hv, h⟩ := k_req_e h
  refine g_callRV_S (As := [.int z1]) (rest := []) hC (mX4_requireIndex l (dC, dI) (tyS cyI cyC cyO) z1 hv) q188 q189 q8 q190 1 hdX4_requireIndex ⟨Nat.le_of_ble_eq_true rfl, Nat.le_of_ble_eq_true rfl⟩ ⟨Nat.le_of_ble_eq_true rfl, Nat.le_of_ble_eq_true rfl⟩ rfl rfl hl.1 (Nat.le_of_ble_eq_true rfl) va_P_nil hK hS dX4_set_5 (fun H locs hk hS => ?_)
  have hP := k_kept hP hk
  refine lv_iload_n hx hb dX4_set_8 rfl (lv_at hl 2 rfl) ?_
  refine va_gets hx hb (hE.1) hS hown (hts _ q227) (fun _ h9 => h9) dX4_set_9 ?_
  refine lv_iload_n hx hb dX4_set_12 rfl (lv_at hl 1 rfl) ?_
  refine g_stat hx hb (hE.2.1) hS dX4_set_13 h (fun z2 h => ?_)
  refine va_gets hx hb (hE.2.2.1) hS hown (hts _ q229) (fun _ h9 => h9) dX4_set_14 ?_
  refine lv_iload_n hx hb dX4_set_17 rfl (lv_at hl 1 rfl) ?_
  refine g_stat hx hb (hE.2.2.2) hS dX4_set_18 h (fun z3 h => ?_)
  obtain ⟨z4, hc19, h⟩ := k_b1_e h
  refine g_callRI_S (As := [.int p2, .int z2, .int z3]) (rest := []) hC (mX4_isWithin l dC dI cyI cyC cyO p2 z2 z3 hc19) q220 q221 q8 q222 3 hdX4_isWithin ⟨Nat.le_of_ble_eq_true rfl, Nat.le_of_ble_eq_true rfl⟩ ⟨Nat.le_of_ble_eq_true rfl, Nat.le_of_ble_eq_true rfl⟩ rfl rfl hl.1 (Nat.le_of_ble_eq_true rfl) va_P_nil hK hS dX4_set_19 (fun H locs hk hS => ?_)
  have hP := k_kept hP hk
  obtain ⟨hv, h⟩ := k_req_e h
  refine g_callRV_S (As := [.int z4]) (rest := []) hC (mX4_requireArgument l (dC, dI) (tyS cyI cyC cyO) z4 hv) q83 q84 q8 q85 1 hdX4_requireArgument ⟨Nat.le_of_ble_eq_true rfl, Nat.le_of_ble_eq_true rfl⟩ ⟨Nat.le_of_ble_eq_true rfl, Nat.le_of_ble_eq_true rfl⟩ rfl rfl hl.1 (Nat.le_of_ble_eq_true rfl) va_P_nil hK hS dX4_set_22 (fun H locs hk hS => ?_)
  have hP := k_kept hP hk
  refine lv_aload_n hx hb dX4_set_25 rfl (lv_at hl 0 rfl) ?_
  refine va_get (D := (dC, dI)) (ci := 3) (v := .ref s0) (C := RX4) (T := TX4) (N := 4) hx hb hts iaX4 hown hK hP 0 rfl rfl 2 (by decide) (hts _ q74) (fun _ h9 => h9) rfl dX4_set_26 ?_
  refine lv_aload_n hx hb dX4_set_29 rfl (lv_at hl 0 rfl) ?_
  refine va_get (D := (dC, dI)) (ci := 3) (v := .ref n0) (C := RX4) (T := TX4) (N := 4) hx hb hts iaX4 hown hK hP 0 rfl rfl 0 (by decide) (hts _ q72) (fun _ h9 => h9) rfl dX4_set_30 ?_
  obtain ⟨c5, c6, c7, hc33, h⟩ := k_b3_e h
  refine g_callMV_V (As := [.ref n0]) (rest := []) hC (mX2_save l dC dI cyI cyC cyO s0 aR ro r1 r2 r3 n0 n1 n2 n3 s_ring s_oldest s_count n_ones n_twos n_settings n_tick n_energy n_valuesPut hc33) q124 q125 q126 q10 q127 1 hdX2_save ⟨Nat.le_of_ble_eq_true rfl, Nat.le_of_ble_eq_true rfl⟩ ⟨Nat.le_of_ble_eq_true rfl, Nat.le_of_ble_eq_true rfl⟩ rfl rfl hl.1 (Nat.le_of_ble_eq_true rfl) (hP.sub (ws' := (wX2 cyI cyC cyO s0 aR ro r1 r2 r3 s_ring s_oldest s_count) ++ (wX3 cyI cyC n0 n1 n2 n3 n_ones n_twos n_settings n_tick n_energy n_valuesPut)) [9, 10, 11, 12, 13, 14, 15, 16, 17, 18, 19, 20, 21, 22, 23, 24, 25, 26, 27, 28, 29, 30, 31, 32, 33, 34, 1, 2, 3, 4] rfl) hK (hD.sub (ws' := (wX2 cyI cyC cyO s0 aR ro r1 r2 r3 s_ring s_oldest s_count) ++ (wX3 cyI cyC n0 n1 n2 n3 n_ones n_twos n_settings n_tick n_energy n_valuesPut)) [9, 10, 11, 12, 13, 14, 15, 16, 17, 18, 19, 20, 21, 22, 23, 24, 25, 26, 27, 28, 29, 30, 31, 32, 33, 34, 1, 2, 3, 4] (by decide) rfl) (va_recv hK hP (ci := 1) (q0 := 9) rfl rfl) hS dX4_set_33 (fun H locs hPn hk hS => ?_)
  have hP : va_P (dC, dI) vwCl (wAll cyI cyC cyO ob n0 n1 n2 n3 t0 t1 t2 t3 s0 aR ro r1 r2 r3 x0 x1 x2 x3 x4 n_ones n_twos n_settings n_tick n_energy n_valuesPut t_ones t_twos t_settings t_tick t_energy t_valuesPut c5 c6 c7 x_signs x_length x_position x_complete x_orders x_kinds x_numbers x_values) H := k_repl hP hD [9, 10, 11, 12, 13, 14, 15, 16, 17, 18, 19, 20, 21, 22, 23, 24, 25, 26, 27, 28, 29, 30, 31, 32, 33, 34, 1, 2, 3, 4] rfl hk hPn [.inl 0, .inr 26, .inr 27, .inr 28, .inr 29, .inl 5, .inl 6, .inl 7, .inl 8, .inr 0, .inr 1, .inr 2, .inr 3, .inr 4, .inr 5, .inr 6, .inr 7, .inr 8, .inr 9, .inr 10, .inr 11, .inr 12, .inr 13, .inr 14, .inr 15, .inr 16, .inr 17, .inr 18, .inr 19, .inr 20, .inr 21, .inr 22, .inr 23, .inr 24, .inr 25, .inl 35, .inl 36, .inl 37, .inl 38, .inl 39] rfl (by decide)
  have hD : va_D (k_A (wAll cyI cyC cyO ob n0 n1 n2 n3 t0 t1 t2 t3 s0 aR ro r1 r2 r3 x0 x1 x2 x3 x4 n_ones n_twos n_settings n_tick n_energy n_valuesPut t_ones t_twos t_settings t_tick t_energy t_valuesPut s_ring s_oldest s_count x_signs x_length x_position x_complete x_orders x_kinds x_numbers x_values)) (wAll cyI cyC cyO ob n0 n1 n2 n3 t0 t1 t2 t3 s0 aR ro r1 r2 r3 x0 x1 x2 x3 x4 n_ones n_twos n_settings n_tick n_energy n_valuesPut t_ones t_twos t_settings t_tick t_energy t_valuesPut c5 c6 c7 x_signs x_length x_position x_complete x_orders x_kinds x_numbers x_values) := k_Dm hD rfl
  refine lv_aload_n hx hb dX4_set_36 rfl (lv_at hl 0 rfl) ?_
  refine va_get (D := (dC, dI)) (ci := 3) (v := .ref n0) (C := RX4) (T := TX4) (N := 4) hx hb hts iaX4 hown hK hP 0 rfl rfl 0 (by decide) (hts _ q72) (fun _ h9 => h9) rfl dX4_set_37 ?_
  refine va_get (D := (dC, dI)) (ci := 2) (v := .ref n3) (C := RX3) (T := TX3) (N := 6) hx hb hts iaX3 hown hK hP 1 rfl rfl 2 (by decide) (hts _ q41) (fun _ h9 => h9) rfl dX4_set_40 ?_
  refine lv_iload_n hx hb dX4_set_43 rfl (lv_at hl 1 rfl) ?_
  refine g_iald hx hb hK hP 4 0 rfl rfl dX4_set_44 h (fun z8 h => ?_)
  refine lv_istore_n (lv' := [(3, .int z8), (0, .ref ob), (1, .int p1), (2, .int p2)]) hx hb dX4_set_45 rfl hl (by decide) rfl (fun ls hl => ?_)
  refine lv_aload_n hx hb dX4_set_46 rfl (lv_at hl 1 rfl) ?_
  refine va_get (D := (dC, dI)) (ci := 3) (v := .ref n0) (C := RX4) (T := TX4) (N := 4) hx hb hts iaX4 hown hK hP 0 rfl rfl 0 (by decide) (hts _ q72) (fun _ h9 => h9) rfl dX4_set_47 ?_
  refine va_get (D := (dC, dI)) (ci := 2) (v := .ref n3) (C := RX3) (T := TX3) (N := 6) hx hb hts iaX3 hown hK hP 1 rfl rfl 2 (by decide) (hts _ q41) (fun _ h9 => h9) rfl dX4_set_50 ?_
  refine lv_iload_n hx hb dX4_set_53 rfl (lv_at hl 2 rfl) ?_
  refine lv_iload_n hx hb dX4_set_54 rfl (lv_at hl 3 rfl) ?_
  refine g_iast hx hb hK hP hD hS 4 0 rfl rfl dX4_set_55 h (fun c9 H locs h hP hS => ?_)
  have hP : va_P (dC, dI) vwCl (wAll cyI cyC cyO ob n0 n1 n2 n3 t0 t1 t2 t3 s0 aR ro r1 r2 r3 x0 x1 x2 x3 x4 n_ones n_twos c9 n_tick n_energy n_valuesPut t_ones t_twos t_settings t_tick t_energy t_valuesPut c5 c6 c7 x_signs x_length x_position x_complete x_orders x_kinds x_numbers x_values) H := hP
  have hD : va_D (k_A (wAll cyI cyC cyO ob n0 n1 n2 n3 t0 t1 t2 t3 s0 aR ro r1 r2 r3 x0 x1 x2 x3 x4 n_ones n_twos n_settings n_tick n_energy n_valuesPut t_ones t_twos t_settings t_tick t_energy t_valuesPut s_ring s_oldest s_count x_signs x_length x_position x_complete x_orders x_kinds x_numbers x_values)) (wAll cyI cyC cyO ob n0 n1 n2 n3 t0 t1 t2 t3 s0 aR ro r1 r2 r3 x0 x1 x2 x3 x4 n_ones n_twos c9 n_tick n_energy n_valuesPut t_ones t_twos t_settings t_tick t_energy t_valuesPut c5 c6 c7 x_signs x_length x_position x_complete x_orders x_kinds x_numbers x_values) := k_Dm hD rfl
  refine lv_iload_n hx hb dX4_set_56 rfl (lv_at hl 0 rfl) ?_
  obtain ⟨e0, e1, e2, e3, e4⟩ := k_t5 h
  exact g_retMI hx hb hr hlk hS e0 (by rw [← e1, ← e2, ← e3, ← e4]; exact hP) dX4_set_57
