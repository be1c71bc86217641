abbrev wX1 (cyI cyC : ClassId) (ob a1 a2 a3 a4 : Nat) (v_signs : Nat → Int32) (v_length : Int32) (v_position : Int32) (v_complete : Int32) (v_orders : Int32) (v_kinds : Nat → Int32) (v_numbers : Nat → Int32) (v_values : Nat → Int32) : va_W := [(ob, .inr (0, [.ref a1, .int v_length, .int v_position, .int v_complete, .int v_orders, .ref a2, .ref a3, .ref a4])), (a1, .inl (cyC, 60, .inl v_signs)), (a2, .inl (cyI, 10, .inl v_kinds)), (a3, .inl (cyI, 10, .inl v_numbers)), (a4, .inl (cyI, 10, .inl v_values))]
def fX3_copyFrom (v_ones : Nat → Int32) (v_twos : Nat → Int32) (v_settings : Nat → Int32) (v_tick : Int32) (v_energy : Int32) (v_valuesPut : Int32) (w_ones : Nat → Int32) (w_twos : Nat → Int32) (w_settings : Nat → Int32) (w_tick : Int32) (w_energy : Int32) (w_valuesPut : Int32) : Option ((Nat → Int32) × (Nat → Int32) × (Nat → Int32) × Int32 × Int32 × Int32) :=
  k_let (va_cpy w_ones v_ones (0 : Int32).toNatClampNeg (0 : Int32).toNatClampNeg (20 : Int32).toNatClampNeg) fun (c1 : Nat → Int32) =>
  k_let (va_cpy w_twos v_twos (0 : Int32).toNatClampNeg (0 : Int32).toNatClampNeg (20 : Int32).toNatClampNeg) fun (c2 : Nat → Int32) =>
  k_let (va_cpy w_settings v_settings (0 : Int32).toNatClampNeg (0 : Int32).toNatClampNeg (4 : Int32).toNatClampNeg) fun (c3 : Nat → Int32) =>
  some (c1, c2, c3, w_tick, w_energy, w_valuesPut)
theorem hdX3_copyFrom : yX3_copyFrom.cls = RX3 ∧ yX3_copyFrom.cls ≠ "java/lang/invoke/MethodHandle" ∧ yX3_copyFrom.cls ≠ "java/lang/invoke/VarHandle" ∧ (parseMethodDescriptor yX3_copyFrom.desc).map (fun d => d.parameters.length) = some 1 := by decide +kernel
set_option maxRecDepth 100000 in
set_option maxHeartbeats 4000000 in
theorem mX3_copyFrom (l : Launch) (dC : Nat → ClassId) (dI : Nat → Nat → Nat) (cyI cyC cyO : ClassId) (ob a1 a2 a3 ob2 b1 b2 b3 : Nat) (v_ones : Nat → Int32) (v_twos : Nat → Int32) (v_settings : Nat → Int32) (v_tick : Int32) (v_energy : Int32) (v_valuesPut : Int32) (w_ones : Nat → Int32) (w_twos : Nat → Int32) (w_settings : Nat → Int32) (w_tick : Int32) (w_energy : Int32) (w_valuesPut : Int32)  {r_ones : Nat → Int32} {r_twos : Nat → Int32} {r_settings : Nat → Int32} {r_tick : Int32} {r_energy : Int32} {r_valuesPut : Int32} (hf : fX3_copyFrom v_ones v_twos v_settings v_tick v_energy v_valuesPut w_ones w_twos w_settings w_tick w_energy w_valuesPut = some (r_ones, r_twos, r_settings, r_tick, r_energy, r_valuesPut)) : MetMV l yX3_copyFrom cX3_copyFrom 2 none 1 26 [.ref ob, .ref ob2] (dC, dI) (tyS cyI cyC cyO) ((wX3 cyI cyC ob a1 a2 a3 v_ones v_twos v_settings v_tick v_energy v_valuesPut) ++ (wX3 cyI cyC ob2 b1 b2 b3 w_ones w_twos w_settings w_tick w_energy w_valuesPut)) ((wX3 cyI cyC ob a1 a2 a3 r_ones r_twos r_settings r_tick r_energy r_valuesPut) ++ (wX3 cyI cyC ob2 b1 b2 b3 w_ones w_twos w_settings w_tick w_energy w_valuesPut)) := by
  refine metMV_of (by decide) (Nat.le_of_ble_eq_true rfl) ?_
  intro p e s m below meth c ls hC hr hlk hP hK hD hl
  have hC : CallFix p m c cX3_copyFrom 2 s [.ref ob, .ref ob2].toArray wA RX3 := hC
  obtain ⟨hx, hb, hml, hown, hts⟩ := id hC
  have hS : va_S (k_A ((wX3 cyI cyC ob a1 a2 a3 v_ones v_twos v_settings v_tick v_energy v_valuesPut) ++ (wX3 cyI cyC ob2 b1 b2 b3 w_ones w_twos w_settings w_tick w_energy w_valuesPut))) s.heap s.heap [] := va_S.rf
  have hl : lv_has ls 2 [(0, .ref ob), (1, .ref ob2)] := hl
  have h := hf
  unfold fX3_copyFrom at h
  obtain ⟨H, hH⟩ : ∃ H, H = s.heap := ⟨_, rfl⟩
  obtain ⟨locs, hlo⟩ : ∃ locs : List Loc, locs = [] := ⟨_, rfl⟩
  rw [← hH] at hP
  rw [← hlo] at hS
  have hS : va_S (k_A ((wX3 cyI cyC ob a1 a2 a3 v_ones v_twos v_settings v_tick v_energy v_valuesPut) ++ (wX3 cyI cyC ob2 b1 b2 b3 w_ones w_twos w_settings w_tick w_energy w_valuesPut))) s.heap H locs := by rw [hH]; exact hS
  show W p l e (k_rm 1 26) s m [.ref ob, .ref ob2].toArray below meth c s.heap [] 0 0 _ _
  rw [← hlo, ← hH]
  refine lv_aload_n hx hb dX3_copyFrom_0 rfl (lv_at hl 1 rfl) ?_
  refine va_get (D := (dC, dI)) (ci := 2) (v := .ref b1) (C := RX3) (T := TX3) (N := 6) hx hb hts iaX3 hown hK hP 4 rfl rfl 0 (by decide) (hts _ q104) (fun _ h9 => h9) rfl dX3_copyFrom_1 ?_
  refine lv_iconst (v := 0) hx hb dX3_copyFrom_4 (by decide) ?_
  refine lv_aload_n hx hb dX3_copyFrom_5 rfl (lv_at hl 0 rfl) ?_
  refine va_get (D := (dC, dI)) (ci := 2) (v := .ref a1) (C := RX3) (T := TX3) (N := 6) hx hb hts iaX3 hown hK hP 0 rfl rfl 0 (by decide) (hts _ q104) (fun _ h9 => h9) rfl dX3_copyFrom_6 ?_
  refine lv_iconst (v := 0) hx hb dX3_copyFrom_9 (by decide) ?_
  refine lv_bipush (v := 20) hx hb dX3_copyFrom_10 (by decide) ?_
  refine g_copyi hx hb (hml.trans hl.1.symm) hown (hts _ q404) (hts _ q406) (hts _ q405) (hts _ q82) hK hP hD hS 5 1 0 rfl rfl rfl (by decide) (by decide) (by decide) (by decide) (by decide) (Nat.le_of_ble_eq_true rfl) (Nat.le_of_ble_eq_true rfl) dX3_copyFrom_12 h (fun c1 H locs h hP hS => ?_)
  have hP : va_P (dC, dI) vwCl ((wX3 cyI cyC ob a1 a2 a3 c1 v_twos v_settings v_tick v_energy v_valuesPut) ++ (wX3 cyI cyC ob2 b1 b2 b3 w_ones w_twos w_settings w_tick w_energy w_valuesPut)) H := hP
  have hD : va_D (k_A ((wX3 cyI cyC ob a1 a2 a3 v_ones v_twos v_settings v_tick v_energy v_valuesPut) ++ (wX3 cyI cyC ob2 b1 b2 b3 w_ones w_twos w_settings w_tick w_energy w_valuesPut))) ((wX3 cyI cyC ob a1 a2 a3 c1 v_twos v_settings v_tick v_energy v_valuesPut) ++ (wX3 cyI cyC ob2 b1 b2 b3 w_ones w_twos w_settings w_tick w_energy w_valuesPut)) := k_Dm hD rfl
  refine lv_aload_n hx hb dX3_copyFrom_15 rfl (lv_at hl 1 rfl) ?_
  refine va_get (D := (dC, dI)) (ci := 2) (v := .ref b2) (C := RX3) (T := TX3) (N := 6) hx hb hts iaX3 hown hK hP 4 rfl rfl 1 (by decide) (hts _ q106) (fun _ h9 => h9) rfl dX3_copyFrom_16 ?_
  refine lv_iconst (v := 0) hx hb dX3_copyFrom_19 (by decide) ?_
  refine lv_aload_n hx hb dX3_copyFrom_20 rfl (lv_at hl 0 rfl) ?_
  refine va_get (D := (dC, dI)) (ci := 2) (v := .ref a2) (C := RX3) (T := TX3) (N := 6) hx hb hts iaX3 hown hK hP 0 rfl rfl 1 (by decide) (hts _ q106) (fun _ h9 => h9) rfl dX3_copyFrom_21 ?_
  refine lv_iconst (v := 0) hx hb dX3_copyFrom_24 (by decide) ?_
  refine lv_bipush (v := 20) hx hb dX3_copyFrom_25 (by decide) ?_
  refine g_copyi hx hb (hml.trans hl.1.symm) hown (hts _ q404) (hts _ q406) (hts _ q405) (hts _ q82) hK hP hD hS 6 2 0 rfl rfl rfl (by decide) (by decide) (by decide) (by decide) (by decide) (Nat.le_of_ble_eq_true rfl) (Nat.le_of_ble_eq_true rfl) dX3_copyFrom_27 h (fun c2 H locs h hP hS => ?_)
  have hP : va_P (dC, dI) vwCl ((wX3 cyI cyC ob a1 a2 a3 c1 c2 v_settings v_tick v_energy v_valuesPut) ++ (wX3 cyI cyC ob2 b1 b2 b3 w_ones w_twos w_settings w_tick w_energy w_valuesPut)) H := hP
  have hD : va_D (k_A ((wX3 cyI cyC ob a1 a2 a3 v_ones v_twos v_settings v_tick v_energy v_valuesPut) ++ (wX3 cyI cyC ob2 b1 b2 b3 w_ones w_twos w_settings w_tick w_energy w_valuesPut))) ((wX3 cyI cyC ob a1 a2 a3 c1 c2 v_settings v_tick v_energy v_valuesPut) ++ (wX3 cyI cyC ob2 b1 b2 b3 w_ones w_twos w_settings w_tick w_energy w_valuesPut)) := k_Dm hD rfl
  refine lv_aload_n hx hb dX3_copyFrom_30 rfl (lv_at hl 1 rfl) ?_
  refine va_get (D := (dC, dI)) (ci := 2) (v := .ref b3) (C := RX3) (T := TX3) (N := 6) hx hb hts iaX3 hown hK hP 4 rfl rfl 2 (by decide) (hts _ q108) (fun _ h9 => h9) rfl dX3_copyFrom_31 ?_
  refine lv_iconst (v := 0) hx hb dX3_copyFrom_34 (by decide) ?_
  refine lv_aload_n hx hb dX3_copyFrom_35 rfl (lv_at hl 0 rfl) ?_
  refine va_get (D := (dC, dI)) (ci := 2) (v := .ref a3) (C := RX3) (T := TX3) (N := 6) hx hb hts iaX3 hown hK hP 0 rfl rfl 2 (by decide) (hts _ q108) (fun _ h9 => h9) rfl dX3_copyFrom_36 ?_
  refine lv_iconst (v := 0) hx hb dX3_copyFrom_39 (by decide) ?_
  refine lv_iconst (v := 4) hx hb dX3_copyFrom_40 (by decide) ?_
  refine g_copyi hx hb (hml.trans hl.1.symm) hown (hts _ q404) (hts _ q406) (hts _ q405) (hts _ q82) hK hP hD hS 7 3 0 rfl rfl rfl (by decide) (by decide) (by decide) (by decide) (by decide) (Nat.le_of_ble_eq_true rfl) (Nat.le_of_ble_eq_true rfl) dX3_copyFrom_41 h (fun c3 H locs h hP hS => ?_)
  have hP : va_P (dC, dI) vwCl ((wX3 cyI cyC ob a1 a2 a3 c1 c2 c3 v_tick v_energy v_valuesPut) ++ (wX3 cyI cyC ob2 b1 b2 b3 w_ones w_twos w_settings w_tick w_energy w_valuesPut)) H := hP
  have hD : va_D (k_A ((wX3 cyI cyC ob a1 a2 a3 v_ones v_twos v_settings v_tick v_energy v_valuesPut) ++ (wX3 cyI cyC ob2 b1 b2 b3 w_ones w_twos w_settings w_tick w_energy w_valuesPut))) ((wX3 cyI cyC ob a1 a2 a3 c1 c2 c3 v_tick v_energy v_valuesPut) ++ (wX3 cyI cyC ob2 b1 b2 b3 w_ones w_twos w_settings w_tick w_energy w_valuesPut)) := k_Dm hD rfl
  refine lv_aload_n hx hb dX3_copyFrom_44 rfl (lv_at hl 0 rfl) ?_
  refine lv_aload_n hx hb dX3_copyFrom_45 rfl (lv_at hl 1 rfl) ?_
  refine va_get (D := (dC, dI)) (ci := 2) (v := .int w_tick) (C := RX3) (T := TX3) (N := 6) hx hb hts iaX3 hown hK hP 4 rfl rfl 3 (by decide) (hts _ q110) (fun _ h9 => h9) rfl dX3_copyFrom_46 ?_
  refine va_put (D := (dC, dI)) (ci := 2) (v := .int w_tick) (ty := .int) (C := RX3) (T := TX3) (N := 6) hx hb hts iaX3 tyX3 tyX3_ok nmX3 hown hK hP hD hS 0 rfl rfl 3 (by decide) (hts _ q110) (fun _ h9 => h9) rfl (by decide +kernel) rfl rfl (Nat.le_of_ble_eq_true rfl) dX3_copyFrom_49 (fun H locs hP _ hS => ?_)
  have hP : va_P (dC, dI) vwCl ((wX3 cyI cyC ob a1 a2 a3 c1 c2 c3 w_tick v_energy v_valuesPut) ++ (wX3 cyI cyC ob2 b1 b2 b3 w_ones w_twos w_settings w_tick w_energy w_valuesPut)) H := hP
  have hD : va_D (k_A ((wX3 cyI cyC ob a1 a2 a3 v_ones v_twos v_settings v_tick v_energy v_valuesPut) ++ (wX3 cyI cyC ob2 b1 b2 b3 w_ones w_twos w_settings w_tick w_energy w_valuesPut))) ((wX3 cyI cyC ob a1 a2 a3 c1 c2 c3 w_tick v_energy v_valuesPut) ++ (wX3 cyI cyC ob2 b1 b2 b3 w_ones w_twos w_settings w_tick w_energy w_valuesPut)) := k_Dm hD rfl
  refine lv_aload_n hx hb dX3_copyFrom_52 rfl (lv_at hl 0 rfl) ?_
  refine lv_aload_n hx hb dX3_copyFrom_53 rfl (lv_at hl 1 rfl) ?_
  refine va_get (D := (dC, dI)) (ci := 2) (v := .int w_energy) (C := RX3) (T := TX3) (N := 6) hx hb hts iaX3 hown hK hP 4 rfl rfl 4 (by decide) (hts _ q112) (fun _ h9 => h9) rfl dX3_copyFrom_54 ?_
  refine va_put (D := (dC, dI)) (ci := 2) (v := .int w_energy) (ty := .int) (C := RX3) (T := TX3) (N := 6) hx hb hts iaX3 tyX3 tyX3_ok nmX3 hown hK hP hD hS 0 rfl rfl 4 (by decide) (hts _ q112) (fun _ h9 => h9) rfl (by decide +kernel) rfl rfl (Nat.le_of_ble_eq_true rfl) dX3_copyFrom_57 (fun H locs hP _ hS => ?_)
  have hP : va_P (dC, dI) vwCl ((wX3 cyI cyC ob a1 a2 a3 c1 c2 c3 w_tick w_energy v_valuesPut) ++ (wX3 cyI cyC ob2 b1 b2 b3 w_ones w_twos w_settings w_tick w_energy w_valuesPut)) H := hP
  have hD : va_D (k_A ((wX3 cyI cyC ob a1 a2 a3 v_ones v_twos v_settings v_tick v_energy v_valuesPut) ++ (wX3 cyI cyC ob2 b1 b2 b3 w_ones w_twos w_settings w_tick w_energy w_valuesPut))) ((wX3 cyI cyC ob a1 a2 a3 c1 c2 c3 w_tick w_energy v_valuesPut) ++ (wX3 cyI cyC ob2 b1 b2 b3 w_ones w_twos w_settings w_tick w_energy w_valuesPut)) := k_Dm hD rfl
  refine lv_aload_n hx hb dX3_copyFrom_60 rfl (lv_at hl 0 rfl) ?_
  refine lv_aload_n hx hb dX3_copyFrom_61 rfl (lv_at hl 1 rfl) ?_
  refine va_get (D := (dC, dI)) (ci := 2) (v := .int w_valuesPut) (C := RX3) (T := TX3) (N := 6) hx hb hts iaX3 hown hK hP 4 rfl rfl 5 (by decide) (hts _ q114) (fun _ h9 => h9) rfl dX3_copyFrom_62 ?_
  refine va_put (D := (dC, dI)) (ci := 2) (v := .int w_valuesPut) (ty := .int) (C := RX3) (T := TX3) (N := 6) hx hb hts iaX3 tyX3 tyX3_ok nmX3 hown hK hP hD hS 0 rfl rfl 5 (by decide) (hts _ q114) (fun _ h9 => h9) rfl (by decide +kernel) rfl rfl (Nat.le_of_ble_eq_true rfl) dX3_copyFrom_65 (fun H locs hP _ hS => ?_)
  have hP : va_P (dC, dI) vwCl ((wX3 cyI cyC ob a1 a2 a3 c1 c2 c3 w_tick w_energy w_valuesPut) ++ (wX3 cyI cyC ob2 b1 b2 b3 w_ones w_twos w_settings w_tick w_energy w_valuesPut)) H := hP
  have hD : va_D (k_A ((wX3 cyI cyC ob a1 a2 a3 v_ones v_twos v_settings v_tick v_energy v_valuesPut) ++ (wX3 cyI cyC ob2 b1 b2 b3 w_ones w_twos w_settings w_tick w_energy w_valuesPut))) ((wX3 cyI cyC ob a1 a2 a3 c1 c2 c3 w_tick w_energy w_valuesPut) ++ (wX3 cyI cyC ob2 b1 b2 b3 w_ones w_twos w_settings w_tick w_energy w_valuesPut)) := k_Dm hD rfl
  obtain ⟨e0, e1, e2, e3, e4, e5⟩ := k_t6 h
  exact g_retMV hx hb hr hlk hS (by rw [← e0, ← e1, ← e2, ← e3, ← e4, ← e5]; exact hP) dX3_copyFrom_68
def fX1_isFull (v_length : Int32) : Option (Int32) :=
  k_if (v_length < 60)
  (
    some 0)
  (
    some 1)
theorem hdX1_isFull : yX1_isFull.cls = RX1 ∧ yX1_isFull.cls ≠ "java/lang/invoke/MethodHandle" ∧ yX1_isFull.cls ≠ "java/lang/invoke/VarHandle" ∧ (parseMethodDescriptor yX1_isFull.desc).map (fun d => d.parameters.length) = some 0 := by decide +kernel
set_option maxRecDepth 100000 in
set_option maxHeartbeats 4000000 in
theorem mX1_isFull (l : Launch) (dC : Nat → ClassId) (dI : Nat → Nat → Nat) (cyI cyC cyO : ClassId) (ob a1 a2 a3 a4 : Nat) (v_signs : Nat → Int32) (v_length : Int32) (v_position : Int32) (v_complete : Int32) (v_orders : Int32) (v_kinds : Nat → Int32) (v_numbers : Nat → Int32) (v_values : Nat → Int32)  {r : Int32} (hf : fX1_isFull v_length = some r) : MetRI l yX1_isFull cX1_isFull 1 (some .boolean) 0 0 [.ref ob] (dC, dI) (tyS cyI cyC cyO) (wX1 cyI cyC ob a1 a2 a3 a4 v_signs v_length v_position v_complete v_orders v_kinds v_numbers v_values) r := by
  refine metRI_of (by decide) (Nat.le_of_ble_eq_true rfl) ?_
  intro p e s m below meth c ls hC hr hlk hP hK hl
  have hC : CallFix p m c cX1_isFull 1 s [.ref ob].toArray wA RX1 := hC
  obtain ⟨hx, hb, hml, hown, hts⟩ := id hC
  have hS : va_S kF s.heap s.heap [] := va_S.rf
  have hl : lv_has ls 1 [(0, .ref ob)] := hl
  have h := hf
  unfold fX1_isFull at h
  obtain ⟨H, hH⟩ : ∃ H, H = s.heap := ⟨_, rfl⟩
  obtain ⟨locs, hlo⟩ : ∃ locs : List Loc, locs = [] := ⟨_, rfl⟩
  rw [← hH] at hP
  rw [← hlo] at hS
  have hS : va_S kF s.heap H locs := by rw [hH]; exact hS
  show W p l e (k_rm 0 0) s m [.ref ob].toArray below meth c s.heap [] 0 0 _ _
  rw [← hlo, ← hH]
  refine lv_aload_n hx hb dX1_isFull_0 rfl (lv_at hl 0 rfl) ?_
  refine va_get (D := (dC, dI)) (ci := 0) (v := .int v_length) (C := RX1) (T := TX1) (N := 8) hx hb hts iaX1 hown hK hP 0 rfl rfl 1 (by decide) (hts _ q137) (fun _ h9 => h9) rfl dX1_isFull_1 ?_
  refine lv_bipush (v := 60) hx hb dX1_isFull_4 (by decide) ?_
  refine g_icmp_lt (tgt := 13) hx hb dX1_isFull_6 (by decide) h (fun h => ?_) (fun h => ?_)
  · refine lv_iconst (v := 0) hx hb dX1_isFull_13 (by decide) ?_
    exact g_retRZ hx hb hr (by decide +kernel) hlk hS h dX1_isFull_14
  · refine lv_iconst (v := 1) hx hb dX1_isFull_9 (by decide) ?_
    refine lv_goto (tgt := 14) hx hb dX1_isFull_10 (by decide) ?_
    exact g_retRZ hx hb hr (by decide +kernel) hlk hS h dX1_isFull_14
def fX1_add (v_signs : Nat → Int32) (v_length : Int32) (p1 : Int32) : Option ((Nat → Int32) × Int32) :=
  k_b1 (fX1_isFull v_length) fun (x1 : Int32) =>
  k_if (x1 = 0)
  (
    k_ck v_length 60 <| k_let (upd v_signs v_length.toNatClampNeg (vp_nar .char p1)) fun (c2 : Nat → Int32) =>
    k_let (v_length + 1) fun (x3 : Int32) =>
    some (c2, x3))
  (
    some (v_signs, v_length))
theorem hdX1_add : yX1_add.cls = RX1 ∧ yX1_add.cls ≠ "java/lang/invoke/MethodHandle" ∧ yX1_add.cls ≠ "java/lang/invoke/VarHandle" ∧ (parseMethodDescriptor yX1_add.desc).map (fun d => d.parameters.length) = some 1 := by decide +kernel
set_option maxRecDepth 100000 in
set_option maxHeartbeats 4000000 in
theorem mX1_add (l : Launch) (dC : Nat → ClassId) (dI : Nat → Nat → Nat) (cyI cyC cyO : ClassId) (ob a1 a2 a3 a4 : Nat) (v_signs : Nat → Int32) (v_length : Int32) (v_position : Int32) (v_complete : Int32) (v_orders : Int32) (v_kinds : Nat → Int32) (v_numbers : Nat → Int32) (v_values : Nat → Int32) (p1 : Int32) {r_signs : Nat → Int32} {r_length : Int32} (hf : fX1_add v_signs v_length p1 = some (r_signs, r_length)) : MetMV l yX1_add cX1_add 2 none 1 20 [.ref ob, .int p1] (dC, dI) (tyS cyI cyC cyO) (wX1 cyI cyC ob a1 a2 a3 a4 v_signs v_length v_position v_complete v_orders v_kinds v_numbers v_values) (wX1 cyI cyC ob a1 a2 a3 a4 r_signs r_length v_position v_complete v_orders v_kinds v_numbers v_values) := by
  refine metMV_of (by decide) (Nat.le_of_ble_eq_true rfl) ?_
  intro p e s m below meth c ls hC hr hlk hP hK hD hl
  have hC : CallFix p m c cX1_add 2 s [.ref ob, .int p1].toArray wA RX1 := hC
  obtain ⟨hx, hb, hml, hown, hts⟩ := id hC
  have hS : va_S (k_A (wX1 cyI cyC ob a1 a2 a3 a4 v_signs v_length v_position v_complete v_orders v_kinds v_numbers v_values)) s.heap s.heap [] := va_S.rf
  have hl : lv_has ls 2 [(0, .ref ob), (1, .int p1)] := hl
  have h := hf
  unfold fX1_add at h
  obtain ⟨H, hH⟩ : ∃ H, H = s.heap := ⟨_, rfl⟩
  obtain ⟨locs, hlo⟩ : ∃ locs : List Loc, locs = [] := ⟨_, rfl⟩
  rw [← hH] at hP
  rw [← hlo] at hS
  have hS : va_S (k_A (wX1 cyI cyC ob a1 a2 a3 a4 v_signs v_length v_position v_complete v_orders v_kinds v_numbers v_values)) s.heap H locs := by rw [hH]; exact hS
  show W p l e (k_rm 1 20) s m [.ref ob, .int p1].toArray below meth c s.heap [] 0 0 _ _
  rw [← hlo, ← hH]
  refine lv_aload_n hx hb dX1_add_0 rfl (lv_at hl 0 rfl) ?_
  obtain ⟨x1, hc1, h⟩ := k_b1_e h
  refine g_callRI_V (As := []) (rest := []) hC (mX1_isFull l dC dI cyI cyC cyO ob a1 a2 a3 a4 v_signs v_length v_position v_complete v_orders v_kinds v_numbers v_values hc1) q621 q614 q615 q74 q616 0 hdX1_isFull ⟨Nat.le_of_ble_eq_true rfl, Nat.le_of_ble_eq_true rfl⟩ ⟨Nat.le_of_ble_eq_true rfl, Nat.le_of_ble_eq_true rfl⟩ rfl rfl hl.1 (Nat.le_of_ble_eq_true rfl) hP hK (va_recv hK hP (ci := 0) (q0 := 0) rfl rfl) hS dX1_add_1 (fun H locs hk hS => ?_)
  have hP := k_kept hP hk
  refine g_if_ne (tgt := 27) hx hb dX1_add_4 (by decide) h (fun h => ?_) (fun h => ?_)
  · obtain ⟨e0, e1⟩ := k_t2 h
    exact g_retMV hx hb hr hlk hS (by rw [← e0, ← e1]; exact hP) dX1_add_27
  · refine lv_aload_n hx hb dX1_add_7 rfl (lv_at hl 0 rfl) ?_
    refine va_get (D := (dC, dI)) (ci := 0) (v := .ref a1) (C := RX1) (T := TX1) (N := 8) hx hb hts iaX1 hown hK hP 0 rfl rfl 0 (by decide) (hts _ q135) (fun _ h9 => h9) rfl dX1_add_8 ?_
    refine lv_aload_n hx hb dX1_add_11 rfl (lv_at hl 0 rfl) ?_
    refine va_get (D := (dC, dI)) (ci := 0) (v := .int v_length) (C := RX1) (T := TX1) (N := 8) hx hb hts iaX1 hown hK hP 0 rfl rfl 1 (by decide) (hts _ q137) (fun _ h9 => h9) rfl dX1_add_12 ?_
    refine lv_iload_n hx hb dX1_add_15 rfl (lv_at hl 1 rfl) ?_
    refine g_cast hx hb hK hP hD hS 1 1 rfl rfl dX1_add_16 h (fun c2 H locs h hP hS => ?_)
    have hP : va_P (dC, dI) vwCl (wX1 cyI cyC ob a1 a2 a3 a4 c2 v_length v_position v_complete v_orders v_kinds v_numbers v_values) H := hP
    have hD : va_D (k_A (wX1 cyI cyC ob a1 a2 a3 a4 v_signs v_length v_position v_complete v_orders v_kinds v_numbers v_values)) (wX1 cyI cyC ob a1 a2 a3 a4 c2 v_length v_position v_complete v_orders v_kinds v_numbers v_values) := k_Dm hD rfl
    refine lv_aload_n hx hb dX1_add_17 rfl (lv_at hl 0 rfl) ?_
    refine lv_dup hx hb dX1_add_18 rfl ?_
    refine va_get (D := (dC, dI)) (ci := 0) (v := .int v_length) (C := RX1) (T := TX1) (N := 8) hx hb hts iaX1 hown hK hP 0 rfl rfl 1 (by decide) (hts _ q137) (fun _ h9 => h9) rfl dX1_add_19 ?_
    refine lv_iconst (v := 1) hx hb dX1_add_22 (by decide) ?_
    refine g_iadd hx hb dX1_add_23 h (fun x3 h => ?_)
    refine va_put (D := (dC, dI)) (ci := 0) (v := .int x3) (ty := .int) (C := RX1) (T := TX1) (N := 8) hx hb hts iaX1 tyX1 tyX1_ok nmX1 hown hK hP hD hS 0 rfl rfl 1 (by decide) (hts _ q137) (fun _ h9 => h9) rfl (by decide +kernel) rfl rfl (Nat.le_of_ble_eq_true rfl) dX1_add_24 (fun H locs hP _ hS => ?_)
    have hP : va_P (dC, dI) vwCl (wX1 cyI cyC ob a1 a2 a3 a4 c2 x3 v_position v_complete v_orders v_kinds v_numbers v_values) H := hP
    have hD : va_D (k_A (wX1 cyI cyC ob a1 a2 a3 a4 v_signs v_length v_position v_complete v_orders v_kinds v_numbers v_values)) (wX1 cyI cyC ob a1 a2 a3 a4 c2 x3 v_position v_complete v_orders v_kinds v_numbers v_values) := k_Dm hD rfl
    obtain ⟨e0, e1⟩ := k_t2 h
    exact g_retMV hx hb hr hlk hS (by rw [← e0, ← e1]; exact hP) dX1_add_27
def fX1_empty (v_length : Int32) : Option (Int32) :=
  some 0
theorem hdX1_empty : yX1_empty.cls = RX1 ∧ yX1_empty.cls ≠ "java/lang/invoke/MethodHandle" ∧ yX1_empty.cls ≠ "java/lang/invoke/VarHandle" ∧ (parseMethodDescriptor yX1_empty.desc).map (fun d => d.parameters.length) = some 0 := by decide +kernel
set_option maxRecDepth 100000 in
set_option maxHeartbeats 4000000 in
theorem mX1_empty (l : Launch) (dC : Nat → ClassId) (dI : Nat → Nat → Nat) (cyI cyC cyO : ClassId) (ob a1 a2 a3 a4 : Nat) (v_signs : Nat → Int32) (v_length : Int32) (v_position : Int32) (v_complete : Int32) (v_orders : Int32) (v_kinds : Nat → Int32) (v_numbers : Nat → Int32) (v_values : Nat → Int32)  {r_length : Int32} (hf : fX1_empty v_length = some r_length) : MetMV l yX1_empty cX1_empty 1 none 0 0 [.ref ob] (dC, dI) (tyS cyI cyC cyO) (wX1 cyI cyC ob a1 a2 a3 a4 v_signs v_length v_position v_complete v_orders v_kinds v_numbers v_values) (wX1 cyI cyC ob a1 a2 a3 a4 v_signs r_length v_position v_complete v_orders v_kinds v_numbers v_values) := by
  refine metMV_of (by decide) (Nat.le_of_ble_eq_true rfl) ?_
  intro p e s m below meth c ls hC hr hlk hP hK hD hl
  have hC : CallFix p m c cX1_empty 1 s [.ref ob].toArray wA RX1 := hC
  obtain ⟨hx, hb, hml, hown, hts⟩ := id hC
  have hS : va_S (k_A (wX1 cyI cyC ob a1 a2 a3 a4 v_signs v_length v_position v_complete v_orders v_kinds v_numbers v_values)) s.heap s.heap [] := va_S.rf
  have hl : lv_has ls 1 [(0, .ref ob)] := hl
  have h := hf
  unfold fX1_empty at h
  obtain ⟨H, hH⟩ : ∃ H, H = s.heap := ⟨_, rfl⟩
  obtain ⟨locs, hlo⟩ : ∃ locs : List Loc, locs = [] := ⟨_, rfl⟩
  rw [← hH] at hP
  rw [← hlo] at hS
  have hS : va_S (k_A (wX1 cyI cyC ob a1 a2 a3 a4 v_signs v_length v_position v_complete v_orders v_kinds v_numbers v_values)) s.heap H locs := by rw [hH]; exact hS
  show W p l e (k_rm 0 0) s m [.ref ob].toArray below meth c s.heap [] 0 0 _ _
  rw [← hlo, ← hH]
  refine lv_aload_n hx hb dX1_empty_0 rfl (lv_at hl 0 rfl) ?_
  refine lv_iconst (v := 0) hx hb dX1_empty_1 (by decide) ?_
  refine va_put (D := (dC, dI)) (ci := 0) (v := .int 0) (ty := .int) (C := RX1) (T := TX1) (N := 8) hx hb hts iaX1 tyX1 tyX1_ok nmX1 hown hK hP hD hS 0 rfl rfl 1 (by decide) (hts _ q137) (fun _ h9 => h9) rfl (by decide +kernel) rfl rfl (Nat.le_of_ble_eq_true rfl) dX1_empty_2 (fun H locs hP _ hS => ?_)
  have hP : va_P (dC, dI) vwCl (wX1 cyI cyC ob a1 a2 a3 a4 v_signs 0 v_position v_complete v_orders v_kinds v_numbers v_values) H := hP
  have hD : va_D (k_A (wX1 cyI cyC ob a1 a2 a3 a4 v_signs v_length v_position v_complete v_orders v_kinds v_numbers v_values)) (wX1 cyI cyC ob a1 a2 a3 a4 v_signs 0 v_position v_complete v_orders v_kinds v_numbers v_values) := k_Dm hD rfl
  have e0 := k_t1 h
  exact g_retMV hx hb hr hlk hS (by rw [← e0]; exact hP) dX1_empty_5
def fX1_wordOf (p0 : Int32) : Option (Nat) :=
  k_if (p0 = 0)
  (
    some 0)
  (
    k_if (p0 = 1)
    (
      some 1)
    (
      k_if (p0 = 2)
      (
        some 2)
      (
        k_if (p0 = 3)
        (
          some 3)
        (
          some 4))))
theorem hdX1_wordOf : yX1_wordOf.cls ≠ "java/lang/invoke/MethodHandle" ∧ yX1_wordOf.cls ≠ "java/lang/invoke/VarHandle" ∧ (parseMethodDescriptor yX1_wordOf.desc).map (fun d => d.parameters.length) = some 1 := by decide +kernel
set_option maxRecDepth 100000 in
set_option maxHeartbeats 4000000 in
theorem mX1_wordOf (l : Launch) (dC : Nat → ClassId) (dI : Nat → Nat → Nat) (cyI cyC cyO : ClassId) (ad : Nat → Nat)  (p0 : Int32) {r : Nat} (hf : fX1_wordOf p0 = some r) : MetRSe l yX1_wordOf cX1_wordOf 1 (some (.object "java/lang/String")) 0 0 [.int p0] (dC, dI) (tyS cyI cyC cyO) [] ad r := by
  refine metRSe_of (by decide) (Nat.le_of_ble_eq_true rfl) ?_
  intro p e s m below meth c ls hC hr hlk hP hK hE hl
  have hC : CallFix p m c cX1_wordOf 1 s [.int p0].toArray wA RX1 := hC
  obtain ⟨hx, hb, hml, hown, hts⟩ := id hC
  have hS : va_S kF s.heap s.heap [] := va_S.rf
  have hl : lv_has ls 1 [(0, .int p0)] := hl
  have h := hf
  unfold fX1_wordOf at h
  obtain ⟨H, hH⟩ : ∃ H, H = s.heap := ⟨_, rfl⟩
  obtain ⟨locs, hlo⟩ : ∃ locs : List Loc, locs = [] := ⟨_, rfl⟩
  rw [← hH] at hP
  rw [← hlo] at hS
  have hS : va_S kF s.heap H locs := by rw [hH]; exact hS
  show W p l e (k_rm 0 0) s m [.int p0].toArray below meth c s.heap [] 0 0 _ _
  rw [← hlo, ← hH]
  refine lv_iload_n hx hb dX1_wordOf_0 rfl (lv_at hl 0 rfl) ?_
  refine g_arm (v := 0) (off := 31) (tgt := 32) hx hb dX1_wordOf_1 (by decide) (by decide) (by decide +kernel) (by decide) h (fun _ h => ?_) (fun n0 h => ?_)
  · refine va_ldcS hx hb hown hE.1.1.1 dX1_wordOf_32 ?_
    exact g_retRS (Or.inl ⟨_, rfl⟩) hx hb hr hlk hS h dX1_wordOf_34
  · skip
    refine g_arm (v := 1) (off := 34) (tgt := 35) hx hb dX1_wordOf_1 (by decide) (by decide) (by decide +kernel) (by decide) h (fun _ h => ?_) (fun n1 h => ?_)
    · refine va_ldcS hx hb hown hE.1.1.2.1 dX1_wordOf_35 ?_
      exact g_retRS (Or.inl ⟨_, rfl⟩) hx hb hr hlk hS h dX1_wordOf_37
    · skip
      refine g_arm (v := 2) (off := 37) (tgt := 38) hx hb dX1_wordOf_1 (by decide) (by decide) (by decide +kernel) (by decide) h (fun _ h => ?_) (fun n2 h => ?_)
      · refine va_ldcS hx hb hown hE.1.1.2.2.1 dX1_wordOf_38 ?_
        exact g_retRS (Or.inl ⟨_, rfl⟩) hx hb hr hlk hS h dX1_wordOf_40
      · skip
        refine g_arm (v := 3) (off := 40) (tgt := 41) hx hb dX1_wordOf_1 (by decide) (by decide) (by decide +kernel) (by decide) h (fun _ h => ?_) (fun n3 h => ?_)
        · refine va_ldcS hx hb hown hE.1.1.2.2.2.1 dX1_wordOf_41 ?_
          exact g_retRS (Or.inl ⟨_, rfl⟩) hx hb hr hlk hS h dX1_wordOf_43
        · skip
          refine lv_tableOut (tgt := 44) hx hb dX1_wordOf_1 (by have z0 := g_ne (z := 0) (by decide) n0; have z1 := g_ne (z := 1) (by decide) n1; have z2 := g_ne (z := 2) (by decide) n2; have z3 := g_ne (z := 3) (by decide) n3; omega) (by decide) ?_
          refine va_ldcS hx hb hown hE.1.1.2.2.2.2 dX1_wordOf_44 ?_
          exact g_retRS (Or.inl ⟨_, rfl⟩) hx hb hr hlk hS h dX1_wordOf_46
def fX1_sameSigns_s2 (w1 : Nat) (v_position : Int32) (v_length : Int32) (v_signs : Nat → Int32) (rec2 : Int32 → Option (Int32)) (x1 : Int32) : Option (Int32) :=
  k_ckw w1 <|
  k_if (((fW_len w1)) ≤ x1)
  (
    some x1)
  (
    k_let (v_position + x1) fun (x2 : Int32) =>
    k_if (v_length ≤ x2)
    (
      some x1)
    (
      k_let (v_position + x1) fun (x3 : Int32) =>
      k_ck x3 60 <| k_let (v_signs x3.toNatClampNeg) fun (x4 : Int32) =>
      k_ckw w1 <|
      k_ck x1 (lenW.getD w1 0) <|
      k_if (x4 = ((fW_ch w1 x1)))
      (
        k_let (x1 + 1) fun (x5 : Int32) =>
        rec2 x5)
      (
        some x1)))
def fX1_sameSigns (v_signs : Nat → Int32) (v_length : Int32) (v_position : Int32) (w1 : Nat) : Option (Int32) :=
  k_l1 (fX1_sameSigns_s2 w1 v_position v_length v_signs) 5000 0
theorem hdX1_sameSigns : yX1_sameSigns.cls = RX1 ∧ yX1_sameSigns.cls ≠ "java/lang/invoke/MethodHandle" ∧ yX1_sameSigns.cls ≠ "java/lang/invoke/VarHandle" ∧ (parseMethodDescriptor yX1_sameSigns.desc).map (fun d => d.parameters.length) = some 1 := by decide +kernel
set_option maxRecDepth 100000 in
set_option maxHeartbeats 4000000 in
theorem mX1_sameSigns (l : Launch) (dC : Nat → ClassId) (dI : Nat → Nat → Nat) (cyI cyC cyO : ClassId) (ad : Nat → Nat) (ob a1 a2 a3 a4 : Nat) (v_signs : Nat → Int32) (v_length : Int32) (v_position : Int32) (v_complete : Int32) (v_orders : Int32) (v_kinds : Nat → Int32) (v_numbers : Nat → Int32) (v_values : Nat → Int32) (w1 : Nat) {r : Int32} (hf : fX1_sameSigns v_signs v_length v_position w1 = some r) : MetRIe l yX1_sameSigns cX1_sameSigns 3 (some .int) 4 85 [.ref ob, .ref ((ad w1))] (dC, dI) (tyS cyI cyC cyO) (wX1 cyI cyC ob a1 a2 a3 a4 v_signs v_length v_position v_complete v_orders v_kinds v_numbers v_values) ad r := by
  refine metRIe_of (by decide) (Nat.le_of_ble_eq_true rfl) ?_
  intro p e s m below meth c ls hC hr hlk hP hK hE hl
  have hC : CallFix p m c cX1_sameSigns 3 s [.ref ob, .ref ((ad w1))].toArray wA RX1 := hC
  obtain ⟨hx, hb, hml, hown, hts⟩ := id hC
  have hS : va_S kF s.heap s.heap [] := va_S.rf
  have hl : lv_has ls 3 [(0, .ref ob), (1, .ref ((ad w1)))] := hl
  have h := hf
  unfold fX1_sameSigns at h
  obtain ⟨H, hH⟩ : ∃ H, H = s.heap := ⟨_, rfl⟩
  obtain ⟨locs, hlo⟩ : ∃ locs : List Loc, locs = [] := ⟨_, rfl⟩
  rw [← hH] at hP
  rw [← hlo] at hS
  have hS : va_S kF s.heap H locs := by rw [hH]; exact hS
  show W p l e (k_rm 4 85) s m [.ref ob, .ref ((ad w1))].toArray below meth c s.heap [] 0 0 _ _
  rw [← hlo, ← hH]
  refine lv_iconst (v := 0) hx hb dX1_sameSigns_0 (by decide) ?_
  refine lv_istore_n (lv' := [(2, .int 0), (0, .ref ob), (1, .ref ((ad w1)))]) hx hb dX1_sameSigns_1 rfl hl (by decide) rfl (fun ls hl => ?_)
  obtain ⟨S2, hS2⟩ : ∃ z, z = (fX1_sameSigns_s2 w1 v_position v_length v_signs) := ⟨_, rfl⟩
  rw [← hS2] at h
  have L2 : ∀ (n : Nat) (x1 : Int32) (H : Heap) (locs : List Loc) (ls : Array Slot), k_l1 S2 n x1 = some r → va_P (dC, dI) vwCl (wX1 cyI cyC ob a1 a2 a3 a4 v_signs v_length v_position v_complete v_orders v_kinds v_numbers v_values) H → va_S kF s.heap H locs → lv_has ls 3 [(0, .ref ob), (1, .ref ((ad w1))), (2, .int x1)] → W p l e (k_rm 4 85) s m [.ref ob, .ref ((ad w1))].toArray below meth c H locs 0 0 (MQ below (qRI r) [.ref ob, .ref ((ad w1))].toArray s 0 0 kF) (F0 m 2 ls []) := by
    intro n
    induction n with
    | zero =>
      intro x1 H locs ls h
      exact (k_l1_0 h).elim
    | succ n ih2 =>
      intro x1 H locs ls h hP hS hl
      have h := k_l1_s h
      have h := k_a2 hS2 h
      unfold fX1_sameSigns_s2 at h
      refine lv_iload_n hx hb dX1_sameSigns_2 rfl (lv_at hl 2 rfl) ?_
      refine lv_aload_n hx hb dX1_sameSigns_3 rfl (lv_at hl 1 rfl) ?_
      obtain ⟨hw4, h⟩ := k_ckw_e h
      refine g_callRIe_V (As := []) (rest := [.int x1]) hC (mW_length l (dC, dI) (tyS cyI cyC cyO) ad w1 hw4) q184 q185 q186 q86 q187 0 hdW_length ⟨Nat.le_of_ble_eq_true rfl, Nat.le_of_ble_eq_true rfl⟩ ⟨Nat.le_of_ble_eq_true rfl, Nat.le_of_ble_eq_true rfl⟩ rfl rfl hl.1 (Nat.le_of_ble_eq_true rfl) va_P_nil hK (vk_recv hE.2.1 hw4 hS) hS dX1_sameSigns_4 hE (fun H locs hk hS => ?_)
      have hP := k_kept hP hk
      refine g_icmp_ge (tgt := 48) hx hb dX1_sameSigns_7 (by decide) h (fun h => ?_) (fun h => ?_)
      · refine lv_iload_n hx hb dX1_sameSigns_48 rfl (lv_at hl 2 rfl) ?_
        exact g_retRI hx hb hr hlk hS h dX1_sameSigns_49
      · refine lv_aload_n hx hb dX1_sameSigns_10 rfl (lv_at hl 0 rfl) ?_
        refine va_get (D := (dC, dI)) (ci := 0) (v := .int v_position) (C := RX1) (T := TX1) (N := 8) hx hb hts iaX1 hown hK hP 0 rfl rfl 2 (by decide) (hts _ q139) (fun _ h9 => h9) rfl dX1_sameSigns_11 ?_
        refine lv_iload_n hx hb dX1_sameSigns_14 rfl (lv_at hl 2 rfl) ?_
        refine g_iadd hx hb dX1_sameSigns_15 h (fun x2 h => ?_)
        refine lv_aload_n hx hb dX1_sameSigns_16 rfl (lv_at hl 0 rfl) ?_
        refine va_get (D := (dC, dI)) (ci := 0) (v := .int v_length) (C := RX1) (T := TX1) (N := 8) hx hb hts iaX1 hown hK hP 0 rfl rfl 1 (by decide) (hts _ q137) (fun _ h9 => h9) rfl dX1_sameSigns_17 ?_
        refine g_icmp_ge (tgt := 48) hx hb dX1_sameSigns_20 (by decide) h (fun h => ?_) (fun h => ?_)
        · refine lv_iload_n hx hb dX1_sameSigns_48 rfl (lv_at hl 2 rfl) ?_
          exact g_retRI hx hb hr hlk hS h dX1_sameSigns_49
        · refine lv_aload_n hx hb dX1_sameSigns_23 rfl (lv_at hl 0 rfl) ?_
          refine va_get (D := (dC, dI)) (ci := 0) (v := .ref a1) (C := RX1) (T := TX1) (N := 8) hx hb hts iaX1 hown hK hP 0 rfl rfl 0 (by decide) (hts _ q135) (fun _ h9 => h9) rfl dX1_sameSigns_24 ?_
          refine lv_aload_n hx hb dX1_sameSigns_27 rfl (lv_at hl 0 rfl) ?_
          refine va_get (D := (dC, dI)) (ci := 0) (v := .int v_position) (C := RX1) (T := TX1) (N := 8) hx hb hts iaX1 hown hK hP 0 rfl rfl 2 (by decide) (hts _ q139) (fun _ h9 => h9) rfl dX1_sameSigns_28 ?_
          refine lv_iload_n hx hb dX1_sameSigns_31 rfl (lv_at hl 2 rfl) ?_
          refine g_iadd hx hb dX1_sameSigns_32 h (fun x3 h => ?_)
          refine g_cald hx hb hK hP 1 1 rfl rfl dX1_sameSigns_33 h (fun x4 h => ?_)
          refine lv_aload_n hx hb dX1_sameSigns_34 rfl (lv_at hl 1 rfl) ?_
          refine lv_iload_n hx hb dX1_sameSigns_35 rfl (lv_at hl 2 rfl) ?_
          obtain ⟨hw36, h⟩ := k_ckw_e h
          obtain ⟨hi36, h⟩ := k_ck_e h
          refine g_callRIe_V (As := [.int x1]) (rest := [.int x4]) hC (mW_charAt l (dC, dI) (tyS cyI cyC cyO) ad w1 hw36 x1 hi36) q194 q195 q196 q86 q197 1 hdW_charAt ⟨Nat.le_of_ble_eq_true rfl, Nat.le_of_ble_eq_true rfl⟩ ⟨Nat.le_of_ble_eq_true rfl, Nat.le_of_ble_eq_true rfl⟩ rfl rfl hl.1 (Nat.le_of_ble_eq_true rfl) va_P_nil hK (vk_recv hE.2.1 hw36 hS) hS dX1_sameSigns_36 hE (fun H locs hk hS => ?_)
          have hP := k_kept hP hk
          refine g_icmp_ne (tgt := 48) hx hb dX1_sameSigns_39 (by decide) h (fun h => ?_) (fun h => ?_)
          · refine lv_iload_n hx hb dX1_sameSigns_48 rfl (lv_at hl 2 rfl) ?_
            exact g_retRI hx hb hr hlk hS h dX1_sameSigns_49
          · refine g_iinc (dv := 1) hx hb dX1_sameSigns_42 hl (j := 2) rfl (by decide) (by decide) h (fun x5 ls h hl => ?_)
            have hl : lv_has ls 3 [(2, .int x5), (0, .ref ob), (1, .ref ((ad w1)))] := hl
            refine lv_goto (tgt := 2) hx hb dX1_sameSigns_45 (by decide) ?_
            exact ih2 x5 _ _ _ h hP hS (lv_sub hl [1, 2, 0] rfl)
  exact L2 5000 0 _ _ _ h hP hS (lv_sub hl [1, 2, 0] rfl)
def fX1_scanWord_s6 (K48 : Int32 → Int32 → Option (Int32 × Int32)) (v_signs : Nat → Int32) (v_length : Int32) (v_position : Int32) (rec6 : Int32 → Int32 → Int32 → Option (Int32 × Int32)) (x4 : Int32) (x5 : Int32) (x6 : Int32) : Option (Int32 × Int32) :=
  k_if (5 ≤ x6)
  (
    K48 x4 x5)
  (
    k_b1 (fX1_wordOf x6) fun (x7 : Nat) =>
    k_b1 (fX1_sameSigns v_signs v_length v_position x7) fun (x8 : Int32) =>
    k_let (if x4 < x8 then x8 else x4) fun (x9 : Int32) =>
    k_b1 (fX1_wordOf x6) fun (x10 : Nat) =>
    k_ckw x10 <|
    k_j1
    (fun (x11 : Int32) =>
      k_let (x6 + 1) fun (x12 : Int32) =>
      rec6 x9 x11 x12)
    (fun K42 =>
    k_if (x8 = ((fW_len x10)))
    (
      K42 x6)
    (
      K42 x5)))
def fX1_scanWord (v_signs : Nat → Int32) (v_length : Int32) (v_position : Int32) : Option (Int32 × Int32) :=
  k_j2
  (fun (x1 : Int32) (x2 : Int32) =>
    k_let (v_position + x1) fun (x3 : Int32) =>
    some (x2, x3))
  (fun K48 =>
  k_l3 (fX1_scanWord_s6 K48 v_signs v_length v_position) 5000 0 ((-1)) 0)
theorem hdX1_scanWord : yX1_scanWord.cls = RX1 ∧ yX1_scanWord.cls ≠ "java/lang/invoke/MethodHandle" ∧ yX1_scanWord.cls ≠ "java/lang/invoke/VarHandle" ∧ (parseMethodDescriptor yX1_scanWord.desc).map (fun d => d.parameters.length) = some 0 := by decide +kernel
set_option maxRecDepth 100000 in
set_option maxHeartbeats 4000000 in
theorem mX1_scanWord (l : Launch) (dC : Nat → ClassId) (dI : Nat → Nat → Nat) (cyI cyC cyO : ClassId) (ad : Nat → Nat) (ob a1 a2 a3 a4 : Nat) (v_signs : Nat → Int32) (v_length : Int32) (v_position : Int32) (v_complete : Int32) (v_orders : Int32) (v_kinds : Nat → Int32) (v_numbers : Nat → Int32) (v_values : Nat → Int32)  {r : Int32} {r_position : Int32} (hf : fX1_scanWord v_signs v_length v_position = some (r, r_position)) : MetMIe l yX1_scanWord cX1_scanWord 5 (some .int) 5 107 [.ref ob] (dC, dI) (tyS cyI cyC cyO) (wX1 cyI cyC ob a1 a2 a3 a4 v_signs v_length v_position v_complete v_orders v_kinds v_numbers v_values) (wX1 cyI cyC ob a1 a2 a3 a4 v_signs v_length r_position v_complete v_orders v_kinds v_numbers v_values) ad r := by
  refine metMIe_of (by decide) (Nat.le_of_ble_eq_true rfl) ?_
  intro p e s m below meth c ls hC hr hlk hP hK hD hE hl
  have hC : CallFix p m c cX1_scanWord 5 s [.ref ob].toArray wA RX1 := hC
  obtain ⟨hx, hb, hml, hown, hts⟩ := id hC
  have hS : va_S (k_A (wX1 cyI cyC ob a1 a2 a3 a4 v_signs v_length v_position v_complete v_orders v_kinds v_numbers v_values)) s.heap s.heap [] := va_S.rf
  have hl : lv_has ls 5 [(0, .ref ob)] := hl
  have h := hf
  unfold fX1_scanWord at h
  obtain ⟨H, hH⟩ : ∃ H, H = s.heap := ⟨_, rfl⟩
  obtain ⟨locs, hlo⟩ : ∃ locs : List Loc, locs = [] := ⟨_, rfl⟩
  rw [← hH] at hP
  rw [← hlo] at hS
  have hS : va_S (k_A (wX1 cyI cyC ob a1 a2 a3 a4 v_signs v_length v_position v_complete v_orders v_kinds v_numbers v_values)) s.heap H locs := by rw [hH]; exact hS
  show W p l e (k_rm 5 107) s m [.ref ob].toArray below meth c s.heap [] 0 0 _ _
  rw [← hlo, ← hH]
  refine lv_iconst (v := 0) hx hb dX1_scanWord_0 (by decide) ?_
  refine lv_istore_n (lv' := [(1, .int 0), (0, .ref ob)]) hx hb dX1_scanWord_1 rfl hl (by decide) rfl (fun ls hl => ?_)
  refine lv_iconst (v := (-1)) hx hb dX1_scanWord_2 (by decide) ?_
  refine lv_istore_n (lv' := [(2, .int ((-1))), (1, .int 0), (0, .ref ob)]) hx hb dX1_scanWord_3 rfl hl (by decide) rfl (fun ls hl => ?_)
  refine lv_iconst (v := 0) hx hb dX1_scanWord_4 (by decide) ?_
  refine lv_istore_n (lv' := [(3, .int 0), (2, .int ((-1))), (1, .int 0), (0, .ref ob)]) hx hb dX1_scanWord_5 rfl hl (by decide) rfl (fun ls hl => ?_)
  obtain ⟨K48, hK48, h⟩ := k_j2_e h
  have J48 : ∀ (x1 : Int32) (x2 : Int32) (H : Heap) (locs : List Loc) (ls : Array Slot), K48 x1 x2 = some (r, r_position) → va_P (dC, dI) vwCl (wX1 cyI cyC ob a1 a2 a3 a4 v_signs v_length v_position v_complete v_orders v_kinds v_numbers v_values) H → va_S (k_A (wX1 cyI cyC ob a1 a2 a3 a4 v_signs v_length v_position v_complete v_orders v_kinds v_numbers v_values)) s.heap H locs → lv_has ls 5 [(0, .ref ob), (1, .int x1), (2, .int x2)] → W p l e (k_rm 5 107) s m [.ref ob].toArray below meth c H locs 0 0 (MQ below (qMI r (dC, dI) (wX1 cyI cyC ob a1 a2 a3 a4 v_signs v_length v_position v_complete v_orders v_kinds v_numbers v_values) (wX1 cyI cyC ob a1 a2 a3 a4 v_signs v_length r_position v_complete v_orders v_kinds v_numbers v_values)) [.ref ob].toArray s 0 0 (k_A (wX1 cyI cyC ob a1 a2 a3 a4 v_signs v_length v_position v_complete v_orders v_kinds v_numbers v_values))) (F0 m 48 ls []) := by
    intro x1 x2 H locs ls h hP hS hl
    have h := k_a2 hK48 h
    refine lv_aload_n hx hb dX1_scanWord_48 rfl (lv_at hl 0 rfl) ?_
    refine lv_dup hx hb dX1_scanWord_49 rfl ?_
    refine va_get (D := (dC, dI)) (ci := 0) (v := .int v_position) (C := RX1) (T := TX1) (N := 8) hx hb hts iaX1 hown hK hP 0 rfl rfl 2 (by decide) (hts _ q139) (fun _ h9 => h9) rfl dX1_scanWord_50 ?_
    refine lv_iload_n hx hb dX1_scanWord_53 rfl (lv_at hl 1 rfl) ?_
    refine g_iadd hx hb dX1_scanWord_54 h (fun x3 h => ?_)
    refine va_put (D := (dC, dI)) (ci := 0) (v := .int x3) (ty := .int) (C := RX1) (T := TX1) (N := 8) hx hb hts iaX1 tyX1 tyX1_ok nmX1 hown hK hP hD hS 0 rfl rfl 2 (by decide) (hts _ q139) (fun _ h9 => h9) rfl (by decide +kernel) rfl rfl (Nat.le_of_ble_eq_true rfl) dX1_scanWord_55 (fun H locs hP _ hS => ?_)
    have hP : va_P (dC, dI) vwCl (wX1 cyI cyC ob a1 a2 a3 a4 v_signs v_length x3 v_complete v_orders v_kinds v_numbers v_values) H := hP
    have hD : va_D (k_A (wX1 cyI cyC ob a1 a2 a3 a4 v_signs v_length v_position v_complete v_orders v_kinds v_numbers v_values)) (wX1 cyI cyC ob a1 a2 a3 a4 v_signs v_length x3 v_complete v_orders v_kinds v_numbers v_values) := k_Dm hD rfl
    refine lv_iload_n hx hb dX1_scanWord_58 rfl (lv_at hl 2 rfl) ?_
    obtain ⟨e0, e1⟩ := k_t2 h
    exact g_retMI hx hb hr hlk hS e0 (by rw [← e1]; exact hP) dX1_scanWord_59
  obtain ⟨S6, hS6⟩ : ∃ z, z = (fX1_scanWord_s6 K48 v_signs v_length v_position) := ⟨_, rfl⟩
  rw [← hS6] at h
  have L6 : ∀ (n : Nat) (x4 : Int32) (x5 : Int32) (x6 : Int32) (H : Heap) (locs : List Loc) (ls : Array Slot), k_l3 S6 n x4 x5 x6 = some (r, r_position) → va_P (dC, dI) vwCl (wX1 cyI cyC ob a1 a2 a3 a4 v_signs v_length v_position v_complete v_orders v_kinds v_numbers v_values) H → va_S (k_A (wX1 cyI cyC ob a1 a2 a3 a4 v_signs v_length v_position v_complete v_orders v_kinds v_numbers v_values)) s.heap H locs → lv_has ls 5 [(0, .ref ob), (1, .int x4), (2, .int x5), (3, .int x6)] → W p l e (k_rm 5 107) s m [.ref ob].toArray below meth c H locs 0 0 (MQ below (qMI r (dC, dI) (wX1 cyI cyC ob a1 a2 a3 a4 v_signs v_length v_position v_complete v_orders v_kinds v_numbers v_values) (wX1 cyI cyC ob a1 a2 a3 a4 v_signs v_length r_position v_complete v_orders v_kinds v_numbers v_values)) [.ref ob].toArray s 0 0 (k_A (wX1 cyI cyC ob a1 a2 a3 a4 v_signs v_length v_position v_complete v_orders v_kinds v_numbers v_values))) (F0 m 6 ls []) := by
    intro n
    induction n with
    | zero =>
      intro x4 x5 x6 H locs ls h
      exact (k_l3_0 h).elim
    | succ n ih6 =>
      intro x4 x5 x6 H locs ls h hP hS hl
      have h := k_l3_s h
      have h := k_a4 hS6 h
      unfold fX1_scanWord_s6 at h
      refine lv_iload_n hx hb dX1_scanWord_6 rfl (lv_at hl 3 rfl) ?_
      refine lv_iconst (v := 5) hx hb dX1_scanWord_7 (by decide) ?_
      refine g_icmp_ge (tgt := 48) hx hb dX1_scanWord_8 (by decide) h (fun h => ?_) (fun h => ?_)
      · exact J48 x4 x5 _ _ _ h hP hS (lv_sub hl [0, 1, 2] rfl)
      · refine lv_aload_n hx hb dX1_scanWord_11 rfl (lv_at hl 0 rfl) ?_
        refine lv_iload_n hx hb dX1_scanWord_12 rfl (lv_at hl 3 rfl) ?_
        obtain ⟨x7, hc13, h⟩ := k_b1_e h
        refine g_callRSe_S (As := [.int x6]) (rest := [.ref ob]) hC (mX1_wordOf l dC dI cyI cyC cyO ad x6 hc13) q178 q179 q74 q180 1 hdX1_wordOf ⟨Nat.le_of_ble_eq_true rfl, Nat.le_of_ble_eq_true rfl⟩ ⟨Nat.le_of_ble_eq_true rfl, Nat.le_of_ble_eq_true rfl⟩ rfl rfl hl.1 (Nat.le_of_ble_eq_true rfl) va_P_nil hK hS dX1_scanWord_13 hE (fun H locs hk hS => ?_)
        have hP := k_kept hP hk
        obtain ⟨x8, hc16, h⟩ := k_b1_e h
        refine g_callRIe_V (As := [.ref ((ad x7))]) (rest := []) hC (mX1_sameSigns l dC dI cyI cyC cyO ad ob a1 a2 a3 a4 v_signs v_length v_position v_complete v_orders v_kinds v_numbers v_values x7 hc16) q181 q182 q2 q74 q183 1 hdX1_sameSigns ⟨Nat.le_of_ble_eq_true rfl, Nat.le_of_ble_eq_true rfl⟩ ⟨Nat.le_of_ble_eq_true rfl, Nat.le_of_ble_eq_true rfl⟩ rfl rfl hl.1 (Nat.le_of_ble_eq_true rfl) hP hK (va_recv hK hP (ci := 0) (q0 := 0) rfl rfl) hS dX1_scanWord_16 hE (fun H locs hk hS => ?_)
        have hP := k_kept hP hk
        refine lv_istore (lv' := [(4, .int x8), (0, .ref ob), (1, .int x4), (2, .int x5), (3, .int x6)]) hx hb dX1_scanWord_19 hl (by decide) rfl (fun ls hl => ?_)
        refine lv_iload_n hx hb dX1_scanWord_21 rfl (lv_at hl 2 rfl) ?_
        refine lv_iload hx hb dX1_scanWord_22 (lv_at hl 0 rfl) ?_
        refine g_mmax hx hb (hml.trans hl.1.symm) hown (hts _ q232) (hts _ q233) (hts _ q83) (hts _ q234) (Nat.le_of_ble_eq_true rfl) (Nat.le_of_ble_eq_true rfl) (Nat.le_of_ble_eq_true rfl) (Nat.le_of_ble_eq_true rfl) dX1_scanWord_24 h (fun x9 h => ?_)
        refine lv_istore_n (lv' := [(1, .int x9), (4, .int x8), (0, .ref ob), (2, .int x5), (3, .int x6)]) hx hb dX1_scanWord_27 rfl hl (by decide) rfl (fun ls hl => ?_)
        refine lv_iload hx hb dX1_scanWord_28 (lv_at hl 1 rfl) ?_
        refine lv_iload_n hx hb dX1_scanWord_30 rfl (lv_at hl 4 rfl) ?_
        obtain ⟨x10, hc31, h⟩ := k_b1_e h
        refine g_callRSe_S (As := [.int x6]) (rest := [.int x8]) hC (mX1_wordOf l dC dI cyI cyC cyO ad x6 hc31) q178 q179 q74 q180 1 hdX1_wordOf ⟨Nat.le_of_ble_eq_true rfl, Nat.le_of_ble_eq_true rfl⟩ ⟨Nat.le_of_ble_eq_true rfl, Nat.le_of_ble_eq_true rfl⟩ rfl rfl hl.1 (Nat.le_of_ble_eq_true rfl) va_P_nil hK hS dX1_scanWord_31 hE (fun H locs hk hS => ?_)
        have hP := k_kept hP hk
        obtain ⟨hw34, h⟩ := k_ckw_e h
        refine g_callRIe_V (As := []) (rest := [.int x8]) hC (mW_length l (dC, dI) (tyS cyI cyC cyO) ad x10 hw34) q184 q185 q186 q86 q187 0 hdW_length ⟨Nat.le_of_ble_eq_true rfl, Nat.le_of_ble_eq_true rfl⟩ ⟨Nat.le_of_ble_eq_true rfl, Nat.le_of_ble_eq_true rfl⟩ rfl rfl hl.1 (Nat.le_of_ble_eq_true rfl) va_P_nil hK (vk_recv hE.2.1 hw34 hS) hS dX1_scanWord_34 hE (fun H locs hk hS => ?_)
        have hP := k_kept hP hk
        obtain ⟨K42, hK42, h⟩ := k_j1_e h
        have J42 : ∀ (x11 : Int32) (H : Heap) (locs : List Loc) (ls : Array Slot), K42 x11 = some (r, r_position) → va_P (dC, dI) vwCl (wX1 cyI cyC ob a1 a2 a3 a4 v_signs v_length v_position v_complete v_orders v_kinds v_numbers v_values) H → va_S (k_A (wX1 cyI cyC ob a1 a2 a3 a4 v_signs v_length v_position v_complete v_orders v_kinds v_numbers v_values)) s.heap H locs → lv_has ls 5 [(0, .ref ob), (1, .int x9), (2, .int x11), (3, .int x6)] → W p l e (k_rm 5 107) s m [.ref ob].toArray below meth c H locs 0 0 (MQ below (qMI r (dC, dI) (wX1 cyI cyC ob a1 a2 a3 a4 v_signs v_length v_position v_complete v_orders v_kinds v_numbers v_values) (wX1 cyI cyC ob a1 a2 a3 a4 v_signs v_length r_position v_complete v_orders v_kinds v_numbers v_values)) [.ref ob].toArray s 0 0 (k_A (wX1 cyI cyC ob a1 a2 a3 a4 v_signs v_length v_position v_complete v_orders v_kinds v_numbers v_values))) (F0 m 42 ls []) := by
          intro x11 H locs ls h hP hS hl
          have h := k_a1 hK42 h
          refine g_iinc (dv := 1) hx hb dX1_scanWord_42 hl (j := 3) rfl (by decide) (by decide) h (fun x12 ls h hl => ?_)
          have hl : lv_has ls 5 [(3, .int x12), (0, .ref ob), (1, .int x9), (2, .int x11)] := hl
          refine lv_goto (tgt := 6) hx hb dX1_scanWord_45 (by decide) ?_
          exact ih6 x9 x11 x12 _ _ _ h hP hS (lv_sub hl [1, 2, 3, 0] rfl)
        refine g_icmp_ne (tgt := 42) hx hb dX1_scanWord_37 (by decide) h (fun h => ?_) (fun h => ?_)
        · exact J42 x5 _ _ _ h hP hS (lv_sub hl [2, 0, 3, 4] rfl)
        · refine lv_iload_n hx hb dX1_scanWord_40 rfl (lv_at hl 4 rfl) ?_
          refine lv_istore_n (lv' := [(2, .int x6), (1, .int x9), (4, .int x8), (0, .ref ob), (3, .int x6)]) hx hb dX1_scanWord_41 rfl hl (by decide) rfl (fun ls hl => ?_)
          exact J42 x6 _ _ _ h hP hS (lv_sub hl [3, 1, 0, 4] rfl)
  exact L6 5000 0 ((-1)) 0 _ _ _ h hP hS (lv_sub hl [3, 2, 1, 0] rfl)
def fX4_isWithin (p0 : Int32) (p1 : Int32) (p2 : Int32) : Option (Int32) :=
  k_if (p0 < p1)
  (
    some 0)
  (
    k_if (p2 < p0)
    (
      some 0)
    (
      some 1))
theorem hdX4_isWithin : yX4_isWithin.cls ≠ "java/lang/invoke/MethodHandle" ∧ yX4_isWithin.cls ≠ "java/lang/invoke/VarHandle" ∧ (parseMethodDescriptor yX4_isWithin.desc).map (fun d => d.parameters.length) = some 3 := by decide +kernel
set_option maxRecDepth 100000 in
set_option maxHeartbeats 4000000 in
theorem mX4_isWithin (l : Launch) (dC : Nat → ClassId) (dI : Nat → Nat → Nat) (cyI cyC cyO : ClassId)  (p0 : Int32) (p1 : Int32) (p2 : Int32) {r : Int32} (hf : fX4_isWithin p0 p1 p2 = some r) : MetRI l yX4_isWithin cX4_isWithin 3 (some .boolean) 0 0 [.int p0, .int p1, .int p2] (dC, dI) (tyS cyI cyC cyO) [] r := by
  refine metRI_of (by decide) (Nat.le_of_ble_eq_true rfl) ?_
  intro p e s m below meth c ls hC hr hlk hP hK hl
  have hC : CallFix p m c cX4_isWithin 3 s [.int p0, .int p1, .int p2].toArray wA RX4 := hC
  obtain ⟨hx, hb, hml, hown, hts⟩ := id hC
  have hS : va_S kF s.heap s.heap [] := va_S.rf
  have hl : lv_has ls 3 [(0, .int p0), (1, .int p1), (2, .int p2)] := hl
  have h := hf
  unfold fX4_isWithin at h
  obtain ⟨H, hH⟩ : ∃ H, H = s.heap := ⟨_, rfl⟩
  obtain ⟨locs, hlo⟩ : ∃ locs : List Loc, locs = [] := ⟨_, rfl⟩
  rw [← hH] at hP
  rw [← hlo] at hS
  have hS : va_S kF s.heap H locs := by rw [hH]; exact hS
  show W p l e (k_rm 0 0) s m [.int p0, .int p1, .int p2].toArray below meth c s.heap [] 0 0 _ _
  rw [← hlo, ← hH]
  refine lv_iload_n hx hb dX4_isWithin_0 rfl (lv_at hl 0 rfl) ?_
  refine lv_iload_n hx hb dX4_isWithin_1 rfl (lv_at hl 1 rfl) ?_
  refine g_icmp_lt (tgt := 14) hx hb dX4_isWithin_2 (by decide) h (fun h => ?_) (fun h => ?_)
  · refine lv_iconst (v := 0) hx hb dX4_isWithin_14 (by decide) ?_
    exact g_retRZ hx hb hr (by decide +kernel) hlk hS h dX4_isWithin_15
  · refine lv_iload_n hx hb dX4_isWithin_5 rfl (lv_at hl 0 rfl) ?_
    refine lv_iload_n hx hb dX4_isWithin_6 rfl (lv_at hl 2 rfl) ?_
    refine g_icmp_gt (tgt := 14) hx hb dX4_isWithin_7 (by decide) h (fun h => ?_) (fun h => ?_)
    · refine lv_iconst (v := 0) hx hb dX4_isWithin_14 (by decide) ?_
      exact g_retRZ hx hb hr (by decide +kernel) hlk hS h dX4_isWithin_15
    · refine lv_iconst (v := 1) hx hb dX4_isWithin_10 (by decide) ?_
      refine lv_goto (tgt := 15) hx hb dX4_isWithin_11 (by decide) ?_
      exact g_retRZ hx hb hr (by decide +kernel) hlk hS h dX4_isWithin_15
def fX1_scanNumber_s2 (v_length : Int32) (v_signs : Nat → Int32) (p1 : Int32) (p2 : Int32) (K78 : Int32 → Int32 → Option (Int32 × Int32)) (rec2 : Int32 → Int32 → Option (Int32 × Int32)) (x3 : Int32) (c4 : Int32) : Option (Int32 × Int32) :=
  k_if (v_length ≤ c4)
  (
    some (x3, c4))
  (
    k_ck c4 60 <| k_let (v_signs c4.toNatClampNeg) fun (x5 : Int32) =>
    k_if (x5 < 48)
    (
      some (x3, c4))
    (
      k_ck c4 60 <| k_let (v_signs c4.toNatClampNeg) fun (x6 : Int32) =>
      k_if (57 < x6)
      (
        some (x3, c4))
      (
        k_let (if x3 < (0 : Int32) then (0 : Int32) else x3) fun (x7 : Int32) =>
        k_let (x7 * 10) fun (x8 : Int32) =>
        k_ck c4 60 <| k_let (v_signs c4.toNatClampNeg) fun (x9 : Int32) =>
        k_let (x9 - 48) fun (x10 : Int32) =>
        k_let (x8 + x10) fun (x11 : Int32) =>
        k_if (x3 = 0)
        (
          some (x3, c4))
        (
          k_b1 (fX4_isWithin x11 p1 p2) fun (x12 : Int32) =>
          k_if (x12 = 0)
          (
            K78 x3 c4)
          (
            k_let (c4 + 1) fun (x13 : Int32) =>
            rec2 x11 x13)))))
def fX1_scanNumber (v_signs : Nat → Int32) (v_length : Int32) (v_position : Int32) (p1 : Int32) (p2 : Int32) : Option (Int32 × Int32) :=
  k_j2
  (fun (x1 : Int32) (c2 : Int32) =>
    some (x1, c2))
  (fun K78 =>
  k_l2 (fX1_scanNumber_s2 v_length v_signs p1 p2 K78) 5000 ((-1)) v_position)
theorem hdX1_scanNumber : yX1_scanNumber.cls = RX1 ∧ yX1_scanNumber.cls ≠ "java/lang/invoke/MethodHandle" ∧ yX1_scanNumber.cls ≠ "java/lang/invoke/VarHandle" ∧ (parseMethodDescriptor yX1_scanNumber.desc).map (fun d => d.parameters.length) = some 2 := by decide +kernel
set_option maxRecDepth 100000 in
set_option maxHeartbeats 4000000 in
theorem mX1_scanNumber (l : Launch) (dC : Nat → ClassId) (dI : Nat → Nat → Nat) (cyI cyC cyO : ClassId) (ad : Nat → Nat) (ob a1 a2 a3 a4 : Nat) (v_signs : Nat → Int32) (v_length : Int32) (v_position : Int32) (v_complete : Int32) (v_orders : Int32) (v_kinds : Nat → Int32) (v_numbers : Nat → Int32) (v_values : Nat → Int32) (p1 : Int32) (p2 : Int32) {r : Int32} {r_position : Int32} (hf : fX1_scanNumber v_signs v_length v_position p1 p2 = some (r, r_position)) : MetMIe l yX1_scanNumber cX1_scanNumber 5 (some .int) 1 22 [.ref ob, .int p1, .int p2] (dC, dI) (tyS cyI cyC cyO) (wX1 cyI cyC ob a1 a2 a3 a4 v_signs v_length v_position v_complete v_orders v_kinds v_numbers v_values) (wX1 cyI cyC ob a1 a2 a3 a4 v_signs v_length r_position v_complete v_orders v_kinds v_numbers v_values) ad r := by
  refine metMIe_of (by decide) (Nat.le_of_ble_eq_true rfl) ?_
  intro p e s m below meth c ls hC hr hlk hP hK hD hE hl
  have hC : CallFix p m c cX1_scanNumber 5 s [.ref ob, .int p1, .int p2].toArray wA RX1 := hC
  obtain ⟨hx, hb, hml, hown, hts⟩ := id hC
  have hS : va_S (k_A (wX1 cyI cyC ob a1 a2 a3 a4 v_signs v_length v_position v_complete v_orders v_kinds v_numbers v_values)) s.heap s.heap [] := va_S.rf
  have hl : lv_has ls 5 [(0, .ref ob), (1, .int p1), (2, .int p2)] := hl
  have h := hf
  unfold fX1_scanNumber at h
  obtain ⟨H, hH⟩ : ∃ H, H = s.heap := ⟨_, rfl⟩
  obtain ⟨locs, hlo⟩ : ∃ locs : List Loc, locs = [] := ⟨_, rfl⟩
  rw [← hH] at hP
  rw [← hlo] at hS
  have hS : va_S (k_A (wX1 cyI cyC ob a1 a2 a3 a4 v_signs v_length v_position v_complete v_orders v_kinds v_numbers v_values)) s.heap H locs := by rw [hH]; exact hS
  show W p l e (k_rm 1 22) s m [.ref ob, .int p1, .int p2].toArray below meth c s.heap [] 0 0 _ _
  rw [← hlo, ← hH]
  refine lv_iconst (v := (-1)) hx hb dX1_scanNumber_0 (by decide) ?_
  refine lv_istore_n (lv' := [(3, .int ((-1))), (0, .ref ob), (1, .int p1), (2, .int p2)]) hx hb dX1_scanNumber_1 rfl hl (by decide) rfl (fun ls hl => ?_)
  obtain ⟨K78, hK78, h⟩ := k_j2_e h
  have J78 : ∀ (x1 : Int32) (c2 : Int32) (H : Heap) (locs : List Loc) (ls : Array Slot), K78 x1 c2 = some (r, r_position) → va_P (dC, dI) vwCl (wX1 cyI cyC ob a1 a2 a3 a4 v_signs v_length c2 v_complete v_orders v_kinds v_numbers v_values) H → va_S (k_A (wX1 cyI cyC ob a1 a2 a3 a4 v_signs v_length v_position v_complete v_orders v_kinds v_numbers v_values)) s.heap H locs → lv_has ls 5 [(3, .int x1)] → W p l e (k_rm 1 22) s m [.ref ob, .int p1, .int p2].toArray below meth c H locs 0 0 (MQ below (qMI r (dC, dI) (wX1 cyI cyC ob a1 a2 a3 a4 v_signs v_length v_position v_complete v_orders v_kinds v_numbers v_values) (wX1 cyI cyC ob a1 a2 a3 a4 v_signs v_length r_position v_complete v_orders v_kinds v_numbers v_values)) [.ref ob, .int p1, .int p2].toArray s 0 0 (k_A (wX1 cyI cyC ob a1 a2 a3 a4 v_signs v_length v_position v_complete v_orders v_kinds v_numbers v_values))) (F0 m 78 ls []) := by
    intro x1 c2 H locs ls h hP hS hl
    have hD : va_D (k_A (wX1 cyI cyC ob a1 a2 a3 a4 v_signs v_length v_position v_complete v_orders v_kinds v_numbers v_values)) (wX1 cyI cyC ob a1 a2 a3 a4 v_signs v_length c2 v_complete v_orders v_kinds v_numbers v_values) := k_Dm hD rfl
    have h := k_a2 hK78 h
    refine lv_goto (tgt := 97) hx hb dX1_scanNumber_78 (by decide) ?_
    refine lv_iload_n hx hb dX1_scanNumber_97 rfl (lv_at hl 0 rfl) ?_
    obtain ⟨e0, e1⟩ := k_t2 h
    exact g_retMI hx hb hr hlk hS e0 (by rw [← e1]; exact hP) dX1_scanNumber_98
  obtain ⟨S2, hS2⟩ : ∃ z, z = (fX1_scanNumber_s2 v_length v_signs p1 p2 K78) := ⟨_, rfl⟩
  rw [← hS2] at h
  have L2 : ∀ (n : Nat) (x3 : Int32) (c4 : Int32) (H : Heap) (locs : List Loc) (ls : Array Slot), k_l2 S2 n x3 c4 = some (r, r_position) → va_P (dC, dI) vwCl (wX1 cyI cyC ob a1 a2 a3 a4 v_signs v_length c4 v_complete v_orders v_kinds v_numbers v_values) H → va_S (k_A (wX1 cyI cyC ob a1 a2 a3 a4 v_signs v_length v_position v_complete v_orders v_kinds v_numbers v_values)) s.heap H locs → lv_has ls 5 [(0, .ref ob), (1, .int p1), (2, .int p2), (3, .int x3)] → W p l e (k_rm 1 22) s m [.ref ob, .int p1, .int p2].toArray below meth c H locs 0 0 (MQ below (qMI r (dC, dI) (wX1 cyI cyC ob a1 a2 a3 a4 v_signs v_length v_position v_complete v_orders v_kinds v_numbers v_values) (wX1 cyI cyC ob a1 a2 a3 a4 v_signs v_length r_position v_complete v_orders v_kinds v_numbers v_values)) [.ref ob, .int p1, .int p2].toArray s 0 0 (k_A (wX1 cyI cyC ob a1 a2 a3 a4 v_signs v_length v_position v_complete v_orders v_kinds v_numbers v_values))) (F0 m 2 ls []) := by
    intro n
    induction n with
    | zero =>
      intro x3 c4 H locs ls h
      exact (k_l2_0 h).elim
    | succ n ih2 =>
      intro x3 c4 H locs ls h hP hS hl
      have hD : va_D (k_A (wX1 cyI cyC ob a1 a2 a3 a4 v_signs v_length v_position v_complete v_orders v_kinds v_numbers v_values)) (wX1 cyI cyC ob a1 a2 a3 a4 v_signs v_length c4 v_complete v_orders v_kinds v_numbers v_values) := k_Dm hD rfl
      have h := k_l2_s h
      have h := k_a3 hS2 h
      unfold fX1_scanNumber_s2 at h
      refine lv_aload_n hx hb dX1_scanNumber_2 rfl (lv_at hl 0 rfl) ?_
      refine va_get (D := (dC, dI)) (ci := 0) (v := .int c4) (C := RX1) (T := TX1) (N := 8) hx hb hts iaX1 hown hK hP 0 rfl rfl 2 (by decide) (hts _ q139) (fun _ h9 => h9) rfl dX1_scanNumber_3 ?_
      refine lv_aload_n hx hb dX1_scanNumber_6 rfl (lv_at hl 0 rfl) ?_
      refine va_get (D := (dC, dI)) (ci := 0) (v := .int v_length) (C := RX1) (T := TX1) (N := 8) hx hb hts iaX1 hown hK hP 0 rfl rfl 1 (by decide) (hts _ q137) (fun _ h9 => h9) rfl dX1_scanNumber_7 ?_
      refine g_icmp_ge (tgt := 97) hx hb dX1_scanNumber_10 (by decide) h (fun h => ?_) (fun h => ?_)
      · refine lv_iload_n hx hb dX1_scanNumber_97 rfl (lv_at hl 3 rfl) ?_
        obtain ⟨e0, e1⟩ := k_t2 h
        exact g_retMI hx hb hr hlk hS e0 (by rw [← e1]; exact hP) dX1_scanNumber_98
      · refine lv_aload_n hx hb dX1_scanNumber_13 rfl (lv_at hl 0 rfl) ?_
        refine va_get (D := (dC, dI)) (ci := 0) (v := .ref a1) (C := RX1) (T := TX1) (N := 8) hx hb hts iaX1 hown hK hP 0 rfl rfl 0 (by decide) (hts _ q135) (fun _ h9 => h9) rfl dX1_scanNumber_14 ?_
        refine lv_aload_n hx hb dX1_scanNumber_17 rfl (lv_at hl 0 rfl) ?_
        refine va_get (D := (dC, dI)) (ci := 0) (v := .int c4) (C := RX1) (T := TX1) (N := 8) hx hb hts iaX1 hown hK hP 0 rfl rfl 2 (by decide) (hts _ q139) (fun _ h9 => h9) rfl dX1_scanNumber_18 ?_
        refine g_cald hx hb hK hP 1 1 rfl rfl dX1_scanNumber_21 h (fun x5 h => ?_)
        refine lv_bipush (v := 48) hx hb dX1_scanNumber_22 (by decide) ?_
        refine g_icmp_lt (tgt := 97) hx hb dX1_scanNumber_24 (by decide) h (fun h => ?_) (fun h => ?_)
        · refine lv_iload_n hx hb dX1_scanNumber_97 rfl (lv_at hl 3 rfl) ?_
          obtain ⟨e0, e1⟩ := k_t2 h
          exact g_retMI hx hb hr hlk hS e0 (by rw [← e1]; exact hP) dX1_scanNumber_98
        · refine lv_aload_n hx hb dX1_scanNumber_27 rfl (lv_at hl 0 rfl) ?_
          refine va_get (D := (dC, dI)) (ci := 0) (v := .ref a1) (C := RX1) (T := TX1) (N := 8) hx hb hts iaX1 hown hK hP 0 rfl rfl 0 (by decide) (hts _ q135) (fun _ h9 => h9) rfl dX1_scanNumber_28 ?_
          refine lv_aload_n hx hb dX1_scanNumber_31 rfl (lv_at hl 0 rfl) ?_
          refine va_get (D := (dC, dI)) (ci := 0) (v := .int c4) (C := RX1) (T := TX1) (N := 8) hx hb hts iaX1 hown hK hP 0 rfl rfl 2 (by decide) (hts _ q139) (fun _ h9 => h9) rfl dX1_scanNumber_32 ?_
          refine g_cald hx hb hK hP 1 1 rfl rfl dX1_scanNumber_35 h (fun x6 h => ?_)
          refine lv_bipush (v := 57) hx hb dX1_scanNumber_36 (by decide) ?_
          refine g_icmp_gt (tgt := 97) hx hb dX1_scanNumber_38 (by decide) h (fun h => ?_) (fun h => ?_)
          · refine lv_iload_n hx hb dX1_scanNumber_97 rfl (lv_at hl 3 rfl) ?_
            obtain ⟨e0, e1⟩ := k_t2 h
            exact g_retMI hx hb hr hlk hS e0 (by rw [← e1]; exact hP) dX1_scanNumber_98
          · refine lv_iload_n hx hb dX1_scanNumber_41 rfl (lv_at hl 3 rfl) ?_
            refine lv_iconst (v := 0) hx hb dX1_scanNumber_42 (by decide) ?_
            refine g_mmax hx hb (hml.trans hl.1.symm) hown (hts _ q232) (hts _ q233) (hts _ q83) (hts _ q234) (Nat.le_of_ble_eq_true rfl) (Nat.le_of_ble_eq_true rfl) (Nat.le_of_ble_eq_true rfl) (Nat.le_of_ble_eq_true rfl) dX1_scanNumber_43 h (fun x7 h => ?_)
            refine lv_bipush (v := 10) hx hb dX1_scanNumber_46 (by decide) ?_
            refine g_imul hx hb dX1_scanNumber_48 h (fun x8 h => ?_)
            refine lv_aload_n hx hb dX1_scanNumber_49 rfl (lv_at hl 0 rfl) ?_
            refine va_get (D := (dC, dI)) (ci := 0) (v := .ref a1) (C := RX1) (T := TX1) (N := 8) hx hb hts iaX1 hown hK hP 0 rfl rfl 0 (by decide) (hts _ q135) (fun _ h9 => h9) rfl dX1_scanNumber_50 ?_
            refine lv_aload_n hx hb dX1_scanNumber_53 rfl (lv_at hl 0 rfl) ?_
            refine va_get (D := (dC, dI)) (ci := 0) (v := .int c4) (C := RX1) (T := TX1) (N := 8) hx hb hts iaX1 hown hK hP 0 rfl rfl 2 (by decide) (hts _ q139) (fun _ h9 => h9) rfl dX1_scanNumber_54 ?_
            refine g_cald hx hb hK hP 1 1 rfl rfl dX1_scanNumber_57 h (fun x9 h => ?_)
            refine lv_bipush (v := 48) hx hb dX1_scanNumber_58 (by decide) ?_
            refine g_isub hx hb dX1_scanNumber_60 h (fun x10 h => ?_)
            refine g_iadd hx hb dX1_scanNumber_61 h (fun x11 h => ?_)
            refine lv_istore (lv' := [(4, .int x11), (0, .ref ob), (1, .int p1), (2, .int p2), (3, .int x3)]) hx hb dX1_scanNumber_62 hl (by decide) rfl (fun ls hl => ?_)
            refine lv_iload_n hx hb dX1_scanNumber_64 rfl (lv_at hl 4 rfl) ?_
            refine g_if_eq (tgt := 97) hx hb dX1_scanNumber_65 (by decide) h (fun h => ?_) (fun h => ?_)
            · refine lv_iload_n hx hb dX1_scanNumber_97 rfl (lv_at hl 4 rfl) ?_
              obtain ⟨e0, e1⟩ := k_t2 h
              exact g_retMI hx hb hr hlk hS e0 (by rw [← e1]; exact hP) dX1_scanNumber_98
            · refine lv_iload hx hb dX1_scanNumber_68 (lv_at hl 0 rfl) ?_
              refine lv_iload_n hx hb dX1_scanNumber_70 rfl (lv_at hl 2 rfl) ?_
              refine lv_iload_n hx hb dX1_scanNumber_71 rfl (lv_at hl 3 rfl) ?_
              obtain ⟨x12, hc72, h⟩ := k_b1_e h
              refine g_callRI_SN (As := [.int x11, .int p1, .int p2]) (rest := []) hC (mX4_isWithin l dC dI cyI cyC cyO x11 p1 p2 hc72) hE.1.2.2.1 q243 q71 q244 3 hdX4_isWithin ⟨Nat.le_of_ble_eq_true rfl, Nat.le_of_ble_eq_true rfl⟩ ⟨Nat.le_of_ble_eq_true rfl, Nat.le_of_ble_eq_true rfl⟩ rfl rfl hl.1 (Nat.le_of_ble_eq_true rfl) va_P_nil hK hS dX1_scanNumber_72 (fun H locs hk hS => ?_)
              have hP := k_kept hP hk
              refine g_if_ne (tgt := 81) hx hb dX1_scanNumber_75 (by decide) h (fun h => ?_) (fun h => ?_)
              · refine lv_iload hx hb dX1_scanNumber_81 (lv_at hl 0 rfl) ?_
                refine lv_istore_n (lv' := [(3, .int x11), (4, .int x11), (0, .ref ob), (1, .int p1), (2, .int p2)]) hx hb dX1_scanNumber_83 rfl hl (by decide) rfl (fun ls hl => ?_)
                refine lv_aload_n hx hb dX1_scanNumber_84 rfl (lv_at hl 2 rfl) ?_
                refine lv_dup hx hb dX1_scanNumber_85 rfl ?_
                refine va_get (D := (dC, dI)) (ci := 0) (v := .int c4) (C := RX1) (T := TX1) (N := 8) hx hb hts iaX1 hown hK hP 0 rfl rfl 2 (by decide) (hts _ q139) (fun _ h9 => h9) rfl dX1_scanNumber_86 ?_
                refine lv_iconst (v := 1) hx hb dX1_scanNumber_89 (by decide) ?_
                refine g_iadd hx hb dX1_scanNumber_90 h (fun x13 h => ?_)
                refine va_put (D := (dC, dI)) (ci := 0) (v := .int x13) (ty := .int) (C := RX1) (T := TX1) (N := 8) hx hb hts iaX1 tyX1 tyX1_ok nmX1 hown hK hP hD hS 0 rfl rfl 2 (by decide) (hts _ q139) (fun _ h9 => h9) rfl (by decide +kernel) rfl rfl (Nat.le_of_ble_eq_true rfl) dX1_scanNumber_91 (fun H locs hP _ hS => ?_)
                have hP : va_P (dC, dI) vwCl (wX1 cyI cyC ob a1 a2 a3 a4 v_signs v_length x13 v_complete v_orders v_kinds v_numbers v_values) H := hP
                have hD : va_D (k_A (wX1 cyI cyC ob a1 a2 a3 a4 v_signs v_length v_position v_complete v_orders v_kinds v_numbers v_values)) (wX1 cyI cyC ob a1 a2 a3 a4 v_signs v_length x13 v_complete v_orders v_kinds v_numbers v_values) := k_Dm hD rfl
                refine lv_goto (tgt := 2) hx hb dX1_scanNumber_94 (by decide) ?_
                exact ih2 x11 x13 _ _ _ h hP hS (lv_sub hl [2, 3, 4, 0] rfl)
              · exact J78 x3 c4 _ _ _ h hP hS (lv_sub hl [4] rfl)
  exact L2 5000 ((-1)) v_position _ _ _ h hP hS (lv_sub hl [1, 2, 3, 0] rfl)
def fX1_scanSign (v_signs : Nat → Int32) (v_length : Int32) (v_position : Int32) (p1 : Int32) : Option (Int32 × Int32) :=
  k_if (v_length ≤ v_position)
  (
    some (0, v_position))
  (
    k_ck v_position 60 <| k_let (v_signs v_position.toNatClampNeg) fun (x1 : Int32) =>
    k_if (x1 = p1)
    (
      k_let (v_position + 1) fun (x2 : Int32) =>
      some (1, x2))
    (
      some (0, v_position)))
theorem hdX1_scanSign : yX1_scanSign.cls = RX1 ∧ yX1_scanSign.cls ≠ "java/lang/invoke/MethodHandle" ∧ yX1_scanSign.cls ≠ "java/lang/invoke/VarHandle" ∧ (parseMethodDescriptor yX1_scanSign.desc).map (fun d => d.parameters.length) = some 1 := by decide +kernel
set_option maxRecDepth 100000 in
set_option maxHeartbeats 4000000 in
theorem mX1_scanSign (l : Launch) (dC : Nat → ClassId) (dI : Nat → Nat → Nat) (cyI cyC cyO : ClassId) (ob a1 a2 a3 a4 : Nat) (v_signs : Nat → Int32) (v_length : Int32) (v_position : Int32) (v_complete : Int32) (v_orders : Int32) (v_kinds : Nat → Int32) (v_numbers : Nat → Int32) (v_values : Nat → Int32) (p1 : Int32) {r : Int32} {r_position : Int32} (hf : fX1_scanSign v_signs v_length v_position p1 = some (r, r_position)) : MetMI l yX1_scanSign cX1_scanSign 2 (some .boolean) 0 0 [.ref ob, .int p1] (dC, dI) (tyS cyI cyC cyO) (wX1 cyI cyC ob a1 a2 a3 a4 v_signs v_length v_position v_complete v_orders v_kinds v_numbers v_values) (wX1 cyI cyC ob a1 a2 a3 a4 v_signs v_length r_position v_complete v_orders v_kinds v_numbers v_values) r := by
  refine metMI_of (by decide) (Nat.le_of_ble_eq_true rfl) ?_
  intro p e s m below meth c ls hC hr hlk hP hK hD hl
  have hC : CallFix p m c cX1_scanSign 2 s [.ref ob, .int p1].toArray wA RX1 := hC
  obtain ⟨hx, hb, hml, hown, hts⟩ := id hC
  have hS : va_S (k_A (wX1 cyI cyC ob a1 a2 a3 a4 v_signs v_length v_position v_complete v_orders v_kinds v_numbers v_values)) s.heap s.heap [] := va_S.rf
  have hl : lv_has ls 2 [(0, .ref ob), (1, .int p1)] := hl
  have h := hf
  unfold fX1_scanSign at h
  obtain ⟨H, hH⟩ : ∃ H, H = s.heap := ⟨_, rfl⟩
  obtain ⟨locs, hlo⟩ : ∃ locs : List Loc, locs = [] := ⟨_, rfl⟩
  rw [← hH] at hP
  rw [← hlo] at hS
  have hS : va_S (k_A (wX1 cyI cyC ob a1 a2 a3 a4 v_signs v_length v_position v_complete v_orders v_kinds v_numbers v_values)) s.heap H locs := by rw [hH]; exact hS
  show W p l e (k_rm 0 0) s m [.ref ob, .int p1].toArray below meth c s.heap [] 0 0 _ _
  rw [← hlo, ← hH]
  refine lv_aload_n hx hb dX1_scanSign_0 rfl (lv_at hl 0 rfl) ?_
  refine va_get (D := (dC, dI)) (ci := 0) (v := .int v_position) (C := RX1) (T := TX1) (N := 8) hx hb hts iaX1 hown hK hP 0 rfl rfl 2 (by decide) (hts _ q139) (fun _ h9 => h9) rfl dX1_scanSign_1 ?_
  refine lv_aload_n hx hb dX1_scanSign_4 rfl (lv_at hl 0 rfl) ?_
  refine va_get (D := (dC, dI)) (ci := 0) (v := .int v_length) (C := RX1) (T := TX1) (N := 8) hx hb hts iaX1 hown hK hP 0 rfl rfl 1 (by decide) (hts _ q137) (fun _ h9 => h9) rfl dX1_scanSign_5 ?_
  refine g_icmp_ge (tgt := 24) hx hb dX1_scanSign_8 (by decide) h (fun h => ?_) (fun h => ?_)
  · refine lv_iconst (v := 0) hx hb dX1_scanSign_24 (by decide) ?_
    obtain ⟨e0, e1⟩ := k_t2 h
    exact g_retMZ hx hb hr (by decide +kernel) hlk hS e0 (by rw [← e1]; exact hP) dX1_scanSign_25
  · refine lv_aload_n hx hb dX1_scanSign_11 rfl (lv_at hl 0 rfl) ?_
    refine va_get (D := (dC, dI)) (ci := 0) (v := .ref a1) (C := RX1) (T := TX1) (N := 8) hx hb hts iaX1 hown hK hP 0 rfl rfl 0 (by decide) (hts _ q135) (fun _ h9 => h9) rfl dX1_scanSign_12 ?_
    refine lv_aload_n hx hb dX1_scanSign_15 rfl (lv_at hl 0 rfl) ?_
    refine va_get (D := (dC, dI)) (ci := 0) (v := .int v_position) (C := RX1) (T := TX1) (N := 8) hx hb hts iaX1 hown hK hP 0 rfl rfl 2 (by decide) (hts _ q139) (fun _ h9 => h9) rfl dX1_scanSign_16 ?_
    refine g_cald hx hb hK hP 1 1 rfl rfl dX1_scanSign_19 h (fun x1 h => ?_)
    refine lv_iload_n hx hb dX1_scanSign_20 rfl (lv_at hl 1 rfl) ?_
    refine g_icmp_eq (tgt := 26) hx hb dX1_scanSign_21 (by decide) h (fun h => ?_) (fun h => ?_)
    · refine lv_aload_n hx hb dX1_scanSign_26 rfl (lv_at hl 0 rfl) ?_
      refine lv_dup hx hb dX1_scanSign_27 rfl ?_
      refine va_get (D := (dC, dI)) (ci := 0) (v := .int v_position) (C := RX1) (T := TX1) (N := 8) hx hb hts iaX1 hown hK hP 0 rfl rfl 2 (by decide) (hts _ q139) (fun _ h9 => h9) rfl dX1_scanSign_28 ?_
      refine lv_iconst (v := 1) hx hb dX1_scanSign_31 (by decide) ?_
      refine g_iadd hx hb dX1_scanSign_32 h (fun x2 h => ?_)
      refine va_put (D := (dC, dI)) (ci := 0) (v := .int x2) (ty := .int) (C := RX1) (T := TX1) (N := 8) hx hb hts iaX1 tyX1 tyX1_ok nmX1 hown hK hP hD hS 0 rfl rfl 2 (by decide) (hts _ q139) (fun _ h9 => h9) rfl (by decide +kernel) rfl rfl (Nat.le_of_ble_eq_true rfl) dX1_scanSign_33 (fun H locs hP _ hS => ?_)
      have hP : va_P (dC, dI) vwCl (wX1 cyI cyC ob a1 a2 a3 a4 v_signs v_length x2 v_complete v_orders v_kinds v_numbers v_values) H := hP
      have hD : va_D (k_A (wX1 cyI cyC ob a1 a2 a3 a4 v_signs v_length v_position v_complete v_orders v_kinds v_numbers v_values)) (wX1 cyI cyC ob a1 a2 a3 a4 v_signs v_length x2 v_complete v_orders v_kinds v_numbers v_values) := k_Dm hD rfl
      refine lv_iconst (v := 1) hx hb dX1_scanSign_36 (by decide) ?_
      obtain ⟨e0, e1⟩ := k_t2 h
      exact g_retMZ hx hb hr (by decide +kernel) hlk hS e0 (by rw [← e1]; exact hP) dX1_scanSign_37
    · refine lv_iconst (v := 0) hx hb dX1_scanSign_24 (by decide) ?_
      obtain ⟨e0, e1⟩ := k_t2 h
      exact g_retMZ hx hb hr (by decide +kernel) hlk hS e0 (by rw [← e1]; exact hP) dX1_scanSign_25
def fX1_scanOrder (v_signs : Nat → Int32) (v_length : Int32) (v_position : Int32) (v_orders : Int32) (v_kinds : Nat → Int32) (v_numbers : Nat → Int32) (v_values : Nat → Int32) : Option (Int32 × Int32 × Int32 × (Nat → Int32) × (Nat → Int32) × (Nat → Int32)) :=
  k_b2 (fX1_scanWord v_signs v_length v_position) fun (x1 : Int32) (c2 : Int32) =>
  k_if (x1 = ((-1)))
  (
    some (0, c2, v_orders, v_kinds, v_numbers, v_values))
  (
    k_ck x1 5 <| k_let (lowN x1.toNatClampNeg) fun (x3 : Int32) =>
    k_ck x1 5 <| k_let (highN x1.toNatClampNeg) fun (x4 : Int32) =>
    k_b2 (fX1_scanNumber v_signs v_length c2 x3 x4) fun (x5 : Int32) (c6 : Int32) =>
    k_j2
    (fun (x7 : Int32) (c8 : Int32) =>
      k_if (x5 = ((-1)))
      (
        some (0, c8, v_orders, v_kinds, v_numbers, v_values))
      (
        k_if (x7 = ((-1)))
        (
          some (0, c8, v_orders, v_kinds, v_numbers, v_values))
        (
          k_if (10 ≤ v_orders)
          (
            some (1, c8, v_orders, v_kinds, v_numbers, v_values))
          (
            k_ck v_orders 10 <| k_let (upd v_kinds v_orders.toNatClampNeg x1) fun (c9 : Nat → Int32) =>
            k_ck v_orders 10 <| k_let (upd v_numbers v_orders.toNatClampNeg x5) fun (c10 : Nat → Int32) =>
            k_ck v_orders 10 <| k_let (upd v_values v_orders.toNatClampNeg x7) fun (c11 : Nat → Int32) =>
            k_let (v_orders + 1) fun (x12 : Int32) =>
            some (1, c8, x12, c9, c10, c11)))))
    (fun K59 =>
    k_if (x1 = 0)
    (
      k_j2
      (fun (x13 : Int32) (c14 : Int32) =>
        K59 x13 c14)
      (fun K58 =>
      k_if (x5 = ((-1)))
      (
        K58 ((-1)) c6)
      (
        k_b2 (fX1_scanSign v_signs v_length c6 58) fun (x15 : Int32) (c16 : Int32) =>
        k_if (x15 = 0)
        (
          K58 ((-1)) c16)
        (
          k_b2 (fX1_scanNumber v_signs v_length c16 0 63) fun (x17 : Int32) (c18 : Int32) =>
          K58 x17 c18))))
    (
      K59 0 c6)))
theorem hdX1_scanOrder : yX1_scanOrder.cls = RX1 ∧ yX1_scanOrder.cls ≠ "java/lang/invoke/MethodHandle" ∧ yX1_scanOrder.cls ≠ "java/lang/invoke/VarHandle" ∧ (parseMethodDescriptor yX1_scanOrder.desc).map (fun d => d.parameters.length) = some 0 := by decide +kernel
set_option maxRecDepth 100000 in
set_option maxHeartbeats 4000000 in
theorem mX1_scanOrder (l : Launch) (dC : Nat → ClassId) (dI : Nat → Nat → Nat) (cyI cyC cyO : ClassId) (ad : Nat → Nat) (ob a1 a2 a3 a4 : Nat) (v_signs : Nat → Int32) (v_length : Int32) (v_position : Int32) (v_complete : Int32) (v_orders : Int32) (v_kinds : Nat → Int32) (v_numbers : Nat → Int32) (v_values : Nat → Int32)  {r : Int32} {r_position : Int32} {r_orders : Int32} {r_kinds : Nat → Int32} {r_numbers : Nat → Int32} {r_values : Nat → Int32} (hf : fX1_scanOrder v_signs v_length v_position v_orders v_kinds v_numbers v_values = some (r, r_position, r_orders, r_kinds, r_numbers, r_values)) : MetMIe l yX1_scanOrder cX1_scanOrder 4 (some .boolean) 6 131 [.ref ob] (dC, dI) (tyS cyI cyC cyO) (wX1 cyI cyC ob a1 a2 a3 a4 v_signs v_length v_position v_complete v_orders v_kinds v_numbers v_values) (wX1 cyI cyC ob a1 a2 a3 a4 v_signs v_length r_position v_complete r_orders r_kinds r_numbers r_values) ad r := by
  refine metMIe_of (by decide) (Nat.le_of_ble_eq_true rfl) ?_
  intro p e s m below meth c ls hC hr hlk hP hK hD hE hl
  have hC : CallFix p m c cX1_scanOrder 4 s [.ref ob].toArray wA RX1 := hC
  obtain ⟨hx, hb, hml, hown, hts⟩ := id hC
  have hS : va_S (k_A (wX1 cyI cyC ob a1 a2 a3 a4 v_signs v_length v_position v_complete v_orders v_kinds v_numbers v_values)) s.heap s.heap [] := va_S.rf
  have hl : lv_has ls 4 [(0, .ref ob)] := hl
  have h := hf
  unfold fX1_scanOrder at h
  obtain ⟨H, hH⟩ : ∃ H, H = s.heap := ⟨_, rfl⟩
  obtain ⟨locs, hlo⟩ : ∃ locs : List Loc, locs = [] := ⟨_, rfl⟩
  rw [← hH] at hP
  rw [← hlo] at hS
  have hS : va_S (k_A (wX1 cyI cyC ob a1 a2 a3 a4 v_signs v_length v_position v_complete v_orders v_kinds v_numbers v_values)) s.heap H locs := by rw [hH]; exact hS
  show W p l e (k_rm 6 131) s m [.ref ob].toArray below meth c s.heap [] 0 0 _ _
  rw [← hlo, ← hH]
  refine lv_aload_n hx hb dX1_scanOrder_0 rfl (lv_at hl 0 rfl) ?_
  obtain ⟨x1, c2, hc1, h⟩ := k_b2_e h
  refine g_callMIe_V (As := []) (rest := []) hC (mX1_scanWord l dC dI cyI cyC cyO ad ob a1 a2 a3 a4 v_signs v_length v_position v_complete v_orders v_kinds v_numbers v_values hc1) q175 q176 q1 q74 q177 0 hdX1_scanWord ⟨Nat.le_of_ble_eq_true rfl, Nat.le_of_ble_eq_true rfl⟩ ⟨Nat.le_of_ble_eq_true rfl, Nat.le_of_ble_eq_true rfl⟩ rfl rfl hl.1 (Nat.le_of_ble_eq_true rfl) hP hK hD (va_recv hK hP (ci := 0) (q0 := 0) rfl rfl) hS dX1_scanOrder_1 hE (fun H locs hPn hk hS => ?_)
  have hP : va_P (dC, dI) vwCl (wX1 cyI cyC ob a1 a2 a3 a4 v_signs v_length c2 v_complete v_orders v_kinds v_numbers v_values) H := hPn
  have hD : va_D (k_A (wX1 cyI cyC ob a1 a2 a3 a4 v_signs v_length v_position v_complete v_orders v_kinds v_numbers v_values)) (wX1 cyI cyC ob a1 a2 a3 a4 v_signs v_length c2 v_complete v_orders v_kinds v_numbers v_values) := k_Dm hD rfl
  refine lv_istore_n (lv' := [(1, .int x1), (0, .ref ob)]) hx hb dX1_scanOrder_4 rfl hl (by decide) rfl (fun ls hl => ?_)
  refine lv_iload_n hx hb dX1_scanOrder_5 rfl (lv_at hl 0 rfl) ?_
  refine lv_iconst (v := (-1)) hx hb dX1_scanOrder_6 (by decide) ?_
  refine g_icmp_ne (tgt := 12) hx hb dX1_scanOrder_7 (by decide) h (fun h => ?_) (fun h => ?_)
  · refine lv_aload_n hx hb dX1_scanOrder_12 rfl (lv_at hl 1 rfl) ?_
    refine va_gets hx hb (hE.2.2.2.2.1) hS hown (hts _ q235) (fun _ h9 => h9) dX1_scanOrder_13 ?_
    refine lv_iload_n hx hb dX1_scanOrder_16 rfl (lv_at hl 0 rfl) ?_
    refine g_stat hx hb (hE.2.2.2.2.2.1) hS dX1_scanOrder_17 h (fun x3 h => ?_)
    refine va_gets hx hb (hE.2.2.2.2.2.2.1) hS hown (hts _ q237) (fun _ h9 => h9) dX1_scanOrder_18 ?_
    refine lv_iload_n hx hb dX1_scanOrder_21 rfl (lv_at hl 0 rfl) ?_
    refine g_stat hx hb (hE.2.2.2.2.2.2.2.1) hS dX1_scanOrder_22 h (fun x4 h => ?_)
    obtain ⟨x5, c6, hc23, h⟩ := k_b2_e h
    refine g_callMIe_V (As := [.int x3, .int x4]) (rest := []) hC (mX1_scanNumber l dC dI cyI cyC cyO ad ob a1 a2 a3 a4 v_signs v_length c2 v_complete v_orders v_kinds v_numbers v_values x3 x4 hc23) q239 q240 q3 q74 q241 2 hdX1_scanNumber ⟨Nat.le_of_ble_eq_true rfl, Nat.le_of_ble_eq_true rfl⟩ ⟨Nat.le_of_ble_eq_true rfl, Nat.le_of_ble_eq_true rfl⟩ rfl rfl hl.1 (Nat.le_of_ble_eq_true rfl) hP hK hD (va_recv hK hP (ci := 0) (q0 := 0) rfl rfl) hS dX1_scanOrder_23 hE (fun H locs hPn hk hS => ?_)
    have hP : va_P (dC, dI) vwCl (wX1 cyI cyC ob a1 a2 a3 a4 v_signs v_length c6 v_complete v_orders v_kinds v_numbers v_values) H := hPn
    have hD : va_D (k_A (wX1 cyI cyC ob a1 a2 a3 a4 v_signs v_length v_position v_complete v_orders v_kinds v_numbers v_values)) (wX1 cyI cyC ob a1 a2 a3 a4 v_signs v_length c6 v_complete v_orders v_kinds v_numbers v_values) := k_Dm hD rfl
    refine lv_istore_n (lv' := [(2, .int x5), (1, .int x1), (0, .ref ob)]) hx hb dX1_scanOrder_26 rfl hl (by decide) rfl (fun ls hl => ?_)
    refine lv_iconst (v := 0) hx hb dX1_scanOrder_27 (by decide) ?_
    refine lv_istore_n (lv' := [(3, .int 0), (2, .int x5), (1, .int x1), (0, .ref ob)]) hx hb dX1_scanOrder_28 rfl hl (by decide) rfl (fun ls hl => ?_)
    refine lv_iload_n hx hb dX1_scanOrder_29 rfl (lv_at hl 2 rfl) ?_
    obtain ⟨K59, hK59, h⟩ := k_j2_e h
    have J59 : ∀ (x7 : Int32) (c8 : Int32) (H : Heap) (locs : List Loc) (ls : Array Slot), K59 x7 c8 = some (r, r_position, r_orders, r_kinds, r_numbers, r_values) → va_P (dC, dI) vwCl (wX1 cyI cyC ob a1 a2 a3 a4 v_signs v_length c8 v_complete v_orders v_kinds v_numbers v_values) H → va_S (k_A (wX1 cyI cyC ob a1 a2 a3 a4 v_signs v_length v_position v_complete v_orders v_kinds v_numbers v_values)) s.heap H locs → lv_has ls 4 [(0, .ref ob), (1, .int x1), (2, .int x5), (3, .int x7)] → W p l e (k_rm 6 131) s m [.ref ob].toArray below meth c H locs 0 0 (MQ below (qMI r (dC, dI) (wX1 cyI cyC ob a1 a2 a3 a4 v_signs v_length v_position v_complete v_orders v_kinds v_numbers v_values) (wX1 cyI cyC ob a1 a2 a3 a4 v_signs v_length r_position v_complete r_orders r_kinds r_numbers r_values)) [.ref ob].toArray s 0 0 (k_A (wX1 cyI cyC ob a1 a2 a3 a4 v_signs v_length v_position v_complete v_orders v_kinds v_numbers v_values))) (F0 m 59 ls []) := by
      intro x7 c8 H locs ls h hP hS hl
      have hD : va_D (k_A (wX1 cyI cyC ob a1 a2 a3 a4 v_signs v_length v_position v_complete v_orders v_kinds v_numbers v_values)) (wX1 cyI cyC ob a1 a2 a3 a4 v_signs v_length c8 v_complete v_orders v_kinds v_numbers v_values) := k_Dm hD rfl
      have h := k_a2 hK59 h
      refine lv_iload_n hx hb dX1_scanOrder_59 rfl (lv_at hl 2 rfl) ?_
      refine lv_iconst (v := (-1)) hx hb dX1_scanOrder_60 (by decide) ?_
      refine g_icmp_eq (tgt := 69) hx hb dX1_scanOrder_61 (by decide) h (fun h => ?_) (fun h => ?_)
      · refine lv_iconst (v := 0) hx hb dX1_scanOrder_69 (by decide) ?_
        obtain ⟨e0, e1, e2, e3, e4, e5⟩ := k_t6 h
        exact g_retMZ hx hb hr (by decide +kernel) hlk hS e0 (by rw [← e1, ← e2, ← e3, ← e4, ← e5]; exact hP) dX1_scanOrder_70
      · refine lv_iload_n hx hb dX1_scanOrder_64 rfl (lv_at hl 3 rfl) ?_
        refine lv_iconst (v := (-1)) hx hb dX1_scanOrder_65 (by decide) ?_
        refine g_icmp_ne (tgt := 71) hx hb dX1_scanOrder_66 (by decide) h (fun h => ?_) (fun h => ?_)
        · refine lv_aload_n hx hb dX1_scanOrder_71 rfl (lv_at hl 0 rfl) ?_
          refine va_get (D := (dC, dI)) (ci := 0) (v := .int v_orders) (C := RX1) (T := TX1) (N := 8) hx hb hts iaX1 hown hK hP 0 rfl rfl 4 (by decide) (hts _ q143) (fun _ h9 => h9) rfl dX1_scanOrder_72 ?_
          refine lv_bipush (v := 10) hx hb dX1_scanOrder_75 (by decide) ?_
          refine g_icmp_ge (tgt := 120) hx hb dX1_scanOrder_77 (by decide) h (fun h => ?_) (fun h => ?_)
          · refine lv_iconst (v := 1) hx hb dX1_scanOrder_120 (by decide) ?_
            obtain ⟨e0, e1, e2, e3, e4, e5⟩ := k_t6 h
            exact g_retMZ hx hb hr (by decide +kernel) hlk hS e0 (by rw [← e1, ← e2, ← e3, ← e4, ← e5]; exact hP) dX1_scanOrder_121
          · refine lv_aload_n hx hb dX1_scanOrder_80 rfl (lv_at hl 0 rfl) ?_
            refine va_get (D := (dC, dI)) (ci := 0) (v := .ref a2) (C := RX1) (T := TX1) (N := 8) hx hb hts iaX1 hown hK hP 0 rfl rfl 5 (by decide) (hts _ q145) (fun _ h9 => h9) rfl dX1_scanOrder_81 ?_
            refine lv_aload_n hx hb dX1_scanOrder_84 rfl (lv_at hl 0 rfl) ?_
            refine va_get (D := (dC, dI)) (ci := 0) (v := .int v_orders) (C := RX1) (T := TX1) (N := 8) hx hb hts iaX1 hown hK hP 0 rfl rfl 4 (by decide) (hts _ q143) (fun _ h9 => h9) rfl dX1_scanOrder_85 ?_
            refine lv_iload_n hx hb dX1_scanOrder_88 rfl (lv_at hl 1 rfl) ?_
            refine g_iast hx hb hK hP hD hS 2 0 rfl rfl dX1_scanOrder_89 h (fun c9 H locs h hP hS => ?_)
            have hP : va_P (dC, dI) vwCl (wX1 cyI cyC ob a1 a2 a3 a4 v_signs v_length c8 v_complete v_orders c9 v_numbers v_values) H := hP
            have hD : va_D (k_A (wX1 cyI cyC ob a1 a2 a3 a4 v_signs v_length v_position v_complete v_orders v_kinds v_numbers v_values)) (wX1 cyI cyC ob a1 a2 a3 a4 v_signs v_length c8 v_complete v_orders c9 v_numbers v_values) := k_Dm hD rfl
            refine lv_aload_n hx hb dX1_scanOrder_90 rfl (lv_at hl 0 rfl) ?_
            refine va_get (D := (dC, dI)) (ci := 0) (v := .ref a3) (C := RX1) (T := TX1) (N := 8) hx hb hts iaX1 hown hK hP 0 rfl rfl 6 (by decide) (hts _ q147) (fun _ h9 => h9) rfl dX1_scanOrder_91 ?_
            refine lv_aload_n hx hb dX1_scanOrder_94 rfl (lv_at hl 0 rfl) ?_
            refine va_get (D := (dC, dI)) (ci := 0) (v := .int v_orders) (C := RX1) (T := TX1) (N := 8) hx hb hts iaX1 hown hK hP 0 rfl rfl 4 (by decide) (hts _ q143) (fun _ h9 => h9) rfl dX1_scanOrder_95 ?_
            refine lv_iload_n hx hb dX1_scanOrder_98 rfl (lv_at hl 2 rfl) ?_
            refine g_iast hx hb hK hP hD hS 3 0 rfl rfl dX1_scanOrder_99 h (fun c10 H locs h hP hS => ?_)
            have hP : va_P (dC, dI) vwCl (wX1 cyI cyC ob a1 a2 a3 a4 v_signs v_length c8 v_complete v_orders c9 c10 v_values) H := hP
            have hD : va_D (k_A (wX1 cyI cyC ob a1 a2 a3 a4 v_signs v_length v_position v_complete v_orders v_kinds v_numbers v_values)) (wX1 cyI cyC ob a1 a2 a3 a4 v_signs v_length c8 v_complete v_orders c9 c10 v_values) := k_Dm hD rfl
            refine lv_aload_n hx hb dX1_scanOrder_100 rfl (lv_at hl 0 rfl) ?_
            refine va_get (D := (dC, dI)) (ci := 0) (v := .ref a4) (C := RX1) (T := TX1) (N := 8) hx hb hts iaX1 hown hK hP 0 rfl rfl 7 (by decide) (hts _ q149) (fun _ h9 => h9) rfl dX1_scanOrder_101 ?_
            refine lv_aload_n hx hb dX1_scanOrder_104 rfl (lv_at hl 0 rfl) ?_
            refine va_get (D := (dC, dI)) (ci := 0) (v := .int v_orders) (C := RX1) (T := TX1) (N := 8) hx hb hts iaX1 hown hK hP 0 rfl rfl 4 (by decide) (hts _ q143) (fun _ h9 => h9) rfl dX1_scanOrder_105 ?_
            refine lv_iload_n hx hb dX1_scanOrder_108 rfl (lv_at hl 3 rfl) ?_
            refine g_iast hx hb hK hP hD hS 4 0 rfl rfl dX1_scanOrder_109 h (fun c11 H locs h hP hS => ?_)
            have hP : va_P (dC, dI) vwCl (wX1 cyI cyC ob a1 a2 a3 a4 v_signs v_length c8 v_complete v_orders c9 c10 c11) H := hP
            have hD : va_D (k_A (wX1 cyI cyC ob a1 a2 a3 a4 v_signs v_length v_position v_complete v_orders v_kinds v_numbers v_values)) (wX1 cyI cyC ob a1 a2 a3 a4 v_signs v_length c8 v_complete v_orders c9 c10 c11) := k_Dm hD rfl
            refine lv_aload_n hx hb dX1_scanOrder_110 rfl (lv_at hl 0 rfl) ?_
            refine lv_dup hx hb dX1_scanOrder_111 rfl ?_
            refine va_get (D := (dC, dI)) (ci := 0) (v := .int v_orders) (C := RX1) (T := TX1) (N := 8) hx hb hts iaX1 hown hK hP 0 rfl rfl 4 (by decide) (hts _ q143) (fun _ h9 => h9) rfl dX1_scanOrder_112 ?_
            refine lv_iconst (v := 1) hx hb dX1_scanOrder_115 (by decide) ?_
            refine g_iadd hx hb dX1_scanOrder_116 h (fun x12 h => ?_)
            refine va_put (D := (dC, dI)) (ci := 0) (v := .int x12) (ty := .int) (C := RX1) (T := TX1) (N := 8) hx hb hts iaX1 tyX1 tyX1_ok nmX1 hown hK hP hD hS 0 rfl rfl 4 (by decide) (hts _ q143) (fun _ h9 => h9) rfl (by decide +kernel) rfl rfl (Nat.le_of_ble_eq_true rfl) dX1_scanOrder_117 (fun H locs hP _ hS => ?_)
            have hP : va_P (dC, dI) vwCl (wX1 cyI cyC ob a1 a2 a3 a4 v_signs v_length c8 v_complete x12 c9 c10 c11) H := hP
            have hD : va_D (k_A (wX1 cyI cyC ob a1 a2 a3 a4 v_signs v_length v_position v_complete v_orders v_kinds v_numbers v_values)) (wX1 cyI cyC ob a1 a2 a3 a4 v_signs v_length c8 v_complete x12 c9 c10 c11) := k_Dm hD rfl
            refine lv_iconst (v := 1) hx hb dX1_scanOrder_120 (by decide) ?_
            obtain ⟨e0, e1, e2, e3, e4, e5⟩ := k_t6 h
            exact g_retMZ hx hb hr (by decide +kernel) hlk hS e0 (by rw [← e1, ← e2, ← e3, ← e4, ← e5]; exact hP) dX1_scanOrder_121
        · refine lv_iconst (v := 0) hx hb dX1_scanOrder_69 (by decide) ?_
          obtain ⟨e0, e1, e2, e3, e4, e5⟩ := k_t6 h
          exact g_retMZ hx hb hr (by decide +kernel) hlk hS e0 (by rw [← e1, ← e2, ← e3, ← e4, ← e5]; exact hP) dX1_scanOrder_70
    refine g_if_ne (tgt := 59) hx hb dX1_scanOrder_30 (by decide) h (fun h => ?_) (fun h => ?_)
    · exact J59 0 c6 _ _ _ h hP hS (lv_sub hl [3, 2, 1, 0] rfl)
    · refine lv_iload_n hx hb dX1_scanOrder_33 rfl (lv_at hl 1 rfl) ?_
      refine lv_iconst (v := (-1)) hx hb dX1_scanOrder_34 (by decide) ?_
      obtain ⟨K58, hK58, h⟩ := k_j2_e h
      have J58 : ∀ (x13 : Int32) (c14 : Int32) (H : Heap) (locs : List Loc) (ls : Array Slot), K58 x13 c14 = some (r, r_position, r_orders, r_kinds, r_numbers, r_values) → va_P (dC, dI) vwCl (wX1 cyI cyC ob a1 a2 a3 a4 v_signs v_length c14 v_complete v_orders v_kinds v_numbers v_values) H → va_S (k_A (wX1 cyI cyC ob a1 a2 a3 a4 v_signs v_length v_position v_complete v_orders v_kinds v_numbers v_values)) s.heap H locs → lv_has ls 4 [(0, .ref ob), (1, .int x1), (2, .int x5)] → W p l e (k_rm 6 131) s m [.ref ob].toArray below meth c H locs 0 0 (MQ below (qMI r (dC, dI) (wX1 cyI cyC ob a1 a2 a3 a4 v_signs v_length v_position v_complete v_orders v_kinds v_numbers v_values) (wX1 cyI cyC ob a1 a2 a3 a4 v_signs v_length r_position v_complete r_orders r_kinds r_numbers r_values)) [.ref ob].toArray s 0 0 (k_A (wX1 cyI cyC ob a1 a2 a3 a4 v_signs v_length v_position v_complete v_orders v_kinds v_numbers v_values))) (F0 m 58 ls [.int x13]) := by
        intro x13 c14 H locs ls h hP hS hl
        have hD : va_D (k_A (wX1 cyI cyC ob a1 a2 a3 a4 v_signs v_length v_position v_complete v_orders v_kinds v_numbers v_values)) (wX1 cyI cyC ob a1 a2 a3 a4 v_signs v_length c14 v_complete v_orders v_kinds v_numbers v_values) := k_Dm hD rfl
        have h := k_a2 hK58 h
        refine lv_istore_n (lv' := [(3, .int x13), (0, .ref ob), (1, .int x1), (2, .int x5)]) hx hb dX1_scanOrder_58 rfl hl (by decide) rfl (fun ls hl => ?_)
        exact J59 x13 c14 _ _ _ h hP hS (lv_sub hl [1, 2, 3, 0] rfl)
      refine g_icmp_eq (tgt := 57) hx hb dX1_scanOrder_35 (by decide) h (fun h => ?_) (fun h => ?_)
      · refine lv_iconst (v := (-1)) hx hb dX1_scanOrder_57 (by decide) ?_
        exact J58 ((-1)) c6 _ _ _ h hP hS (lv_sub hl [3, 2, 1] rfl)
      · refine lv_aload_n hx hb dX1_scanOrder_38 rfl (lv_at hl 3 rfl) ?_
        refine lv_bipush (v := 58) hx hb dX1_scanOrder_39 (by decide) ?_
        obtain ⟨x15, c16, hc41, h⟩ := k_b2_e h
        refine g_callMI_V (As := [.int 58]) (rest := []) hC (mX1_scanSign l dC dI cyI cyC cyO ob a1 a2 a3 a4 v_signs v_length c6 v_complete v_orders v_kinds v_numbers v_values 58 hc41) q245 q246 q4 q74 q247 1 hdX1_scanSign ⟨Nat.le_of_ble_eq_true rfl, Nat.le_of_ble_eq_true rfl⟩ ⟨Nat.le_of_ble_eq_true rfl, Nat.le_of_ble_eq_true rfl⟩ rfl rfl hl.1 (Nat.le_of_ble_eq_true rfl) hP hK hD (va_recv hK hP (ci := 0) (q0 := 0) rfl rfl) hS dX1_scanOrder_41 (fun H locs hPn hk hS => ?_)
        have hP : va_P (dC, dI) vwCl (wX1 cyI cyC ob a1 a2 a3 a4 v_signs v_length c16 v_complete v_orders v_kinds v_numbers v_values) H := hPn
        have hD : va_D (k_A (wX1 cyI cyC ob a1 a2 a3 a4 v_signs v_length v_position v_complete v_orders v_kinds v_numbers v_values)) (wX1 cyI cyC ob a1 a2 a3 a4 v_signs v_length c16 v_complete v_orders v_kinds v_numbers v_values) := k_Dm hD rfl
        refine g_if_eq (tgt := 57) hx hb dX1_scanOrder_44 (by decide) h (fun h => ?_) (fun h => ?_)
        · refine lv_iconst (v := (-1)) hx hb dX1_scanOrder_57 (by decide) ?_
          exact J58 ((-1)) c16 _ _ _ h hP hS (lv_sub hl [3, 2, 1] rfl)
        · refine lv_aload_n hx hb dX1_scanOrder_47 rfl (lv_at hl 3 rfl) ?_
          refine lv_iconst (v := 0) hx hb dX1_scanOrder_48 (by decide) ?_
          refine lv_bipush (v := 63) hx hb dX1_scanOrder_49 (by decide) ?_
          obtain ⟨x17, c18, hc51, h⟩ := k_b2_e h
          refine g_callMIe_V (As := [.int 0, .int 63]) (rest := []) hC (mX1_scanNumber l dC dI cyI cyC cyO ad ob a1 a2 a3 a4 v_signs v_length c16 v_complete v_orders v_kinds v_numbers v_values 0 63 hc51) q239 q240 q3 q74 q241 2 hdX1_scanNumber ⟨Nat.le_of_ble_eq_true rfl, Nat.le_of_ble_eq_true rfl⟩ ⟨Nat.le_of_ble_eq_true rfl, Nat.le_of_ble_eq_true rfl⟩ rfl rfl hl.1 (Nat.le_of_ble_eq_true rfl) hP hK hD (va_recv hK hP (ci := 0) (q0 := 0) rfl rfl) hS dX1_scanOrder_51 hE (fun H locs hPn hk hS => ?_)
          have hP : va_P (dC, dI) vwCl (wX1 cyI cyC ob a1 a2 a3 a4 v_signs v_length c18 v_complete v_orders v_kinds v_numbers v_values) H := hPn
          have hD : va_D (k_A (wX1 cyI cyC ob a1 a2 a3 a4 v_signs v_length v_position v_complete v_orders v_kinds v_numbers v_values)) (wX1 cyI cyC ob a1 a2 a3 a4 v_signs v_length c18 v_complete v_orders v_kinds v_numbers v_values) := k_Dm hD rfl
          refine lv_goto (tgt := 58) hx hb dX1_scanOrder_54 (by decide) ?_
          exact J58 x17 c18 _ _ _ h hP hS (lv_sub hl [3, 2, 1] rfl)
  · refine lv_iconst (v := 0) hx hb dX1_scanOrder_10 (by decide) ?_
    obtain ⟨e0, e1, e2, e3, e4, e5⟩ := k_t6 h
    exact g_retMZ hx hb hr (by decide +kernel) hlk hS e0 (by rw [← e1, ← e2, ← e3, ← e4, ← e5]; exact hP) dX1_scanOrder_11
def fX1_scan_s19 (v_signs : Nat → Int32) (v_length : Int32) (rec19 : Int32 → Int32 → Int32 → Int32 → Int32 → (Nat → Int32) → (Nat → Int32) → (Nat → Int32) → Option (Int32 × Int32 × Int32 × (Nat → Int32) × (Nat → Int32) × (Nat → Int32))) (x1 : Int32) (x2 : Int32) (c3 : Int32) (c4 : Int32) (c5 : Int32) (c6 : Nat → Int32) (c7 : Nat → Int32) (c8 : Nat → Int32) : Option (Int32 × Int32 × Int32 × (Nat → Int32) × (Nat → Int32) × (Nat → Int32)) :=
  k_if (60 ≤ x2)
  (
    some (c3, c4, c5, c6, c7, c8))
  (
    k_if (x1 = 0)
    (
      some (c3, c4, c5, c6, c7, c8))
    (
      k_b6 (fX1_scanOrder v_signs v_length c3 c5 c6 c7 c8) fun (x9 : Int32) (c10 : Int32) (c11 : Int32) (c12 : Nat → Int32) (c13 : Nat → Int32) (c14 : Nat → Int32) =>
      k_j1
      (fun (x15 : Int32) =>
        k_bz x15 <|
        k_j2
        (fun (x16 : Int32) (c17 : Int32) =>
          k_let (x2 + 1) fun (x18 : Int32) =>
          rec19 x16 x18 c17 x15 c11 c12 c13 c14)
        (fun K76 =>
        k_if (x9 = 0)
        (
          K76 0 c10)
        (
          k_b2 (fX1_scanSign v_signs v_length c10 59) fun (x19 : Int32) (c20 : Int32) =>
          k_if (x19 = 0)
          (
            K76 0 c20)
          (
            K76 1 c20))))
      (fun K55 =>
      k_if (x9 = 0)
      (
        K55 0)
      (
        k_if (c10 = v_length)
        (
          K55 1)
        (
          K55 0)))))
def fX1_scan (v_signs : Nat → Int32) (v_length : Int32) (v_position : Int32) (v_complete : Int32) (v_orders : Int32) (v_kinds : Nat → Int32) (v_numbers : Nat → Int32) (v_values : Nat → Int32) : Option (Int32 × Int32 × Int32 × (Nat → Int32) × (Nat → Int32) × (Nat → Int32)) :=
  k_l8 (fX1_scan_s19 v_signs v_length) 5000 1 0 0 0 0 v_kinds v_numbers v_values
theorem hdX1_scan : yX1_scan.cls = RX1 ∧ yX1_scan.cls ≠ "java/lang/invoke/MethodHandle" ∧ yX1_scan.cls ≠ "java/lang/invoke/VarHandle" ∧ (parseMethodDescriptor yX1_scan.desc).map (fun d => d.parameters.length) = some 0 := by decide +kernel
set_option maxRecDepth 100000 in
set_option maxHeartbeats 4000000 in
theorem mX1_scan (l : Launch) (dC : Nat → ClassId) (dI : Nat → Nat → Nat) (cyI cyC cyO : ClassId) (ad : Nat → Nat) (ob a1 a2 a3 a4 : Nat) (v_signs : Nat → Int32) (v_length : Int32) (v_position : Int32) (v_complete : Int32) (v_orders : Int32) (v_kinds : Nat → Int32) (v_numbers : Nat → Int32) (v_values : Nat → Int32)  {r_position : Int32} {r_complete : Int32} {r_orders : Int32} {r_kinds : Nat → Int32} {r_numbers : Nat → Int32} {r_values : Nat → Int32} (hf : fX1_scan v_signs v_length v_position v_complete v_orders v_kinds v_numbers v_values = some (r_position, r_complete, r_orders, r_kinds, r_numbers, r_values)) : MetMVe l yX1_scan cX1_scan 4 none 7 154 [.ref ob] (dC, dI) (tyS cyI cyC cyO) (wX1 cyI cyC ob a1 a2 a3 a4 v_signs v_length v_position v_complete v_orders v_kinds v_numbers v_values) (wX1 cyI cyC ob a1 a2 a3 a4 v_signs v_length r_position r_complete r_orders r_kinds r_numbers r_values) ad := by
  refine metMVe_of (by decide) (Nat.le_of_ble_eq_true rfl) ?_
  intro p e s m below meth c ls hC hr hlk hP hK hD hE hl
  have hC : CallFix p m c cX1_scan 4 s [.ref ob].toArray wA RX1 := hC
  obtain ⟨hx, hb, hml, hown, hts⟩ := id hC
  have hS : va_S (k_A (wX1 cyI cyC ob a1 a2 a3 a4 v_signs v_length v_position v_complete v_orders v_kinds v_numbers v_values)) s.heap s.heap [] := va_S.rf
  have hl : lv_has ls 4 [(0, .ref ob)] := hl
  have h := hf
  unfold fX1_scan at h
  obtain ⟨H, hH⟩ : ∃ H, H = s.heap := ⟨_, rfl⟩
  obtain ⟨locs, hlo⟩ : ∃ locs : List Loc, locs = [] := ⟨_, rfl⟩
  rw [← hH] at hP
  rw [← hlo] at hS
  have hS : va_S (k_A (wX1 cyI cyC ob a1 a2 a3 a4 v_signs v_length v_position v_complete v_orders v_kinds v_numbers v_values)) s.heap H locs := by rw [hH]; exact hS
  show W p l e (k_rm 7 154) s m [.ref ob].toArray below meth c s.heap [] 0 0 _ _
  rw [← hlo, ← hH]
  refine lv_aload_n hx hb dX1_scan_0 rfl (lv_at hl 0 rfl) ?_
  refine lv_iconst (v := 0) hx hb dX1_scan_1 (by decide) ?_
  refine va_put (D := (dC, dI)) (ci := 0) (v := .int 0) (ty := .int) (C := RX1) (T := TX1) (N := 8) hx hb hts iaX1 tyX1 tyX1_ok nmX1 hown hK hP hD hS 0 rfl rfl 2 (by decide) (hts _ q139) (fun _ h9 => h9) rfl (by decide +kernel) rfl rfl (Nat.le_of_ble_eq_true rfl) dX1_scan_2 (fun H locs hP _ hS => ?_)
  have hP : va_P (dC, dI) vwCl (wX1 cyI cyC ob a1 a2 a3 a4 v_signs v_length 0 v_complete v_orders v_kinds v_numbers v_values) H := hP
  have hD : va_D (k_A (wX1 cyI cyC ob a1 a2 a3 a4 v_signs v_length v_position v_complete v_orders v_kinds v_numbers v_values)) (wX1 cyI cyC ob a1 a2 a3 a4 v_signs v_length 0 v_complete v_orders v_kinds v_numbers v_values) := k_Dm hD rfl
  refine lv_aload_n hx hb dX1_scan_5 rfl (lv_at hl 0 rfl) ?_
  refine lv_iconst (v := 0) hx hb dX1_scan_6 (by decide) ?_
  refine va_put (D := (dC, dI)) (ci := 0) (v := .int 0) (ty := .int) (C := RX1) (T := TX1) (N := 8) hx hb hts iaX1 tyX1 tyX1_ok nmX1 hown hK hP hD hS 0 rfl rfl 4 (by decide) (hts _ q143) (fun _ h9 => h9) rfl (by decide +kernel) rfl rfl (Nat.le_of_ble_eq_true rfl) dX1_scan_7 (fun H locs hP _ hS => ?_)
  have hP : va_P (dC, dI) vwCl (wX1 cyI cyC ob a1 a2 a3 a4 v_signs v_length 0 v_complete 0 v_kinds v_numbers v_values) H := hP
  have hD : va_D (k_A (wX1 cyI cyC ob a1 a2 a3 a4 v_signs v_length v_position v_complete v_orders v_kinds v_numbers v_values)) (wX1 cyI cyC ob a1 a2 a3 a4 v_signs v_length 0 v_complete 0 v_kinds v_numbers v_values) := k_Dm hD rfl
  refine lv_aload_n hx hb dX1_scan_10 rfl (lv_at hl 0 rfl) ?_
  refine lv_iconst (v := 0) hx hb dX1_scan_11 (by decide) ?_
  refine va_put (D := (dC, dI)) (ci := 0) (v := .int 0) (ty := .boolean) (C := RX1) (T := TX1) (N := 8) hx hb hts iaX1 tyX1 tyX1_ok nmX1 hown hK hP hD hS 0 rfl rfl 3 (by decide) (hts _ q141) (fun _ h9 => h9) rfl (by decide +kernel) (by decide +kernel) (by decide +kernel) (Nat.le_of_ble_eq_true rfl) dX1_scan_12 (fun H locs hP _ hS => ?_)
  have hP : va_P (dC, dI) vwCl (wX1 cyI cyC ob a1 a2 a3 a4 v_signs v_length 0 0 0 v_kinds v_numbers v_values) H := hP
  have hD : va_D (k_A (wX1 cyI cyC ob a1 a2 a3 a4 v_signs v_length v_position v_complete v_orders v_kinds v_numbers v_values)) (wX1 cyI cyC ob a1 a2 a3 a4 v_signs v_length 0 0 0 v_kinds v_numbers v_values) := k_Dm hD rfl
  refine lv_iconst (v := 1) hx hb dX1_scan_15 (by decide) ?_
  refine lv_istore_n (lv' := [(1, .int 1), (0, .ref ob)]) hx hb dX1_scan_16 rfl hl (by decide) rfl (fun ls hl => ?_)
  refine lv_iconst (v := 0) hx hb dX1_scan_17 (by decide) ?_
  refine lv_istore_n (lv' := [(2, .int 0), (1, .int 1), (0, .ref ob)]) hx hb dX1_scan_18 rfl hl (by decide) rfl (fun ls hl => ?_)
  obtain ⟨S19, hS19⟩ : ∃ z, z = (fX1_scan_s19 v_signs v_length) := ⟨_, rfl⟩
  rw [← hS19] at h
  have L19 : ∀ (n : Nat) (x1 : Int32) (x2 : Int32) (c3 : Int32) (c4 : Int32) (c5 : Int32) (c6 : Nat → Int32) (c7 : Nat → Int32) (c8 : Nat → Int32) (H : Heap) (locs : List Loc) (ls : Array Slot), k_l8 S19 n x1 x2 c3 c4 c5 c6 c7 c8 = some (r_position, r_complete, r_orders, r_kinds, r_numbers, r_values) → va_P (dC, dI) vwCl (wX1 cyI cyC ob a1 a2 a3 a4 v_signs v_length c3 c4 c5 c6 c7 c8) H → va_S (k_A (wX1 cyI cyC ob a1 a2 a3 a4 v_signs v_length v_position v_complete v_orders v_kinds v_numbers v_values)) s.heap H locs → lv_has ls 4 [(0, .ref ob), (1, .int x1), (2, .int x2)] → W p l e (k_rm 7 154) s m [.ref ob].toArray below meth c H locs 0 0 (MQ below (qMV (dC, dI) (wX1 cyI cyC ob a1 a2 a3 a4 v_signs v_length v_position v_complete v_orders v_kinds v_numbers v_values) (wX1 cyI cyC ob a1 a2 a3 a4 v_signs v_length r_position r_complete r_orders r_kinds r_numbers r_values)) [.ref ob].toArray s 0 0 (k_A (wX1 cyI cyC ob a1 a2 a3 a4 v_signs v_length v_position v_complete v_orders v_kinds v_numbers v_values))) (F0 m 19 ls []) := by
    intro n
    induction n with
    | zero =>
      intro x1 x2 c3 c4 c5 c6 c7 c8 H locs ls h
      exact (k_l8_0 h).elim
    | succ n ih19 =>
      intro x1 x2 c3 c4 c5 c6 c7 c8 H locs ls h hP hS hl
      have hD : va_D (k_A (wX1 cyI cyC ob a1 a2 a3 a4 v_signs v_length v_position v_complete v_orders v_kinds v_numbers v_values)) (wX1 cyI cyC ob a1 a2 a3 a4 v_signs v_length c3 c4 c5 c6 c7 c8) := k_Dm hD rfl
      have h := k_l8_s h
      have h := k_a9 hS19 h
      unfold fX1_scan_s19 at h
      refine lv_iload_n hx hb dX1_scan_19 rfl (lv_at hl 2 rfl) ?_
      refine lv_bipush (v := 60) hx hb dX1_scan_20 (by decide) ?_
      refine g_icmp_ge (tgt := 83) hx hb dX1_scan_22 (by decide) h (fun h => ?_) (fun h => ?_)
      · obtain ⟨e0, e1, e2, e3, e4, e5⟩ := k_t6 h
        exact g_retMV hx hb hr hlk hS (by rw [← e0, ← e1, ← e2, ← e3, ← e4, ← e5]; exact hP) dX1_scan_83
      · refine lv_iload_n hx hb dX1_scan_25 rfl (lv_at hl 1 rfl) ?_
        refine g_if_eq (tgt := 83) hx hb dX1_scan_26 (by decide) h (fun h => ?_) (fun h => ?_)
        · obtain ⟨e0, e1, e2, e3, e4, e5⟩ := k_t6 h
          exact g_retMV hx hb hr hlk hS (by rw [← e0, ← e1, ← e2, ← e3, ← e4, ← e5]; exact hP) dX1_scan_83
        · refine lv_aload_n hx hb dX1_scan_29 rfl (lv_at hl 0 rfl) ?_
          obtain ⟨x9, c10, c11, c12, c13, c14, hc30, h⟩ := k_b6_e h
          refine g_callMIe_V (As := []) (rest := []) hC (mX1_scanOrder l dC dI cyI cyC cyO ad ob a1 a2 a3 a4 v_signs v_length c3 c4 c5 c6 c7 c8 hc30) q172 q173 q0 q74 q174 0 hdX1_scanOrder ⟨Nat.le_of_ble_eq_true rfl, Nat.le_of_ble_eq_true rfl⟩ ⟨Nat.le_of_ble_eq_true rfl, Nat.le_of_ble_eq_true rfl⟩ rfl rfl hl.1 (Nat.le_of_ble_eq_true rfl) hP hK hD (va_recv hK hP (ci := 0) (q0 := 0) rfl rfl) hS dX1_scan_30 hE (fun H locs hPn hk hS => ?_)
          have hP : va_P (dC, dI) vwCl (wX1 cyI cyC ob a1 a2 a3 a4 v_signs v_length c10 c4 c11 c12 c13 c14) H := hPn
          have hD : va_D (k_A (wX1 cyI cyC ob a1 a2 a3 a4 v_signs v_length v_position v_complete v_orders v_kinds v_numbers v_values)) (wX1 cyI cyC ob a1 a2 a3 a4 v_signs v_length c10 c4 c11 c12 c13 c14) := k_Dm hD rfl
          refine lv_istore_n (lv' := [(3, .int x9), (0, .ref ob), (1, .int x1), (2, .int x2)]) hx hb dX1_scan_33 rfl hl (by decide) rfl (fun ls hl => ?_)
          refine lv_aload_n hx hb dX1_scan_34 rfl (lv_at hl 1 rfl) ?_
          refine lv_iload_n hx hb dX1_scan_35 rfl (lv_at hl 0 rfl) ?_
          obtain ⟨K55, hK55, h⟩ := k_j1_e h
          have J55 : ∀ (x15 : Int32) (H : Heap) (locs : List Loc) (ls : Array Slot), K55 x15 = some (r_position, r_complete, r_orders, r_kinds, r_numbers, r_values) → va_P (dC, dI) vwCl (wX1 cyI cyC ob a1 a2 a3 a4 v_signs v_length c10 c4 c11 c12 c13 c14) H → va_S (k_A (wX1 cyI cyC ob a1 a2 a3 a4 v_signs v_length v_position v_complete v_orders v_kinds v_numbers v_values)) s.heap H locs → lv_has ls 4 [(0, .ref ob), (2, .int x2), (3, .int x9)] → W p l e (k_rm 7 154) s m [.ref ob].toArray below meth c H locs 0 0 (MQ below (qMV (dC, dI) (wX1 cyI cyC ob a1 a2 a3 a4 v_signs v_length v_position v_complete v_orders v_kinds v_numbers v_values) (wX1 cyI cyC ob a1 a2 a3 a4 v_signs v_length r_position r_complete r_orders r_kinds r_numbers r_values)) [.ref ob].toArray s 0 0 (k_A (wX1 cyI cyC ob a1 a2 a3 a4 v_signs v_length v_position v_complete v_orders v_kinds v_numbers v_values))) (F0 m 55 ls [.int x15, .ref ob]) := by
            intro x15 H locs ls h hP hS hl
            have h := k_a1 hK55 h
            obtain ⟨hz, h⟩ := k_bz_e h
            refine va_put (D := (dC, dI)) (ci := 0) (v := .int x15) (ty := .boolean) (C := RX1) (T := TX1) (N := 8) hx hb hts iaX1 tyX1 tyX1_ok nmX1 hown hK hP hD hS 0 rfl rfl 3 (by decide) (hts _ q141) (fun _ h9 => h9) rfl (by decide +kernel) (k_bool hz).1 (k_bool hz).2 (Nat.le_of_ble_eq_true rfl) dX1_scan_55 (fun H locs hP _ hS => ?_)
            have hP : va_P (dC, dI) vwCl (wX1 cyI cyC ob a1 a2 a3 a4 v_signs v_length c10 x15 c11 c12 c13 c14) H := hP
            have hD : va_D (k_A (wX1 cyI cyC ob a1 a2 a3 a4 v_signs v_length v_position v_complete v_orders v_kinds v_numbers v_values)) (wX1 cyI cyC ob a1 a2 a3 a4 v_signs v_length c10 x15 c11 c12 c13 c14) := k_Dm hD rfl
            refine lv_iload_n hx hb dX1_scan_58 rfl (lv_at hl 2 rfl) ?_
            obtain ⟨K76, hK76, h⟩ := k_j2_e h
            have J76 : ∀ (x16 : Int32) (c17 : Int32) (H : Heap) (locs : List Loc) (ls : Array Slot), K76 x16 c17 = some (r_position, r_complete, r_orders, r_kinds, r_numbers, r_values) → va_P (dC, dI) vwCl (wX1 cyI cyC ob a1 a2 a3 a4 v_signs v_length c17 x15 c11 c12 c13 c14) H → va_S (k_A (wX1 cyI cyC ob a1 a2 a3 a4 v_signs v_length v_position v_complete v_orders v_kinds v_numbers v_values)) s.heap H locs → lv_has ls 4 [(0, .ref ob), (2, .int x2)] → W p l e (k_rm 7 154) s m [.ref ob].toArray below meth c H locs 0 0 (MQ below (qMV (dC, dI) (wX1 cyI cyC ob a1 a2 a3 a4 v_signs v_length v_position v_complete v_orders v_kinds v_numbers v_values) (wX1 cyI cyC ob a1 a2 a3 a4 v_signs v_length r_position r_complete r_orders r_kinds r_numbers r_values)) [.ref ob].toArray s 0 0 (k_A (wX1 cyI cyC ob a1 a2 a3 a4 v_signs v_length v_position v_complete v_orders v_kinds v_numbers v_values))) (F0 m 76 ls [.int x16]) := by
              intro x16 c17 H locs ls h hP hS hl
              have hD : va_D (k_A (wX1 cyI cyC ob a1 a2 a3 a4 v_signs v_length v_position v_complete v_orders v_kinds v_numbers v_values)) (wX1 cyI cyC ob a1 a2 a3 a4 v_signs v_length c17 x15 c11 c12 c13 c14) := k_Dm hD rfl
              have h := k_a2 hK76 h
              refine lv_istore_n (lv' := [(1, .int x16), (0, .ref ob), (2, .int x2)]) hx hb dX1_scan_76 rfl hl (by decide) rfl (fun ls hl => ?_)
              refine g_iinc (dv := 1) hx hb dX1_scan_77 hl (j := 2) rfl (by decide) (by decide) h (fun x18 ls h hl => ?_)
              have hl : lv_has ls 4 [(2, .int x18), (1, .int x16), (0, .ref ob)] := hl
              refine lv_goto (tgt := 19) hx hb dX1_scan_80 (by decide) ?_
              exact ih19 x16 x18 c17 x15 c11 c12 c13 c14 _ _ _ h hP hS (lv_sub hl [2, 1, 0] rfl)
            refine g_if_eq (tgt := 75) hx hb dX1_scan_59 (by decide) h (fun h => ?_) (fun h => ?_)
            · refine lv_iconst (v := 0) hx hb dX1_scan_75 (by decide) ?_
              exact J76 0 c10 _ _ _ h hP hS (lv_sub hl [0, 1] rfl)
            · refine lv_aload_n hx hb dX1_scan_62 rfl (lv_at hl 0 rfl) ?_
              refine lv_bipush (v := 59) hx hb dX1_scan_63 (by decide) ?_
              obtain ⟨x19, c20, hc65, h⟩ := k_b2_e h
              refine g_callMI_V (As := [.int 59]) (rest := []) hC (mX1_scanSign l dC dI cyI cyC cyO ob a1 a2 a3 a4 v_signs v_length c10 x15 c11 c12 c13 c14 59 hc65) q245 q246 q4 q74 q247 1 hdX1_scanSign ⟨Nat.le_of_ble_eq_true rfl, Nat.le_of_ble_eq_true rfl⟩ ⟨Nat.le_of_ble_eq_true rfl, Nat.le_of_ble_eq_true rfl⟩ rfl rfl hl.1 (Nat.le_of_ble_eq_true rfl) hP hK hD (va_recv hK hP (ci := 0) (q0 := 0) rfl rfl) hS dX1_scan_65 (fun H locs hPn hk hS => ?_)
              have hP : va_P (dC, dI) vwCl (wX1 cyI cyC ob a1 a2 a3 a4 v_signs v_length c20 x15 c11 c12 c13 c14) H := hPn
              have hD : va_D (k_A (wX1 cyI cyC ob a1 a2 a3 a4 v_signs v_length v_position v_complete v_orders v_kinds v_numbers v_values)) (wX1 cyI cyC ob a1 a2 a3 a4 v_signs v_length c20 x15 c11 c12 c13 c14) := k_Dm hD rfl
              refine g_if_eq (tgt := 75) hx hb dX1_scan_68 (by decide) h (fun h => ?_) (fun h => ?_)
              · refine lv_iconst (v := 0) hx hb dX1_scan_75 (by decide) ?_
                exact J76 0 c20 _ _ _ h hP hS (lv_sub hl [0, 1] rfl)
              · refine lv_iconst (v := 1) hx hb dX1_scan_71 (by decide) ?_
                refine lv_goto (tgt := 76) hx hb dX1_scan_72 (by decide) ?_
                exact J76 1 c20 _ _ _ h hP hS (lv_sub hl [0, 1] rfl)
          refine g_if_eq (tgt := 54) hx hb dX1_scan_36 (by decide) h (fun h => ?_) (fun h => ?_)
          · refine lv_iconst (v := 0) hx hb dX1_scan_54 (by decide) ?_
            exact J55 0 _ _ _ h hP hS (lv_sub hl [1, 3, 0] rfl)
          · refine lv_aload_n hx hb dX1_scan_39 rfl (lv_at hl 1 rfl) ?_
            refine va_get (D := (dC, dI)) (ci := 0) (v := .int c10) (C := RX1) (T := TX1) (N := 8) hx hb hts iaX1 hown hK hP 0 rfl rfl 2 (by decide) (hts _ q139) (fun _ h9 => h9) rfl dX1_scan_40 ?_
            refine lv_aload_n hx hb dX1_scan_43 rfl (lv_at hl 1 rfl) ?_
            refine va_get (D := (dC, dI)) (ci := 0) (v := .int v_length) (C := RX1) (T := TX1) (N := 8) hx hb hts iaX1 hown hK hP 0 rfl rfl 1 (by decide) (hts _ q137) (fun _ h9 => h9) rfl dX1_scan_44 ?_
            refine g_icmp_ne (tgt := 54) hx hb dX1_scan_47 (by decide) h (fun h => ?_) (fun h => ?_)
            · refine lv_iconst (v := 0) hx hb dX1_scan_54 (by decide) ?_
              exact J55 0 _ _ _ h hP hS (lv_sub hl [1, 3, 0] rfl)
            · refine lv_iconst (v := 1) hx hb dX1_scan_50 (by decide) ?_
              refine lv_goto (tgt := 55) hx hb dX1_scan_51 (by decide) ?_
              exact J55 1 _ _ _ h hP hS (lv_sub hl [1, 3, 0] rfl)
  exact L19 5000 1 0 0 0 0 v_kinds v_numbers v_values _ _ _ h hP hS (lv_sub hl [2, 1, 0] rfl)
