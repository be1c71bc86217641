abbrev wX1 (cyI cyC : ClassId) (ob a1 a2 a3 a4 : Nat) (v_signs : Nat → Int32) (v_length : Int32) (v_position : Int32) (v_complete : Int32) (v_orders : Int32) (v_kinds : Nat → Int32) (v_numbers : Nat → Int32) (v_values : Nat → Int32) : va_W := [(ob, .inr (0, [.ref a1, .int v_length, .int v_position, .int v_complete, .int v_orders, .ref a2, .ref a3, .ref a4])), (a1, .inl (cyC, 60, .inl v_signs)), (a2, .inl (cyI, 10, .inl v_kinds)), (a3, .inl (cyI, 10, .inl v_numbers)), (a4, .inl (cyI, 10, .inl v_values))]
def fX3_copyFrom (v_ones : Nat → Int32) (v_twos : Nat → Int32) (v_settings : Nat → Int32) (v_tick : Int32) (v_energy : Int32) (v_valuesPut : Int32) (w_ones : Nat → Int32) (w_twos : Nat → Int32) (w_settings : Nat → Int32) (w_tick : Int32) (w_energy : Int32) (w_valuesPut : Int32) : Option ((Nat → Int32) × (Nat → Int32) × (Nat → Int32) × Int32 × Int32 × Int32) :=
  k_let (va_cpy w_ones v_ones (0 : Int32).toNatClampNeg (0 : Int32).toNatClampNeg (20 : Int32).toNatClampNeg) fun (c1 : Nat → Int32) =>
  k_let (va_cpy w_twos v_twos (0 : Int32).toNatClampNeg (0 : Int32).toNatClampNeg (20 : Int32).toNatClampNeg) fun (c2 : Nat → Int32) =>
  k_let (va_cpy w_settings v_settings (0 : Int32).toNatClampNeg (0 : Int32).toNatClampNeg (4 : Int32).toNatClampNeg) fun (c3 : Nat → Int32) =>
  some (c1, c2, c3, w_tick, w_energy, w_valuesPut)
theorem hdX3_copyFrom : yX3_copyFrom.cls = RX3 ∧ yX3_copyFrom.cls ≠ "java/lang/invoke/MethodHandle" ∧ yX3_copyFrom.cls ≠ "java/lang/invoke/VarHandle" ∧ (parseMethodDescriptor yX3_copyFrom.desc).map (fun d => d.parameters.length) = some 1 := by decide +kernel
set_option maxRecDepth 100000 in
set_option maxHeartbeats 4000000 in
theorem mX3_copyFrom (l : Launch) (dC : Nat → ClassId) (dI : Nat → Nat → Nat) (cyI cyC cyO : ClassId) (ob : Nat) (a1 : Nat) (a2 : Nat) (a3 : Nat) (ob2 : Nat) (b1 : Nat) (b2 : Nat) (b3 : Nat) (v_ones : Nat → Int32) (v_twos : Nat → Int32) (v_settings : Nat → Int32) (v_tick : Int32) (v_energy : Int32) (v_valuesPut : Int32) (w_ones : Nat → Int32) (w_twos : Nat → Int32) (w_settings : Nat → Int32) (w_tick : Int32) (w_energy : Int32) (w_valuesPut : Int32)  {r_ones : Nat → Int32} {r_twos : Nat → Int32} {r_settings : Nat → Int32} {r_tick : Int32} {r_energy : Int32} {r_valuesPut : Int32} (hf : fX3_copyFrom v_ones v_twos v_settings v_tick v_energy v_valuesPut w_ones w_twos w_settings w_tick w_energy w_valuesPut = some (r_ones, r_twos, r_settings, r_tick, r_energy, r_valuesPut)) : MetMV l yX3_copyFrom cX3_copyFrom 2 none 1 26 [.ref ob, .ref ob2] (dC, dI) (tyS cyI cyC cyO) ((wX3 cyI cyC ob a1 a2 a3 v_ones v_twos v_settings v_tick v_energy v_valuesPut) ++ (wX3 cyI cyC ob2 b1 b2 b3 w_ones w_twos w_settings w_tick w_energy w_valuesPut)) ((wX3 cyI cyC ob a1 a2 a3 r_ones r_twos r_settings r_tick r_energy r_valuesPut) ++ (wX3 cyI cyC ob2 b1 b2 b3 w_ones w_twos w_settings w_tick w_energy w_valuesPut)) := by
  refine metMV_of (by decide) (Nat.le_of_ble_eq_true rfl) ?_
  intro p e s m below meth c ls hC hr hlk hP hK hD hl
  have hC : CallFix p m c cX3_copyFrom 2 s [.ref ob, .ref ob2].toArray wA RX3 := hC
  obtain ⟨hx, hb, hml, hown, hts⟩ := id hC
  have hS : va_S (k_A ((wX3 cyI cyC ob a1 a2 a3 v_ones v_twos v_settings v_tick v_energy v_valuesPut) ++ (wX3 cyI cyC ob2 b1 b2 b3 w_ones w_twos w_settings w_tick w_energy w_valuesPut))) s.heap s.heap [] := va_S.rf
  have hl : lv_has ls 2 [(0, .ref ob), (1, .ref ob2)] := hl
  have h := hf
  unfold fX3_copyFrom at h
  obtain ⟨H, hH⟩ : ∃ H, H = s.heap := ⟨_, rfl⟩
  obtain ⟨locs, hlo⟩ : ∃ locs : List Loc, locs = [] := ⟨_, rfl⟩
  rw [← hH] at hP
  rw [← hlo] at hS
  have hS : va_S (k_A ((wX3 cyI cyC ob a1 a2 a3 v_ones v_twos v_settings v_tick v_energy v_valuesPut) ++ (wX3 cyI cyC ob2 b1 b2 b3 w_ones w_twos w_settings w_tick w_energy w_valuesPut))) s.heap H locs := by rw [hH]; exact hS
  show W p l e (k_rm 1 26) s m [.ref ob, .ref ob2].toArray below meth c s.heap [] 0 0 _ _
  rw [← hlo, ← hH]
  refine lv_aload_n hx hb dX3_copyFrom_0 rfl (lv_at hl 1 rfl) ?_
  refine va_get (D := (dC, dI)) (ci := 2) (v := .ref b1) (C := RX3) (T := TX3) (N := 6) hx hb hts iaX3 hown hK hP 4 rfl rfl 0 (by decide) (hts _ q36) (fun _ h9 => h9) rfl dX3_copyFrom_1 ?_
  refine lv_iconst (v := 0) hx hb dX3_copyFrom_4 (by decide) ?_
  refine lv_aload_n hx hb dX3_copyFrom_5 rfl (lv_at hl 0 rfl) ?_
  refine va_get (D := (dC, dI)) (ci := 2) (v := .ref a1) (C := RX3) (T := TX3) (N := 6) hx hb hts iaX3 hown hK hP 0 rfl rfl 0 (by decide) (hts _ q36) (fun _ h9 => h9) rfl dX3_copyFrom_6 ?_
  refine lv_iconst (v := 0) hx hb dX3_copyFrom_9 (by decide) ?_
  refine lv_bipush (v := 20) hx hb dX3_copyFrom_10 (by decide) ?_
  refine g_copyi hx hb (hml.trans hl.1.symm) hown (hts _ q132) (hts _ q134) (hts _ q133) (hts _ q20) hK hP hD hS 5 1 0 rfl rfl rfl (by decide) (by decide) (by decide) (by decide) (by decide) (Nat.le_of_ble_eq_true rfl) (Nat.le_of_ble_eq_true rfl) dX3_copyFrom_12 h (fun c1 H locs h hP hS => ?_)
  have hP : va_P (dC, dI) vwCl ((wX3 cyI cyC ob a1 a2 a3 c1 v_twos v_settings v_tick v_energy v_valuesPut) ++ (wX3 cyI cyC ob2 b1 b2 b3 w_ones w_twos w_settings w_tick w_energy w_valuesPut)) H := hP
  have hD : va_D (k_A ((wX3 cyI cyC ob a1 a2 a3 v_ones v_twos v_settings v_tick v_energy v_valuesPut) ++ (wX3 cyI cyC ob2 b1 b2 b3 w_ones w_twos w_settings w_tick w_energy w_valuesPut))) ((wX3 cyI cyC ob a1 a2 a3 c1 v_twos v_settings v_tick v_energy v_valuesPut) ++ (wX3 cyI cyC ob2 b1 b2 b3 w_ones w_twos w_settings w_tick w_energy w_valuesPut)) := k_Dm hD rfl
  refine lv_aload_n hx hb dX3_copyFrom_15 rfl (lv_at hl 1 rfl) ?_
  refine va_get (D := (dC, dI)) (ci := 2) (v := .ref b2) (C := RX3) (T := TX3) (N := 6) hx hb hts iaX3 hown hK hP 4 rfl rfl 1 (by decide) (hts _ q38) (fun _ h9 => h9) rfl dX3_copyFrom_16 ?_
  refine lv_iconst (v := 0) hx hb dX3_copyFrom_19 (by decide) ?_
  refine lv_aload_n hx hb dX3_copyFrom_20 rfl (lv_at hl 0 rfl) ?_
  refine va_get (D := (dC, dI)) (ci := 2) (v := .ref a2) (C := RX3) (T := TX3) (N := 6) hx hb hts iaX3 hown hK hP 0 rfl rfl 1 (by decide) (hts _ q38) (fun _ h9 => h9) rfl dX3_copyFrom_21 ?_
  refine lv_iconst (v := 0) hx hb dX3_copyFrom_24 (by decide) ?_
  refine lv_bipush (v := 20) hx hb dX3_copyFrom_25 (by decide) ?_
  refine g_copyi hx hb (hml.trans hl.1.symm) hown (hts _ q132) (hts _ q134) (hts _ q133) (hts _ q20) hK hP hD hS 6 2 0 rfl rfl rfl (by decide) (by decide) (by decide) (by decide) (by decide) (Nat.le_of_ble_eq_true rfl) (Nat.le_of_ble_eq_true rfl) dX3_copyFrom_27 h (fun c2 H locs h hP hS => ?_)
  have hP : va_P (dC, dI) vwCl ((wX3 cyI cyC ob a1 a2 a3 c1 c2 v_settings v_tick v_energy v_valuesPut) ++ (wX3 cyI cyC ob2 b1 b2 b3 w_ones w_twos w_settings w_tick w_energy w_valuesPut)) H := hP
  have hD : va_D (k_A ((wX3 cyI cyC ob a1 a2 a3 v_ones v_twos v_settings v_tick v_energy v_valuesPut) ++ (wX3 cyI cyC ob2 b1 b2 b3 w_ones w_twos w_settings w_tick w_energy w_valuesPut))) ((wX3 cyI cyC ob a1 a2 a3 c1 c2 v_settings v_tick v_energy v_valuesPut) ++ (wX3 cyI cyC ob2 b1 b2 b3 w_ones w_twos w_settings w_tick w_energy w_valuesPut)) := k_Dm hD rfl
  refine lv_aload_n hx hb dX3_copyFrom_30 rfl (lv_at hl 1 rfl) ?_
  refine va_get (D := (dC, dI)) (ci := 2) (v := .ref b3) (C := RX3) (T := TX3) (N := 6) hx hb hts iaX3 hown hK hP 4 rfl rfl 2 (by decide) (hts _ q40) (fun _ h9 => h9) rfl dX3_copyFrom_31 ?_
  refine lv_iconst (v := 0) hx hb dX3_copyFrom_34 (by decide) ?_
  refine lv_aload_n hx hb dX3_copyFrom_35 rfl (lv_at hl 0 rfl) ?_
  refine va_get (D := (dC, dI)) (ci := 2) (v := .ref a3) (C := RX3) (T := TX3) (N := 6) hx hb hts iaX3 hown hK hP 0 rfl rfl 2 (by decide) (hts _ q40) (fun _ h9 => h9) rfl dX3_copyFrom_36 ?_
  refine lv_iconst (v := 0) hx hb dX3_copyFrom_39 (by decide) ?_
  refine lv_iconst (v := 4) hx hb dX3_copyFrom_40 (by decide) ?_
  refine g_copyi hx hb (hml.trans hl.1.symm) hown (hts _ q132) (hts _ q134) (hts _ q133) (hts _ q20) hK hP hD hS 7 3 0 rfl rfl rfl (by decide) (by decide) (by decide) (by decide) (by decide) (Nat.le_of_ble_eq_true rfl) (Nat.le_of_ble_eq_true rfl) dX3_copyFrom_41 h (fun c3 H locs h hP hS => ?_)
  have hP : va_P (dC, dI) vwCl ((wX3 cyI cyC ob a1 a2 a3 c1 c2 c3 v_tick v_energy v_valuesPut) ++ (wX3 cyI cyC ob2 b1 b2 b3 w_ones w_twos w_settings w_tick w_energy w_valuesPut)) H := hP
  have hD : va_D (k_A ((wX3 cyI cyC ob a1 a2 a3 v_ones v_twos v_settings v_tick v_energy v_valuesPut) ++ (wX3 cyI cyC ob2 b1 b2 b3 w_ones w_twos w_settings w_tick w_energy w_valuesPut))) ((wX3 cyI cyC ob a1 a2 a3 c1 c2 c3 v_tick v_energy v_valuesPut) ++ (wX3 cyI cyC ob2 b1 b2 b3 w_ones w_twos w_settings w_tick w_energy w_valuesPut)) := k_Dm hD rfl
  refine lv_aload_n hx hb dX3_copyFrom_44 rfl (lv_at hl 0 rfl) ?_
  refine lv_aload_n hx hb dX3_copyFrom_45 rfl (lv_at hl 1 rfl) ?_
  refine va_get (D := (dC, dI)) (ci := 2) (v := .int w_tick) (C := RX3) (T := TX3) (N := 6) hx hb hts iaX3 hown hK hP 4 rfl rfl 3 (by decide) (hts _ q42) (fun _ h9 => h9) rfl dX3_copyFrom_46 ?_
  refine va_put (D := (dC, dI)) (ci := 2) (v := .int w_tick) (ty := .int) (C := RX3) (T := TX3) (N := 6) hx hb hts iaX3 tyX3 tyX3_ok nmX3 hown hK hP hD hS 0 rfl rfl 3 (by decide) (hts _ q42) (fun _ h9 => h9) rfl (by decide +kernel) rfl rfl (Nat.le_of_ble_eq_true rfl) dX3_copyFrom_49 (fun H locs hP _ hS => ?_)
  have hP : va_P (dC, dI) vwCl ((wX3 cyI cyC ob a1 a2 a3 c1 c2 c3 w_tick v_energy v_valuesPut) ++ (wX3 cyI cyC ob2 b1 b2 b3 w_ones w_twos w_settings w_tick w_energy w_valuesPut)) H := hP
  have hD : va_D (k_A ((wX3 cyI cyC ob a1 a2 a3 v_ones v_twos v_settings v_tick v_energy v_valuesPut) ++ (wX3 cyI cyC ob2 b1 b2 b3 w_ones w_twos w_settings w_tick w_energy w_valuesPut))) ((wX3 cyI cyC ob a1 a2 a3 c1 c2 c3 w_tick v_energy v_valuesPut) ++ (wX3 cyI cyC ob2 b1 b2 b3 w_ones w_twos w_settings w_tick w_energy w_valuesPut)) := k_Dm hD rfl
  refine lv_aload_n hx hb dX3_copyFrom_52 rfl (lv_at hl 0 rfl) ?_
  refine lv_aload_n hx hb dX3_copyFrom_53 rfl (lv_at hl 1 rfl) ?_
  refine va_get (D := (dC, dI)) (ci := 2) (v := .int w_energy) (C := RX3) (T := TX3) (N := 6) hx hb hts iaX3 hown hK hP 4 rfl rfl 4 (by decide) (hts _ q44) (fun _ h9 => h9) rfl dX3_copyFrom_54 ?_
  refine va_put (D := (dC, dI)) (ci := 2) (v := .int w_energy) (ty := .int) (C := RX3) (T := TX3) (N := 6) hx hb hts iaX3 tyX3 tyX3_ok nmX3 hown hK hP hD hS 0 rfl rfl 4 (by decide) (hts _ q44) (fun _ h9 => h9) rfl (by decide +kernel) rfl rfl (Nat.le_of_ble_eq_true rfl) dX3_copyFrom_57 (fun H locs hP _ hS => ?_)
  have hP : va_P (dC, dI) vwCl ((wX3 cyI cyC ob a1 a2 a3 c1 c2 c3 w_tick w_energy v_valuesPut) ++ (wX3 cyI cyC ob2 b1 b2 b3 w_ones w_twos w_settings w_tick w_energy w_valuesPut)) H := hP
  have hD : va_D (k_A ((wX3 cyI cyC ob a1 a2 a3 v_ones v_twos v_settings v_tick v_energy v_valuesPut) ++ (wX3 cyI cyC ob2 b1 b2 b3 w_ones w_twos w_settings w_tick w_energy w_valuesPut))) ((wX3 cyI cyC ob a1 a2 a3 c1 c2 c3 w_tick w_energy v_valuesPut) ++ (wX3 cyI cyC ob2 b1 b2 b3 w_ones w_twos w_settings w_tick w_energy w_valuesPut)) := k_Dm hD rfl
  refine lv_aload_n hx hb dX3_copyFrom_60 rfl (lv_at hl 0 rfl) ?_
  refine lv_aload_n hx hb dX3_copyFrom_61 rfl (lv_at hl 1 rfl) ?_
  refine va_get (D := (dC, dI)) (ci := 2) (v := .int w_valuesPut) (C := RX3) (T := TX3) (N := 6) hx hb hts iaX3 hown hK hP 4 rfl rfl 5 (by decide) (hts _ q46) (fun _ h9 => h9) rfl dX3_copyFrom_62 ?_
  refine va_put (D := (dC, dI)) (ci := 2) (v := .int w_valuesPut) (ty := .int) (C := RX3) (T := TX3) (N := 6) hx hb hts iaX3 tyX3 tyX3_ok nmX3 hown hK hP hD hS 0 rfl rfl 5 (by decide) (hts _ q46) (fun _ h9 => h9) rfl (by decide +kernel) rfl rfl (Nat.le_of_ble_eq_true rfl) dX3_copyFrom_65 (fun H locs hP _ hS => ?_)
  have hP : va_P (dC, dI) vwCl ((wX3 cyI cyC ob a1 a2 a3 c1 c2 c3 w_tick w_energy w_valuesPut) ++ (wX3 cyI cyC ob2 b1 b2 b3 w_ones w_twos w_settings w_tick w_energy w_valuesPut)) H := hP
  have hD : va_D (k_A ((wX3 cyI cyC ob a1 a2 a3 v_ones v_twos v_settings v_tick v_energy v_valuesPut) ++ (wX3 cyI cyC ob2 b1 b2 b3 w_ones w_twos w_settings w_tick w_energy w_valuesPut))) ((wX3 cyI cyC ob a1 a2 a3 c1 c2 c3 w_tick w_energy w_valuesPut) ++ (wX3 cyI cyC ob2 b1 b2 b3 w_ones w_twos w_settings w_tick w_energy w_valuesPut)) := k_Dm hD rfl
  obtain ⟨e0, e1, e2, e3, e4, e5⟩ := k_t6 h
  exact g_retMV hx hb hr hlk hS (by rw [← e0, ← e1, ← e2, ← e3, ← e4, ← e5]; exact hP) dX3_copyFrom_68
