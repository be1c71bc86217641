abbrev wX3 (cyI cyC : ClassId) (ob a1 a2 a3 : Nat) (v_ones : Nat → Int32) (v_twos : Nat → Int32) (v_settings : Nat → Int32) (v_tick : Int32) (v_energy : Int32) (v_valuesPut : Int32) : va_W := [(ob, .inr (2, [.ref a1, .ref a2, .ref a3, .int v_tick, .int v_energy, .int v_valuesPut])), (a1, .inl (cyI, 20, .inl v_ones)), (a2, .inl (cyI, 20, .inl v_twos)), (a3, .inl (cyI, 4, .inl v_settings))]
def fX3_strength (v_ones : Nat → Int32) (v_twos : Nat → Int32) (p1 : Int32) (p2 : Int32) : Option (Int32) :=
  k_ck p1 20 <| k_let (v_ones p1.toNatClampNeg) fun (x1 : Int32) =>
  k_let (x1 >>> (p2 &&& 31)) fun (x2 : Int32) =>
  k_let (x2 &&& 1) fun (x3 : Int32) =>
  k_ck p1 20 <| k_let (v_twos p1.toNatClampNeg) fun (x4 : Int32) =>
  k_let (x4 >>> (p2 &&& 31)) fun (x5 : Int32) =>
  k_let (x5 &&& 1) fun (x6 : Int32) =>
  k_let (2 * x6) fun (x7 : Int32) =>
  k_let (x3 + x7) fun (x8 : Int32) =>
  some x8
theorem hdX3_strength : yX3_strength.cls = RX3 ∧ yX3_strength.cls ≠ "java/lang/invoke/MethodHandle" ∧ yX3_strength.cls ≠ "java/lang/invoke/VarHandle" ∧ (parseMethodDescriptor yX3_strength.desc).map (fun d => d.parameters.length) = some 2 := by decide +kernel
set_option maxRecDepth 100000 in
set_option maxHeartbeats 4000000 in
theorem mX3_strength (l : Launch) (dC : Nat → ClassId) (dI : Nat → Nat → Nat) (cyI cyC cyO : ClassId) (ob : Nat) (a1 : Nat) (a2 : Nat) (a3 : Nat) (v_ones : Nat → Int32) (v_twos : Nat → Int32) (v_settings : Nat → Int32) (v_tick : Int32) (v_energy : Int32) (v_valuesPut : Int32) (p1 : Int32) (p2 : Int32) {r : Int32} (hf : fX3_strength v_ones v_twos p1 p2 = some r) : MetRI l yX3_strength cX3_strength 3 (some .int) 0 0 [.ref ob, .int p1, .int p2] (dC, dI) (tyS cyI cyC cyO) (wX3 cyI cyC ob a1 a2 a3 v_ones v_twos v_settings v_tick v_energy v_valuesPut) r := by
  refine metRI_of (by decide) (Nat.le_of_ble_eq_true rfl) ?_
  intro p e s m below meth c ls hC hr hlk hP hK hl
  have hC : CallFix p m c cX3_strength 3 s [.ref ob, .int p1, .int p2].toArray wA RX3 := hC
  obtain ⟨hx, hb, hml, hown, hts⟩ := id hC
  have hS : va_S kF s.heap s.heap [] := va_S.rf
  have hl : lv_has ls 3 [(0, .ref ob), (1, .int p1), (2, .int p2)] := hl
  have h := hf
  unfold fX3_strength at h
  obtain ⟨H, hH⟩ : ∃ H, H = s.heap := ⟨_, rfl⟩
  obtain ⟨locs, hlo⟩ : ∃ locs : List Loc, locs = [] := ⟨_, rfl⟩
  rw [← hH] at hP
  rw [← hlo] at hS
  have hS : va_S kF s.heap H locs := by rw [hH]; exact hS
  show W p l e (k_rm 0 0) s m [.ref ob, .int p1, .int p2].toArray below meth c s.heap [] 0 0 _ _
  rw [← hlo, ← hH]
  refine lv_aload_n hx hb dX3_strength_0 rfl (lv_at hl 0 rfl) ?_
  refine va_get (D := (dC, dI)) (ci := 2) (v := .ref a1) (C := RX3) (T := TX3) (N := 6) hx hb hts iaX3 hown hK hP 0 rfl rfl 0 (by decide) (hts _ q36) (fun _ h9 => h9) rfl dX3_strength_1 ?_
  refine lv_iload_n hx hb dX3_strength_4 rfl (lv_at hl 1 rfl) ?_
  refine g_iald hx hb hK hP 1 0 rfl rfl dX3_strength_5 h (fun x1 h => ?_)
  refine lv_iload_n hx hb dX3_strength_6 rfl (lv_at hl 2 rfl) ?_
  refine g_ishr hx hb dX3_strength_7 h (fun x2 h => ?_)
  refine lv_iconst (v := 1) hx hb dX3_strength_8 (by decide) ?_
  refine g_iand hx hb dX3_strength_9 h (fun x3 h => ?_)
  refine lv_iconst (v := 2) hx hb dX3_strength_10 (by decide) ?_
  refine lv_aload_n hx hb dX3_strength_11 rfl (lv_at hl 0 rfl) ?_
  refine va_get (D := (dC, dI)) (ci := 2) (v := .ref a2) (C := RX3) (T := TX3) (N := 6) hx hb hts iaX3 hown hK hP 0 rfl rfl 1 (by decide) (hts _ q38) (fun _ h9 => h9) rfl dX3_strength_12 ?_
  refine lv_iload_n hx hb dX3_strength_15 rfl (lv_at hl 1 rfl) ?_
  refine g_iald hx hb hK hP 2 0 rfl rfl dX3_strength_16 h (fun x4 h => ?_)
  refine lv_iload_n hx hb dX3_strength_17 rfl (lv_at hl 2 rfl) ?_
  refine g_ishr hx hb dX3_strength_18 h (fun x5 h => ?_)
  refine lv_iconst (v := 1) hx hb dX3_strength_19 (by decide) ?_
  refine g_iand hx hb dX3_strength_20 h (fun x6 h => ?_)
  refine g_imul hx hb dX3_strength_21 h (fun x7 h => ?_)
  refine g_iadd hx hb dX3_strength_22 h (fun x8 h => ?_)
  exact g_retRI hx hb hr hlk hS h dX3_strength_23
def fX3_readAt (v_ones : Nat → Int32) (v_twos : Nat → Int32) (p1 : Int32) (p2 : Int32) (p3 : Int32) : Option (Int32) :=
  k_if (p3 = 0)
  (
    k_let (p2 + p1) fun (x1 : Int32) =>
    k_let (x1 - x1 / 3 * 3) fun (x2 : Int32) =>
    k_let (37449 >>> (x2 &&& 31)) fun (x3 : Int32) =>
    k_let (74898 >>> (x2 &&& 31)) fun (x4 : Int32) =>
    k_let (149796 >>> (x2 &&& 31)) fun (x5 : Int32) =>
    k_ck p1 20 <| k_let (v_ones p1.toNatClampNeg) fun (x6 : Int32) =>
    k_ck p1 20 <| k_let (v_twos p1.toNatClampNeg) fun (x7 : Int32) =>
    k_let (x6 ||| x7) fun (x8 : Int32) =>
    k_let (x8 &&& x3) fun (x9 : Int32) =>
    k_ck p1 20 <| k_let (v_twos p1.toNatClampNeg) fun (x10 : Int32) =>
    k_let (x10 &&& x4) fun (x11 : Int32) =>
    k_let (x9 ||| x11) fun (x12 : Int32) =>
    k_ck p1 20 <| k_let (v_ones p1.toNatClampNeg) fun (x13 : Int32) =>
    k_ck p1 20 <| k_let (v_twos p1.toNatClampNeg) fun (x14 : Int32) =>
    k_let (x13 &&& x14) fun (x15 : Int32) =>
    k_let (x15 &&& x5) fun (x16 : Int32) =>
    k_let (x12 ||| x16) fun (x17 : Int32) =>
    some x17)
  (
    k_ck p1 20 <| k_let (v_twos p1.toNatClampNeg) fun (x18 : Int32) =>
    some x18)
theorem hdX3_readAt : yX3_readAt.cls = RX3 ∧ yX3_readAt.cls ≠ "java/lang/invoke/MethodHandle" ∧ yX3_readAt.cls ≠ "java/lang/invoke/VarHandle" ∧ (parseMethodDescriptor yX3_readAt.desc).map (fun d => d.parameters.length) = some 3 := by decide +kernel
set_option maxRecDepth 100000 in
set_option maxHeartbeats 4000000 in
theorem mX3_readAt (l : Launch) (dC : Nat → ClassId) (dI : Nat → Nat → Nat) (cyI cyC cyO : ClassId) (ob : Nat) (a1 : Nat) (a2 : Nat) (a3 : Nat) (v_ones : Nat → Int32) (v_twos : Nat → Int32) (v_settings : Nat → Int32) (v_tick : Int32) (v_energy : Int32) (v_valuesPut : Int32) (p1 : Int32) (p2 : Int32) (p3 : Int32) {r : Int32} (hf : fX3_readAt v_ones v_twos p1 p2 p3 = some r) : MetRI l yX3_readAt cX3_readAt 8 (some .int) 0 0 [.ref ob, .int p1, .int p2, .int p3] (dC, dI) (tyS cyI cyC cyO) (wX3 cyI cyC ob a1 a2 a3 v_ones v_twos v_settings v_tick v_energy v_valuesPut) r := by
  refine metRI_of (by decide) (Nat.le_of_ble_eq_true rfl) ?_
  intro p e s m below meth c ls hC hr hlk hP hK hl
  have hC : CallFix p m c cX3_readAt 8 s [.ref ob, .int p1, .int p2, .int p3].toArray wA RX3 := hC
  obtain ⟨hx, hb, hml, hown, hts⟩ := id hC
  have hS : va_S kF s.heap s.heap [] := va_S.rf
  have hl : lv_has ls 8 [(0, .ref ob), (1, .int p1), (2, .int p2), (3, .int p3)] := hl
  have h := hf
  unfold fX3_readAt at h
  obtain ⟨H, hH⟩ : ∃ H, H = s.heap := ⟨_, rfl⟩
  obtain ⟨locs, hlo⟩ : ∃ locs : List Loc, locs = [] := ⟨_, rfl⟩
  rw [← hH] at hP
  rw [← hlo] at hS
  have hS : va_S kF s.heap H locs := by rw [hH]; exact hS
  show W p l e (k_rm 0 0) s m [.ref ob, .int p1, .int p2, .int p3].toArray below meth c s.heap [] 0 0 _ _
  rw [← hlo, ← hH]
  refine lv_iload_n hx hb dX3_readAt_0 rfl (lv_at hl 3 rfl) ?_
  refine g_if_eq (tgt := 11) hx hb dX3_readAt_1 (by decide) h (fun h => ?_) (fun h => ?_)
  · refine lv_iload_n hx hb dX3_readAt_11 rfl (lv_at hl 2 rfl) ?_
    refine lv_iload_n hx hb dX3_readAt_12 rfl (lv_at hl 1 rfl) ?_
    refine g_iadd hx hb dX3_readAt_13 h (fun x1 h => ?_)
    refine lv_iconst (v := 3) hx hb dX3_readAt_14 (by decide) ?_
    refine g_irem hx hb dX3_readAt_15 (by decide) h (fun x2 h => ?_)
    refine lv_istore (lv' := [(4, .int x2), (0, .ref ob), (1, .int p1), (2, .int p2), (3, .int p3)]) hx hb dX3_readAt_16 hl (by decide) rfl (fun ls hl => ?_)
    refine lv_ldc hx hb hown (hts _ q151) dX3_readAt_18 ?_
    refine lv_iload hx hb dX3_readAt_20 (lv_at hl 0 rfl) ?_
    refine g_ishr hx hb dX3_readAt_22 h (fun x3 h => ?_)
    refine lv_istore (lv' := [(5, .int x3), (4, .int x2), (0, .ref ob), (1, .int p1), (2, .int p2), (3, .int p3)]) hx hb dX3_readAt_23 hl (by decide) rfl (fun ls hl => ?_)
    refine lv_ldc hx hb hown (hts _ q152) dX3_readAt_25 ?_
    refine lv_iload hx hb dX3_readAt_27 (lv_at hl 1 rfl) ?_
    refine g_ishr hx hb dX3_readAt_29 h (fun x4 h => ?_)
    refine lv_istore (lv' := [(6, .int x4), (5, .int x3), (4, .int x2), (0, .ref ob), (1, .int p1), (2, .int p2), (3, .int p3)]) hx hb dX3_readAt_30 hl (by decide) rfl (fun ls hl => ?_)
    refine lv_ldc hx hb hown (hts _ q153) dX3_readAt_32 ?_
    refine lv_iload hx hb dX3_readAt_34 (lv_at hl 2 rfl) ?_
    refine g_ishr hx hb dX3_readAt_36 h (fun x5 h => ?_)
    refine lv_istore (lv' := [(7, .int x5), (6, .int x4), (5, .int x3), (4, .int x2), (0, .ref ob), (1, .int p1), (2, .int p2), (3, .int p3)]) hx hb dX3_readAt_37 hl (by decide) rfl (fun ls hl => ?_)
    refine lv_aload_n hx hb dX3_readAt_39 rfl (lv_at hl 4 rfl) ?_
    refine va_get (D := (dC, dI)) (ci := 2) (v := .ref a1) (C := RX3) (T := TX3) (N := 6) hx hb hts iaX3 hown hK hP 0 rfl rfl 0 (by decide) (hts _ q36) (fun _ h9 => h9) rfl dX3_readAt_40 ?_
    refine lv_iload_n hx hb dX3_readAt_43 rfl (lv_at hl 5 rfl) ?_
    refine g_iald hx hb hK hP 1 0 rfl rfl dX3_readAt_44 h (fun x6 h => ?_)
    refine lv_aload_n hx hb dX3_readAt_45 rfl (lv_at hl 4 rfl) ?_
    refine va_get (D := (dC, dI)) (ci := 2) (v := .ref a2) (C := RX3) (T := TX3) (N := 6) hx hb hts iaX3 hown hK hP 0 rfl rfl 1 (by decide) (hts _ q38) (fun _ h9 => h9) rfl dX3_readAt_46 ?_
    refine lv_iload_n hx hb dX3_readAt_49 rfl (lv_at hl 5 rfl) ?_
    refine g_iald hx hb hK hP 2 0 rfl rfl dX3_readAt_50 h (fun x7 h => ?_)
    refine g_ior hx hb dX3_readAt_51 h (fun x8 h => ?_)
    refine lv_iload hx hb dX3_readAt_52 (lv_at hl 2 rfl) ?_
    refine g_iand hx hb dX3_readAt_54 h (fun x9 h => ?_)
    refine lv_aload_n hx hb dX3_readAt_55 rfl (lv_at hl 4 rfl) ?_
    refine va_get (D := (dC, dI)) (ci := 2) (v := .ref a2) (C := RX3) (T := TX3) (N := 6) hx hb hts iaX3 hown hK hP 0 rfl rfl 1 (by decide) (hts _ q38) (fun _ h9 => h9) rfl dX3_readAt_56 ?_
    refine lv_iload_n hx hb dX3_readAt_59 rfl (lv_at hl 5 rfl) ?_
    refine g_iald hx hb hK hP 2 0 rfl rfl dX3_readAt_60 h (fun x10 h => ?_)
    refine lv_iload hx hb dX3_readAt_61 (lv_at hl 1 rfl) ?_
    refine g_iand hx hb dX3_readAt_63 h (fun x11 h => ?_)
    refine g_ior hx hb dX3_readAt_64 h (fun x12 h => ?_)
    refine lv_aload_n hx hb dX3_readAt_65 rfl (lv_at hl 4 rfl) ?_
    refine va_get (D := (dC, dI)) (ci := 2) (v := .ref a1) (C := RX3) (T := TX3) (N := 6) hx hb hts iaX3 hown hK hP 0 rfl rfl 0 (by decide) (hts _ q36) (fun _ h9 => h9) rfl dX3_readAt_66 ?_
    refine lv_iload_n hx hb dX3_readAt_69 rfl (lv_at hl 5 rfl) ?_
    refine g_iald hx hb hK hP 1 0 rfl rfl dX3_readAt_70 h (fun x13 h => ?_)
    refine lv_aload_n hx hb dX3_readAt_71 rfl (lv_at hl 4 rfl) ?_
    refine va_get (D := (dC, dI)) (ci := 2) (v := .ref a2) (C := RX3) (T := TX3) (N := 6) hx hb hts iaX3 hown hK hP 0 rfl rfl 1 (by decide) (hts _ q38) (fun _ h9 => h9) rfl dX3_readAt_72 ?_
    refine lv_iload_n hx hb dX3_readAt_75 rfl (lv_at hl 5 rfl) ?_
    refine g_iald hx hb hK hP 2 0 rfl rfl dX3_readAt_76 h (fun x14 h => ?_)
    refine g_iand hx hb dX3_readAt_77 h (fun x15 h => ?_)
    refine lv_iload hx hb dX3_readAt_78 (lv_at hl 0 rfl) ?_
    refine g_iand hx hb dX3_readAt_80 h (fun x16 h => ?_)
    refine g_ior hx hb dX3_readAt_81 h (fun x17 h => ?_)
    exact g_retRI hx hb hr hlk hS h dX3_readAt_82
  · refine lv_aload_n hx hb dX3_readAt_4 rfl (lv_at hl 0 rfl) ?_
    refine va_get (D := (dC, dI)) (ci := 2) (v := .ref a2) (C := RX3) (T := TX3) (N := 6) hx hb hts iaX3 hown hK hP 0 rfl rfl 1 (by decide) (hts _ q38) (fun _ h9 => h9) rfl dX3_readAt_5 ?_
    refine lv_iload_n hx hb dX3_readAt_8 rfl (lv_at hl 1 rfl) ?_
    refine g_iald hx hb hK hP 2 0 rfl rfl dX3_readAt_9 h (fun x18 h => ?_)
    exact g_retRI hx hb hr hlk hS h dX3_readAt_10
def fX3_readsThrice (v_settings : Nat → Int32) : Option (Int32) :=
  k_ck (0 : Int32) 4 <| k_let (v_settings (0 : Int32).toNatClampNeg) fun (x1 : Int32) =>
  k_if (x1 = 1)
  (
    some 1)
  (
    some 0)
theorem hdX3_readsThrice : yX3_readsThrice.cls = RX3 ∧ yX3_readsThrice.cls ≠ "java/lang/invoke/MethodHandle" ∧ yX3_readsThrice.cls ≠ "java/lang/invoke/VarHandle" ∧ (parseMethodDescriptor yX3_readsThrice.desc).map (fun d => d.parameters.length) = some 0 := by decide +kernel
set_option maxRecDepth 100000 in
set_option maxHeartbeats 4000000 in
theorem mX3_readsThrice (l : Launch) (dC : Nat → ClassId) (dI : Nat → Nat → Nat) (cyI cyC cyO : ClassId) (ob : Nat) (a1 : Nat) (a2 : Nat) (a3 : Nat) (v_ones : Nat → Int32) (v_twos : Nat → Int32) (v_settings : Nat → Int32) (v_tick : Int32) (v_energy : Int32) (v_valuesPut : Int32)  {r : Int32} (hf : fX3_readsThrice v_settings = some r) : MetRI l yX3_readsThrice cX3_readsThrice 1 (some .boolean) 0 0 [.ref ob] (dC, dI) (tyS cyI cyC cyO) (wX3 cyI cyC ob a1 a2 a3 v_ones v_twos v_settings v_tick v_energy v_valuesPut) r := by
  refine metRI_of (by decide) (Nat.le_of_ble_eq_true rfl) ?_
  intro p e s m below meth c ls hC hr hlk hP hK hl
  have hC : CallFix p m c cX3_readsThrice 1 s [.ref ob].toArray wA RX3 := hC
  obtain ⟨hx, hb, hml, hown, hts⟩ := id hC
  have hS : va_S kF s.heap s.heap [] := va_S.rf
  have hl : lv_has ls 1 [(0, .ref ob)] := hl
  have h := hf
  unfold fX3_readsThrice at h
  obtain ⟨H, hH⟩ : ∃ H, H = s.heap := ⟨_, rfl⟩
  obtain ⟨locs, hlo⟩ : ∃ locs : List Loc, locs = [] := ⟨_, rfl⟩
  rw [← hH] at hP
  rw [← hlo] at hS
  have hS : va_S kF s.heap H locs := by rw [hH]; exact hS
  show W p l e (k_rm 0 0) s m [.ref ob].toArray below meth c s.heap [] 0 0 _ _
  rw [← hlo, ← hH]
  refine lv_aload_n hx hb dX3_readsThrice_0 rfl (lv_at hl 0 rfl) ?_
  refine va_get (D := (dC, dI)) (ci := 2) (v := .ref a3) (C := RX3) (T := TX3) (N := 6) hx hb hts iaX3 hown hK hP 0 rfl rfl 2 (by decide) (hts _ q40) (fun _ h9 => h9) rfl dX3_readsThrice_1 ?_
  refine lv_iconst (v := 0) hx hb dX3_readsThrice_4 (by decide) ?_
  refine g_iald hx hb hK hP 3 0 rfl rfl dX3_readsThrice_5 h (fun x1 h => ?_)
  refine lv_iconst (v := 1) hx hb dX3_readsThrice_6 (by decide) ?_
  refine g_icmp_ne (tgt := 14) hx hb dX3_readsThrice_7 (by decide) h (fun h => ?_) (fun h => ?_)
  · refine lv_iconst (v := 0) hx hb dX3_readsThrice_14 (by decide) ?_
    exact g_retRZ hx hb hr (by decide +kernel) hlk hS h dX3_readsThrice_15
  · refine lv_iconst (v := 1) hx hb dX3_readsThrice_10 (by decide) ?_
    refine lv_goto (tgt := 15) hx hb dX3_readsThrice_11 (by decide) ?_
    exact g_retRZ hx hb hr (by decide +kernel) hlk hS h dX3_readsThrice_15
def fX3_read (v_ones : Nat → Int32) (v_twos : Nat → Int32) (v_settings : Nat → Int32) (v_tick : Int32) (p1 : Int32) : Option (Int32) :=
  k_b1 (fX3_readsThrice v_settings) fun (x1 : Int32) =>
  k_b1 (fX3_readAt v_ones v_twos p1 v_tick x1) fun (x2 : Int32) =>
  some x2
theorem hdX3_read : yX3_read.cls = RX3 ∧ yX3_read.cls ≠ "java/lang/invoke/MethodHandle" ∧ yX3_read.cls ≠ "java/lang/invoke/VarHandle" ∧ (parseMethodDescriptor yX3_read.desc).map (fun d => d.parameters.length) = some 1 := by decide +kernel
set_option maxRecDepth 100000 in
set_option maxHeartbeats 4000000 in
theorem mX3_read (l : Launch) (dC : Nat → ClassId) (dI : Nat → Nat → Nat) (cyI cyC cyO : ClassId) (ob : Nat) (a1 : Nat) (a2 : Nat) (a3 : Nat) (v_ones : Nat → Int32) (v_twos : Nat → Int32) (v_settings : Nat → Int32) (v_tick : Int32) (v_energy : Int32) (v_valuesPut : Int32) (p1 : Int32) {r : Int32} (hf : fX3_read v_ones v_twos v_settings v_tick p1 = some r) : MetRI l yX3_read cX3_read 2 (some .int) 1 27 [.ref ob, .int p1] (dC, dI) (tyS cyI cyC cyO) (wX3 cyI cyC ob a1 a2 a3 v_ones v_twos v_settings v_tick v_energy v_valuesPut) r := by
  refine metRI_of (by decide) (Nat.le_of_ble_eq_true rfl) ?_
  intro p e s m below meth c ls hC hr hlk hP hK hl
  have hC : CallFix p m c cX3_read 2 s [.ref ob, .int p1].toArray wA RX3 := hC
  obtain ⟨hx, hb, hml, hown, hts⟩ := id hC
  have hS : va_S kF s.heap s.heap [] := va_S.rf
  have hl : lv_has ls 2 [(0, .ref ob), (1, .int p1)] := hl
  have h := hf
  unfold fX3_read at h
  obtain ⟨H, hH⟩ : ∃ H, H = s.heap := ⟨_, rfl⟩
  obtain ⟨locs, hlo⟩ : ∃ locs : List Loc, locs = [] := ⟨_, rfl⟩
  rw [← hH] at hP
  rw [← hlo] at hS
  have hS : va_S kF s.heap H locs := by rw [hH]; exact hS
  show W p l e (k_rm 1 27) s m [.ref ob, .int p1].toArray below meth c s.heap [] 0 0 _ _
  rw [← hlo, ← hH]
  refine lv_aload_n hx hb dX3_read_0 rfl (lv_at hl 0 rfl) ?_
  refine lv_iload_n hx hb dX3_read_1 rfl (lv_at hl 1 rfl) ?_
  refine lv_aload_n hx hb dX3_read_2 rfl (lv_at hl 0 rfl) ?_
  refine va_get (D := (dC, dI)) (ci := 2) (v := .int v_tick) (C := RX3) (T := TX3) (N := 6) hx hb hts iaX3 hown hK hP 0 rfl rfl 3 (by decide) (hts _ q42) (fun _ h9 => h9) rfl dX3_read_3 ?_
  refine lv_aload_n hx hb dX3_read_6 rfl (lv_at hl 0 rfl) ?_
  obtain ⟨x1, hc7, h⟩ := k_b1_e h
  refine g_callRI_V (As := []) (rest := [.int v_tick, .int p1, .ref ob]) hC (mX3_readsThrice l dC dI cyI cyC cyO ob a1 a2 a3 v_ones v_twos v_settings v_tick v_energy v_valuesPut hc7) q143 q144 q145 q9 q146 0 hdX3_readsThrice ⟨Nat.le_of_ble_eq_true rfl, Nat.le_of_ble_eq_true rfl⟩ ⟨Nat.le_of_ble_eq_true rfl, Nat.le_of_ble_eq_true rfl⟩ rfl rfl hl.1 (Nat.le_of_ble_eq_true rfl) hP hK (va_recv hK hP (ci := 2) (q0 := 0) rfl rfl) hS dX3_read_7 (fun H locs hk hS => ?_)
  have hP := k_kept hP hk
  obtain ⟨x2, hc10, h⟩ := k_b1_e h
  refine g_callRI_V (As := [.int p1, .int v_tick, .int x1]) (rest := []) hC (mX3_readAt l dC dI cyI cyC cyO ob a1 a2 a3 v_ones v_twos v_settings v_tick v_energy v_valuesPut p1 v_tick x1 hc10) q147 q148 q149 q9 q150 3 hdX3_readAt ⟨Nat.le_of_ble_eq_true rfl, Nat.le_of_ble_eq_true rfl⟩ ⟨Nat.le_of_ble_eq_true rfl, Nat.le_of_ble_eq_true rfl⟩ rfl rfl hl.1 (Nat.le_of_ble_eq_true rfl) hP hK (va_recv hK hP (ci := 2) (q0 := 0) rfl rfl) hS dX3_read_10 (fun H locs hk hS => ?_)
  have hP := k_kept hP hk
  exact g_retRI hx hb hr hlk hS h dX3_read_13
def fJ6_bitCount_0f7a4 (p0 : Int32) : Option (Int32) :=
  k_let ((p0.toUInt32 >>> ((1 : Int32).toUInt32 &&& Int32.toUInt32 31)).toInt32) fun (x1 : Int32) =>
  k_let (x1 &&& 1431655765) fun (x2 : Int32) =>
  k_let (p0 - x2) fun (x3 : Int32) =>
  k_let (x3 &&& 858993459) fun (x4 : Int32) =>
  k_let ((x3.toUInt32 >>> ((2 : Int32).toUInt32 &&& Int32.toUInt32 31)).toInt32) fun (x5 : Int32) =>
  k_let (x5 &&& 858993459) fun (x6 : Int32) =>
  k_let (x4 + x6) fun (x7 : Int32) =>
  k_let ((x7.toUInt32 >>> ((4 : Int32).toUInt32 &&& Int32.toUInt32 31)).toInt32) fun (x8 : Int32) =>
  k_let (x7 + x8) fun (x9 : Int32) =>
  k_let (x9 &&& 252645135) fun (x10 : Int32) =>
  k_let ((x10.toUInt32 >>> ((8 : Int32).toUInt32 &&& Int32.toUInt32 31)).toInt32) fun (x11 : Int32) =>
  k_let (x10 + x11) fun (x12 : Int32) =>
  k_let ((x12.toUInt32 >>> ((16 : Int32).toUInt32 &&& Int32.toUInt32 31)).toInt32) fun (x13 : Int32) =>
  k_let (x12 + x13) fun (x14 : Int32) =>
  k_let (x14 &&& 63) fun (x15 : Int32) =>
  some x15
theorem hdJ6_bitCount_0f7a4 : yJ6_bitCount_0f7a4.cls ≠ "java/lang/invoke/MethodHandle" ∧ yJ6_bitCount_0f7a4.cls ≠ "java/lang/invoke/VarHandle" ∧ (parseMethodDescriptor yJ6_bitCount_0f7a4.desc).map (fun d => d.parameters.length) = some 1 := by decide +kernel
set_option maxRecDepth 100000 in
set_option maxHeartbeats 4000000 in
theorem mJ6_bitCount_0f7a4 (l : Launch) (dC : Nat → ClassId) (dI : Nat → Nat → Nat) (cyI cyC cyO : ClassId)  (p0 : Int32) {r : Int32} (hf : fJ6_bitCount_0f7a4 p0 = some r) : MetRI l yJ6_bitCount_0f7a4 cJ6_bitCount_0f7a4 1 (some .int) 0 0 [.int p0] (dC, dI) (tyS cyI cyC cyO) [] r := by
  refine metRI_of (by decide) (Nat.le_of_ble_eq_true rfl) ?_
  intro p e s m below meth c ls hC hr hlk hP hK hl
  have hC : CallFix p m c cJ6_bitCount_0f7a4 1 s [.int p0].toArray wA RJ6 := hC
  obtain ⟨hx, hb, hml, hown, hts⟩ := id hC
  have hS : va_S kF s.heap s.heap [] := va_S.rf
  have hl : lv_has ls 1 [(0, .int p0)] := hl
  have h := hf
  unfold fJ6_bitCount_0f7a4 at h
  obtain ⟨H, hH⟩ : ∃ H, H = s.heap := ⟨_, rfl⟩
  obtain ⟨locs, hlo⟩ : ∃ locs : List Loc, locs = [] := ⟨_, rfl⟩
  rw [← hH] at hP
  rw [← hlo] at hS
  have hS : va_S kF s.heap H locs := by rw [hH]; exact hS
  show W p l e (k_rm 0 0) s m [.int p0].toArray below meth c s.heap [] 0 0 _ _
  rw [← hlo, ← hH]
  refine lv_iload_n hx hb dJ6_bitCount_0f7a4_0 rfl (lv_at hl 0 rfl) ?_
  refine lv_iload_n hx hb dJ6_bitCount_0f7a4_1 rfl (lv_at hl 0 rfl) ?_
  refine lv_iconst (v := 1) hx hb dJ6_bitCount_0f7a4_2 (by decide) ?_
  refine g_iushr hx hb dJ6_bitCount_0f7a4_3 h (fun x1 h => ?_)
  refine lv_ldcw hx hb hown (hts _ q167) dJ6_bitCount_0f7a4_4 ?_
  refine g_iand hx hb dJ6_bitCount_0f7a4_7 h (fun x2 h => ?_)
  refine g_isub hx hb dJ6_bitCount_0f7a4_8 h (fun x3 h => ?_)
  refine lv_istore_n (lv' := [(0, .int x3)]) hx hb dJ6_bitCount_0f7a4_9 rfl hl (by decide) rfl (fun ls hl => ?_)
  refine lv_iload_n hx hb dJ6_bitCount_0f7a4_10 rfl (lv_at hl 0 rfl) ?_
  refine lv_ldcw hx hb hown (hts _ q168) dJ6_bitCount_0f7a4_11 ?_
  refine g_iand hx hb dJ6_bitCount_0f7a4_14 h (fun x4 h => ?_)
  refine lv_iload_n hx hb dJ6_bitCount_0f7a4_15 rfl (lv_at hl 0 rfl) ?_
  refine lv_iconst (v := 2) hx hb dJ6_bitCount_0f7a4_16 (by decide) ?_
  refine g_iushr hx hb dJ6_bitCount_0f7a4_17 h (fun x5 h => ?_)
  refine lv_ldcw hx hb hown (hts _ q168) dJ6_bitCount_0f7a4_18 ?_
  refine g_iand hx hb dJ6_bitCount_0f7a4_21 h (fun x6 h => ?_)
  refine g_iadd hx hb dJ6_bitCount_0f7a4_22 h (fun x7 h => ?_)
  refine lv_istore_n (lv' := [(0, .int x7)]) hx hb dJ6_bitCount_0f7a4_23 rfl hl (by decide) rfl (fun ls hl => ?_)
  refine lv_iload_n hx hb dJ6_bitCount_0f7a4_24 rfl (lv_at hl 0 rfl) ?_
  refine lv_iload_n hx hb dJ6_bitCount_0f7a4_25 rfl (lv_at hl 0 rfl) ?_
  refine lv_iconst (v := 4) hx hb dJ6_bitCount_0f7a4_26 (by decide) ?_
  refine g_iushr hx hb dJ6_bitCount_0f7a4_27 h (fun x8 h => ?_)
  refine g_iadd hx hb dJ6_bitCount_0f7a4_28 h (fun x9 h => ?_)
  refine lv_ldcw hx hb hown (hts _ q169) dJ6_bitCount_0f7a4_29 ?_
  refine g_iand hx hb dJ6_bitCount_0f7a4_32 h (fun x10 h => ?_)
  refine lv_istore_n (lv' := [(0, .int x10)]) hx hb dJ6_bitCount_0f7a4_33 rfl hl (by decide) rfl (fun ls hl => ?_)
  refine lv_iload_n hx hb dJ6_bitCount_0f7a4_34 rfl (lv_at hl 0 rfl) ?_
  refine lv_iload_n hx hb dJ6_bitCount_0f7a4_35 rfl (lv_at hl 0 rfl) ?_
  refine lv_bipush (v := 8) hx hb dJ6_bitCount_0f7a4_36 (by decide) ?_
  refine g_iushr hx hb dJ6_bitCount_0f7a4_38 h (fun x11 h => ?_)
  refine g_iadd hx hb dJ6_bitCount_0f7a4_39 h (fun x12 h => ?_)
  refine lv_istore_n (lv' := [(0, .int x12)]) hx hb dJ6_bitCount_0f7a4_40 rfl hl (by decide) rfl (fun ls hl => ?_)
  refine lv_iload_n hx hb dJ6_bitCount_0f7a4_41 rfl (lv_at hl 0 rfl) ?_
  refine lv_iload_n hx hb dJ6_bitCount_0f7a4_42 rfl (lv_at hl 0 rfl) ?_
  refine lv_bipush (v := 16) hx hb dJ6_bitCount_0f7a4_43 (by decide) ?_
  refine g_iushr hx hb dJ6_bitCount_0f7a4_45 h (fun x13 h => ?_)
  refine g_iadd hx hb dJ6_bitCount_0f7a4_46 h (fun x14 h => ?_)
  refine lv_istore_n (lv' := [(0, .int x14)]) hx hb dJ6_bitCount_0f7a4_47 rfl hl (by decide) rfl (fun ls hl => ?_)
  refine lv_iload_n hx hb dJ6_bitCount_0f7a4_48 rfl (lv_at hl 0 rfl) ?_
  refine lv_bipush (v := 63) hx hb dJ6_bitCount_0f7a4_49 (by decide) ?_
  refine g_iand hx hb dJ6_bitCount_0f7a4_51 h (fun x15 h => ?_)
  exact g_retRI hx hb hr hlk hS h dJ6_bitCount_0f7a4_52
def fX0_checkOf (p0 : Int32) : Option (Int32) :=
  k_let (p0 >>> (10 &&& 31)) fun (x1 : Int32) =>
  k_let (x1 &&& 15) fun (x2 : Int32) =>
  some x2
theorem hdX0_checkOf : yX0_checkOf.cls ≠ "java/lang/invoke/MethodHandle" ∧ yX0_checkOf.cls ≠ "java/lang/invoke/VarHandle" ∧ (parseMethodDescriptor yX0_checkOf.desc).map (fun d => d.parameters.length) = some 1 := by decide +kernel
set_option maxRecDepth 100000 in
set_option maxHeartbeats 4000000 in
theorem mX0_checkOf (l : Launch) (dC : Nat → ClassId) (dI : Nat → Nat → Nat) (cyI cyC cyO : ClassId)  (p0 : Int32) {r : Int32} (hf : fX0_checkOf p0 = some r) : MetRI l yX0_checkOf cX0_checkOf 1 (some .int) 0 0 [.int p0] (dC, dI) (tyS cyI cyC cyO) [] r := by
  refine metRI_of (by decide) (Nat.le_of_ble_eq_true rfl) ?_
  intro p e s m below meth c ls hC hr hlk hP hK hl
  have hC : CallFix p m c cX0_checkOf 1 s [.int p0].toArray wA RX0 := hC
  obtain ⟨hx, hb, hml, hown, hts⟩ := id hC
  have hS : va_S kF s.heap s.heap [] := va_S.rf
  have hl : lv_has ls 1 [(0, .int p0)] := hl
  have h := hf
  unfold fX0_checkOf at h
  obtain ⟨H, hH⟩ : ∃ H, H = s.heap := ⟨_, rfl⟩
  obtain ⟨locs, hlo⟩ : ∃ locs : List Loc, locs = [] := ⟨_, rfl⟩
  rw [← hH] at hP
  rw [← hlo] at hS
  have hS : va_S kF s.heap H locs := by rw [hH]; exact hS
  show W p l e (k_rm 0 0) s m [.int p0].toArray below meth c s.heap [] 0 0 _ _
  rw [← hlo, ← hH]
  refine lv_iload_n hx hb dX0_checkOf_0 rfl (lv_at hl 0 rfl) ?_
  refine lv_bipush (v := 10) hx hb dX0_checkOf_1 (by decide) ?_
  refine g_ishr hx hb dX0_checkOf_3 h (fun x1 h => ?_)
  refine lv_bipush (v := 15) hx hb dX0_checkOf_4 (by decide) ?_
  refine g_iand hx hb dX0_checkOf_6 h (fun x2 h => ?_)
  exact g_retRI hx hb hr hlk hS h dX0_checkOf_7
def fX0_kindOf (p0 : Int32) : Option (Int32) :=
  k_if (p0 = 0)
  (
    some 0)
  (
    k_let (p0 &&& 16383) fun (x1 : Int32) =>
    k_if (x1 = 0)
    (
      some 1)
    (
      k_let (p0 &&& 16384) fun (x2 : Int32) =>
      k_if (x2 = 0)
      (
        k_let (p0 &&& 1023) fun (x3 : Int32) =>
        k_b1 (fJ6_bitCount_0f7a4 x3) fun (x4 : Int32) =>
        k_let (10 - x4) fun (x5 : Int32) =>
        k_b1 (fX0_checkOf p0) fun (x6 : Int32) =>
        k_if (x6 = x5)
        (
          some 4)
        (
          some 3))
      (
        some 2)))
theorem hdX0_kindOf : yX0_kindOf.cls ≠ "java/lang/invoke/MethodHandle" ∧ yX0_kindOf.cls ≠ "java/lang/invoke/VarHandle" ∧ (parseMethodDescriptor yX0_kindOf.desc).map (fun d => d.parameters.length) = some 1 := by decide +kernel
set_option maxRecDepth 100000 in
set_option maxHeartbeats 4000000 in
theorem mX0_kindOf (l : Launch) (dC : Nat → ClassId) (dI : Nat → Nat → Nat) (cyI cyC cyO : ClassId)  (p0 : Int32) {r : Int32} (hf : fX0_kindOf p0 = some r) : MetRI l yX0_kindOf cX0_kindOf 2 (some .int) 1 20 [.int p0] (dC, dI) (tyS cyI cyC cyO) [] r := by
  refine metRI_of (by decide) (Nat.le_of_ble_eq_true rfl) ?_
  intro p e s m below meth c ls hC hr hlk hP hK hl
  have hC : CallFix p m c cX0_kindOf 2 s [.int p0].toArray wA RX0 := hC
  obtain ⟨hx, hb, hml, hown, hts⟩ := id hC
  have hS : va_S kF s.heap s.heap [] := va_S.rf
  have hl : lv_has ls 2 [(0, .int p0)] := hl
  have h := hf
  unfold fX0_kindOf at h
  obtain ⟨H, hH⟩ : ∃ H, H = s.heap := ⟨_, rfl⟩
  obtain ⟨locs, hlo⟩ : ∃ locs : List Loc, locs = [] := ⟨_, rfl⟩
  rw [← hH] at hP
  rw [← hlo] at hS
  have hS : va_S kF s.heap H locs := by rw [hH]; exact hS
  show W p l e (k_rm 1 20) s m [.int p0].toArray below meth c s.heap [] 0 0 _ _
  rw [← hlo, ← hH]
  refine lv_iload_n hx hb dX0_kindOf_0 rfl (lv_at hl 0 rfl) ?_
  refine g_if_ne (tgt := 6) hx hb dX0_kindOf_1 (by decide) h (fun h => ?_) (fun h => ?_)
  · refine lv_iload_n hx hb dX0_kindOf_6 rfl (lv_at hl 0 rfl) ?_
    refine lv_sipush (v := 16383) hx hb dX0_kindOf_7 (by decide) ?_
    refine g_iand hx hb dX0_kindOf_10 h (fun x1 h => ?_)
    refine g_if_ne (tgt := 16) hx hb dX0_kindOf_11 (by decide) h (fun h => ?_) (fun h => ?_)
    · refine lv_iload_n hx hb dX0_kindOf_16 rfl (lv_at hl 0 rfl) ?_
      refine lv_sipush (v := 16384) hx hb dX0_kindOf_17 (by decide) ?_
      refine g_iand hx hb dX0_kindOf_20 h (fun x2 h => ?_)
      refine g_if_eq (tgt := 26) hx hb dX0_kindOf_21 (by decide) h (fun h => ?_) (fun h => ?_)
      · refine lv_bipush (v := 10) hx hb dX0_kindOf_26 (by decide) ?_
        refine lv_iload_n hx hb dX0_kindOf_28 rfl (lv_at hl 0 rfl) ?_
        refine lv_sipush (v := 1023) hx hb dX0_kindOf_29 (by decide) ?_
        refine g_iand hx hb dX0_kindOf_32 h (fun x3 h => ?_)
        obtain ⟨x4, hc33, h⟩ := k_b1_e h
        refine g_callRI_S (As := [.int x3]) (rest := [.int 10]) hC (mJ6_bitCount_0f7a4 l dC dI cyI cyC cyO x3 hc33) q164 q165 q12 q166 1 hdJ6_bitCount_0f7a4 ⟨Nat.le_of_ble_eq_true rfl, Nat.le_of_ble_eq_true rfl⟩ ⟨Nat.le_of_ble_eq_true rfl, Nat.le_of_ble_eq_true rfl⟩ rfl rfl hl.1 (Nat.le_of_ble_eq_true rfl) va_P_nil hK hS dX0_kindOf_33 (fun H locs hk hS => ?_)
        refine g_isub hx hb dX0_kindOf_36 h (fun x5 h => ?_)
        refine lv_istore_n (lv' := [(1, .int x5), (0, .int p0)]) hx hb dX0_kindOf_37 rfl hl (by decide) rfl (fun ls hl => ?_)
        refine lv_iload_n hx hb dX0_kindOf_38 rfl (lv_at hl 1 rfl) ?_
        obtain ⟨x6, hc39, h⟩ := k_b1_e h
        refine g_callRI_S (As := [.int p0]) (rest := []) hC (mX0_checkOf l dC dI cyI cyC cyO p0 hc39) q170 q171 q17 q172 1 hdX0_checkOf ⟨Nat.le_of_ble_eq_true rfl, Nat.le_of_ble_eq_true rfl⟩ ⟨Nat.le_of_ble_eq_true rfl, Nat.le_of_ble_eq_true rfl⟩ rfl rfl hl.1 (Nat.le_of_ble_eq_true rfl) va_P_nil hK hS dX0_kindOf_39 (fun H locs hk hS => ?_)
        refine lv_iload_n hx hb dX0_kindOf_42 rfl (lv_at hl 0 rfl) ?_
        refine g_icmp_ne (tgt := 50) hx hb dX0_kindOf_43 (by decide) h (fun h => ?_) (fun h => ?_)
        · refine lv_iconst (v := 3) hx hb dX0_kindOf_50 (by decide) ?_
          exact g_retRI hx hb hr hlk hS h dX0_kindOf_51
        · refine lv_iconst (v := 4) hx hb dX0_kindOf_46 (by decide) ?_
          refine lv_goto (tgt := 51) hx hb dX0_kindOf_47 (by decide) ?_
          exact g_retRI hx hb hr hlk hS h dX0_kindOf_51
      · refine lv_iconst (v := 2) hx hb dX0_kindOf_24 (by decide) ?_
        exact g_retRI hx hb hr hlk hS h dX0_kindOf_25
    · refine lv_iconst (v := 1) hx hb dX0_kindOf_14 (by decide) ?_
      exact g_retRI hx hb hr hlk hS h dX0_kindOf_15
  · refine lv_iconst (v := 0) hx hb dX0_kindOf_4 (by decide) ?_
    exact g_retRI hx hb hr hlk hS h dX0_kindOf_5
def fX3_kind (v_ones : Nat → Int32) (v_twos : Nat → Int32) (v_settings : Nat → Int32) (v_tick : Int32) (p1 : Int32) : Option (Int32) :=
  k_b1 (fX3_read v_ones v_twos v_settings v_tick p1) fun (x1 : Int32) =>
  k_b1 (fX0_kindOf x1) fun (x2 : Int32) =>
  some x2
theorem hdX3_kind : yX3_kind.cls = RX3 ∧ yX3_kind.cls ≠ "java/lang/invoke/MethodHandle" ∧ yX3_kind.cls ≠ "java/lang/invoke/VarHandle" ∧ (parseMethodDescriptor yX3_kind.desc).map (fun d => d.parameters.length) = some 1 := by decide +kernel
set_option maxRecDepth 100000 in
set_option maxHeartbeats 4000000 in
theorem mX3_kind (l : Launch) (dC : Nat → ClassId) (dI : Nat → Nat → Nat) (cyI cyC cyO : ClassId) (ob : Nat) (a1 : Nat) (a2 : Nat) (a3 : Nat) (v_ones : Nat → Int32) (v_twos : Nat → Int32) (v_settings : Nat → Int32) (v_tick : Int32) (v_energy : Int32) (v_valuesPut : Int32) (p1 : Int32) {r : Int32} (hf : fX3_kind v_ones v_twos v_settings v_tick p1 = some r) : MetRI l yX3_kind cX3_kind 2 (some .int) 2 48 [.ref ob, .int p1] (dC, dI) (tyS cyI cyC cyO) (wX3 cyI cyC ob a1 a2 a3 v_ones v_twos v_settings v_tick v_energy v_valuesPut) r := by
  refine metRI_of (by decide) (Nat.le_of_ble_eq_true rfl) ?_
  intro p e s m below meth c ls hC hr hlk hP hK hl
  have hC : CallFix p m c cX3_kind 2 s [.ref ob, .int p1].toArray wA RX3 := hC
  obtain ⟨hx, hb, hml, hown, hts⟩ := id hC
  have hS : va_S kF s.heap s.heap [] := va_S.rf
  have hl : lv_has ls 2 [(0, .ref ob), (1, .int p1)] := hl
  have h := hf
  unfold fX3_kind at h
  obtain ⟨H, hH⟩ : ∃ H, H = s.heap := ⟨_, rfl⟩
  obtain ⟨locs, hlo⟩ : ∃ locs : List Loc, locs = [] := ⟨_, rfl⟩
  rw [← hH] at hP
  rw [← hlo] at hS
  have hS : va_S kF s.heap H locs := by rw [hH]; exact hS
  show W p l e (k_rm 2 48) s m [.ref ob, .int p1].toArray below meth c s.heap [] 0 0 _ _
  rw [← hlo, ← hH]
  refine lv_aload_n hx hb dX3_kind_0 rfl (lv_at hl 0 rfl) ?_
  refine lv_iload_n hx hb dX3_kind_1 rfl (lv_at hl 1 rfl) ?_
  obtain ⟨x1, hc2, h⟩ := k_b1_e h
  refine g_callRI_V (As := [.int p1]) (rest := []) hC (mX3_read l dC dI cyI cyC cyO ob a1 a2 a3 v_ones v_twos v_settings v_tick v_energy v_valuesPut p1 hc2) q139 q140 q141 q9 q142 1 hdX3_read ⟨Nat.le_of_ble_eq_true rfl, Nat.le_of_ble_eq_true rfl⟩ ⟨Nat.le_of_ble_eq_true rfl, Nat.le_of_ble_eq_true rfl⟩ rfl rfl hl.1 (Nat.le_of_ble_eq_true rfl) hP hK (va_recv hK hP (ci := 2) (q0 := 0) rfl rfl) hS dX3_kind_2 (fun H locs hk hS => ?_)
  have hP := k_kept hP hk
  obtain ⟨x2, hc5, h⟩ := k_b1_e h
  refine g_callRI_S (As := [.int x1]) (rest := []) hC (mX0_kindOf l dC dI cyI cyC cyO x1 hc5) q161 q162 q17 q163 1 hdX0_kindOf ⟨Nat.le_of_ble_eq_true rfl, Nat.le_of_ble_eq_true rfl⟩ ⟨Nat.le_of_ble_eq_true rfl, Nat.le_of_ble_eq_true rfl⟩ rfl rfl hl.1 (Nat.le_of_ble_eq_true rfl) va_P_nil hK hS dX3_kind_5 (fun H locs hk hS => ?_)
  have hP := k_kept hP hk
  exact g_retRI hx hb hr hlk hS h dX3_kind_8
def fX3_isLocked (v_ones : Nat → Int32) (v_twos : Nat → Int32) (v_tick : Int32) (p1 : Int32) : Option (Int32) :=
  k_b1 (fX3_readAt v_ones v_twos p1 v_tick 1) fun (x1 : Int32) =>
  k_let (x1 >>> (15 &&& 31)) fun (x2 : Int32) =>
  k_let (x2 &&& 1) fun (x3 : Int32) =>
  k_if (x3 = 1)
  (
    some 1)
  (
    some 0)
theorem hdX3_isLocked : yX3_isLocked.cls = RX3 ∧ yX3_isLocked.cls ≠ "java/lang/invoke/MethodHandle" ∧ yX3_isLocked.cls ≠ "java/lang/invoke/VarHandle" ∧ (parseMethodDescriptor yX3_isLocked.desc).map (fun d => d.parameters.length) = some 1 := by decide +kernel
set_option maxRecDepth 100000 in
set_option maxHeartbeats 4000000 in
theorem mX3_isLocked (l : Launch) (dC : Nat → ClassId) (dI : Nat → Nat → Nat) (cyI cyC cyO : ClassId) (ob : Nat) (a1 : Nat) (a2 : Nat) (a3 : Nat) (v_ones : Nat → Int32) (v_twos : Nat → Int32) (v_settings : Nat → Int32) (v_tick : Int32) (v_energy : Int32) (v_valuesPut : Int32) (p1 : Int32) {r : Int32} (hf : fX3_isLocked v_ones v_twos v_tick p1 = some r) : MetRI l yX3_isLocked cX3_isLocked 2 (some .boolean) 1 27 [.ref ob, .int p1] (dC, dI) (tyS cyI cyC cyO) (wX3 cyI cyC ob a1 a2 a3 v_ones v_twos v_settings v_tick v_energy v_valuesPut) r := by
  refine metRI_of (by decide) (Nat.le_of_ble_eq_true rfl) ?_
  intro p e s m below meth c ls hC hr hlk hP hK hl
  have hC : CallFix p m c cX3_isLocked 2 s [.ref ob, .int p1].toArray wA RX3 := hC
  obtain ⟨hx, hb, hml, hown, hts⟩ := id hC
  have hS : va_S kF s.heap s.heap [] := va_S.rf
  have hl : lv_has ls 2 [(0, .ref ob), (1, .int p1)] := hl
  have h := hf
  unfold fX3_isLocked at h
  obtain ⟨H, hH⟩ : ∃ H, H = s.heap := ⟨_, rfl⟩
  obtain ⟨locs, hlo⟩ : ∃ locs : List Loc, locs = [] := ⟨_, rfl⟩
  rw [← hH] at hP
  rw [← hlo] at hS
  have hS : va_S kF s.heap H locs := by rw [hH]; exact hS
  show W p l e (k_rm 1 27) s m [.ref ob, .int p1].toArray below meth c s.heap [] 0 0 _ _
  rw [← hlo, ← hH]
  refine lv_aload_n hx hb dX3_isLocked_0 rfl (lv_at hl 0 rfl) ?_
  refine lv_iload_n hx hb dX3_isLocked_1 rfl (lv_at hl 1 rfl) ?_
  refine lv_aload_n hx hb dX3_isLocked_2 rfl (lv_at hl 0 rfl) ?_
  refine va_get (D := (dC, dI)) (ci := 2) (v := .int v_tick) (C := RX3) (T := TX3) (N := 6) hx hb hts iaX3 hown hK hP 0 rfl rfl 3 (by decide) (hts _ q42) (fun _ h9 => h9) rfl dX3_isLocked_3 ?_
  refine lv_iconst (v := 1) hx hb dX3_isLocked_6 (by decide) ?_
  obtain ⟨x1, hc7, h⟩ := k_b1_e h
  refine g_callRI_V (As := [.int p1, .int v_tick, .int 1]) (rest := []) hC (mX3_readAt l dC dI cyI cyC cyO ob a1 a2 a3 v_ones v_twos v_settings v_tick v_energy v_valuesPut p1 v_tick 1 hc7) q147 q148 q149 q9 q150 3 hdX3_readAt ⟨Nat.le_of_ble_eq_true rfl, Nat.le_of_ble_eq_true rfl⟩ ⟨Nat.le_of_ble_eq_true rfl, Nat.le_of_ble_eq_true rfl⟩ rfl rfl hl.1 (Nat.le_of_ble_eq_true rfl) hP hK (va_recv hK hP (ci := 2) (q0 := 0) rfl rfl) hS dX3_isLocked_7 (fun H locs hk hS => ?_)
  have hP := k_kept hP hk
  refine lv_bipush (v := 15) hx hb dX3_isLocked_10 (by decide) ?_
  refine g_ishr hx hb dX3_isLocked_12 h (fun x2 h => ?_)
  refine lv_iconst (v := 1) hx hb dX3_isLocked_13 (by decide) ?_
  refine g_iand hx hb dX3_isLocked_14 h (fun x3 h => ?_)
  refine lv_iconst (v := 1) hx hb dX3_isLocked_15 (by decide) ?_
  refine g_icmp_ne (tgt := 23) hx hb dX3_isLocked_16 (by decide) h (fun h => ?_) (fun h => ?_)
  · refine lv_iconst (v := 0) hx hb dX3_isLocked_23 (by decide) ?_
    exact g_retRZ hx hb hr (by decide +kernel) hlk hS h dX3_isLocked_24
  · refine lv_iconst (v := 1) hx hb dX3_isLocked_19 (by decide) ?_
    refine lv_goto (tgt := 24) hx hb dX3_isLocked_20 (by decide) ?_
    exact g_retRZ hx hb hr (by decide +kernel) hlk hS h dX3_isLocked_24
def fX3_doubtfulFuses (v_ones : Nat → Int32) (v_twos : Nat → Int32) (p1 : Int32) : Option (Int32) :=
  k_ck p1 20 <| k_let (v_ones p1.toNatClampNeg) fun (x1 : Int32) =>
  k_ck p1 20 <| k_let (v_twos p1.toNatClampNeg) fun (x2 : Int32) =>
  k_let (x1 ^^^ x2) fun (x3 : Int32) =>
  k_b1 (fJ6_bitCount_0f7a4 x3) fun (x4 : Int32) =>
  some x4
theorem hdX3_doubtfulFuses : yX3_doubtfulFuses.cls = RX3 ∧ yX3_doubtfulFuses.cls ≠ "java/lang/invoke/MethodHandle" ∧ yX3_doubtfulFuses.cls ≠ "java/lang/invoke/VarHandle" ∧ (parseMethodDescriptor yX3_doubtfulFuses.desc).map (fun d => d.parameters.length) = some 1 := by decide +kernel
set_option maxRecDepth 100000 in
set_option maxHeartbeats 4000000 in
theorem mX3_doubtfulFuses (l : Launch) (dC : Nat → ClassId) (dI : Nat → Nat → Nat) (cyI cyC cyO : ClassId) (ob : Nat) (a1 : Nat) (a2 : Nat) (a3 : Nat) (v_ones : Nat → Int32) (v_twos : Nat → Int32) (v_settings : Nat → Int32) (v_tick : Int32) (v_energy : Int32) (v_valuesPut : Int32) (p1 : Int32) {r : Int32} (hf : fX3_doubtfulFuses v_ones v_twos p1 = some r) : MetRI l yX3_doubtfulFuses cX3_doubtfulFuses 2 (some .int) 1 20 [.ref ob, .int p1] (dC, dI) (tyS cyI cyC cyO) (wX3 cyI cyC ob a1 a2 a3 v_ones v_twos v_settings v_tick v_energy v_valuesPut) r := by
  refine metRI_of (by decide) (Nat.le_of_ble_eq_true rfl) ?_
  intro p e s m below meth c ls hC hr hlk hP hK hl
  have hC : CallFix p m c cX3_doubtfulFuses 2 s [.ref ob, .int p1].toArray wA RX3 := hC
  obtain ⟨hx, hb, hml, hown, hts⟩ := id hC
  have hS : va_S kF s.heap s.heap [] := va_S.rf
  have hl : lv_has ls 2 [(0, .ref ob), (1, .int p1)] := hl
  have h := hf
  unfold fX3_doubtfulFuses at h
  obtain ⟨H, hH⟩ : ∃ H, H = s.heap := ⟨_, rfl⟩
  obtain ⟨locs, hlo⟩ : ∃ locs : List Loc, locs = [] := ⟨_, rfl⟩
  rw [← hH] at hP
  rw [← hlo] at hS
  have hS : va_S kF s.heap H locs := by rw [hH]; exact hS
  show W p l e (k_rm 1 20) s m [.ref ob, .int p1].toArray below meth c s.heap [] 0 0 _ _
  rw [← hlo, ← hH]
  refine lv_aload_n hx hb dX3_doubtfulFuses_0 rfl (lv_at hl 0 rfl) ?_
  refine va_get (D := (dC, dI)) (ci := 2) (v := .ref a1) (C := RX3) (T := TX3) (N := 6) hx hb hts iaX3 hown hK hP 0 rfl rfl 0 (by decide) (hts _ q36) (fun _ h9 => h9) rfl dX3_doubtfulFuses_1 ?_
  refine lv_iload_n hx hb dX3_doubtfulFuses_4 rfl (lv_at hl 1 rfl) ?_
  refine g_iald hx hb hK hP 1 0 rfl rfl dX3_doubtfulFuses_5 h (fun x1 h => ?_)
  refine lv_aload_n hx hb dX3_doubtfulFuses_6 rfl (lv_at hl 0 rfl) ?_
  refine va_get (D := (dC, dI)) (ci := 2) (v := .ref a2) (C := RX3) (T := TX3) (N := 6) hx hb hts iaX3 hown hK hP 0 rfl rfl 1 (by decide) (hts _ q38) (fun _ h9 => h9) rfl dX3_doubtfulFuses_7 ?_
  refine lv_iload_n hx hb dX3_doubtfulFuses_10 rfl (lv_at hl 1 rfl) ?_
  refine g_iald hx hb hK hP 2 0 rfl rfl dX3_doubtfulFuses_11 h (fun x2 h => ?_)
  refine g_ixor hx hb dX3_doubtfulFuses_12 h (fun x3 h => ?_)
  obtain ⟨x4, hc13, h⟩ := k_b1_e h
  refine g_callRI_S (As := [.int x3]) (rest := []) hC (mJ6_bitCount_0f7a4 l dC dI cyI cyC cyO x3 hc13) q252 q165 q12 q166 1 hdJ6_bitCount_0f7a4 ⟨Nat.le_of_ble_eq_true rfl, Nat.le_of_ble_eq_true rfl⟩ ⟨Nat.le_of_ble_eq_true rfl, Nat.le_of_ble_eq_true rfl⟩ rfl rfl hl.1 (Nat.le_of_ble_eq_true rfl) va_P_nil hK hS dX3_doubtfulFuses_13 (fun H locs hk hS => ?_)
  have hP := k_kept hP hk
  exact g_retRI hx hb hr hlk hS h dX3_doubtfulFuses_16
def fX3_strengthSum (v_ones : Nat → Int32) (v_twos : Nat → Int32) (p1 : Int32) : Option (Int32) :=
  k_ck p1 20 <| k_let (v_ones p1.toNatClampNeg) fun (x1 : Int32) =>
  k_b1 (fJ6_bitCount_0f7a4 x1) fun (x2 : Int32) =>
  k_ck p1 20 <| k_let (v_twos p1.toNatClampNeg) fun (x3 : Int32) =>
  k_b1 (fJ6_bitCount_0f7a4 x3) fun (x4 : Int32) =>
  k_let (2 * x4) fun (x5 : Int32) =>
  k_let (x2 + x5) fun (x6 : Int32) =>
  some x6
theorem hdX3_strengthSum : yX3_strengthSum.cls = RX3 ∧ yX3_strengthSum.cls ≠ "java/lang/invoke/MethodHandle" ∧ yX3_strengthSum.cls ≠ "java/lang/invoke/VarHandle" ∧ (parseMethodDescriptor yX3_strengthSum.desc).map (fun d => d.parameters.length) = some 1 := by decide +kernel
set_option maxRecDepth 100000 in
set_option maxHeartbeats 4000000 in
theorem mX3_strengthSum (l : Launch) (dC : Nat → ClassId) (dI : Nat → Nat → Nat) (cyI cyC cyO : ClassId) (ob : Nat) (a1 : Nat) (a2 : Nat) (a3 : Nat) (v_ones : Nat → Int32) (v_twos : Nat → Int32) (v_settings : Nat → Int32) (v_tick : Int32) (v_energy : Int32) (v_valuesPut : Int32) (p1 : Int32) {r : Int32} (hf : fX3_strengthSum v_ones v_twos p1 = some r) : MetRI l yX3_strengthSum cX3_strengthSum 2 (some .int) 1 20 [.ref ob, .int p1] (dC, dI) (tyS cyI cyC cyO) (wX3 cyI cyC ob a1 a2 a3 v_ones v_twos v_settings v_tick v_energy v_valuesPut) r := by
  refine metRI_of (by decide) (Nat.le_of_ble_eq_true rfl) ?_
  intro p e s m below meth c ls hC hr hlk hP hK hl
  have hC : CallFix p m c cX3_strengthSum 2 s [.ref ob, .int p1].toArray wA RX3 := hC
  obtain ⟨hx, hb, hml, hown, hts⟩ := id hC
  have hS : va_S kF s.heap s.heap [] := va_S.rf
  have hl : lv_has ls 2 [(0, .ref ob), (1, .int p1)] := hl
  have h := hf
  unfold fX3_strengthSum at h
  obtain ⟨H, hH⟩ : ∃ H, H = s.heap := ⟨_, rfl⟩
  obtain ⟨locs, hlo⟩ : ∃ locs : List Loc, locs = [] := ⟨_, rfl⟩
  rw [← hH] at hP
  rw [← hlo] at hS
  have hS : va_S kF s.heap H locs := by rw [hH]; exact hS
  show W p l e (k_rm 1 20) s m [.ref ob, .int p1].toArray below meth c s.heap [] 0 0 _ _
  rw [← hlo, ← hH]
  refine lv_aload_n hx hb dX3_strengthSum_0 rfl (lv_at hl 0 rfl) ?_
  refine va_get (D := (dC, dI)) (ci := 2) (v := .ref a1) (C := RX3) (T := TX3) (N := 6) hx hb hts iaX3 hown hK hP 0 rfl rfl 0 (by decide) (hts _ q36) (fun _ h9 => h9) rfl dX3_strengthSum_1 ?_
  refine lv_iload_n hx hb dX3_strengthSum_4 rfl (lv_at hl 1 rfl) ?_
  refine g_iald hx hb hK hP 1 0 rfl rfl dX3_strengthSum_5 h (fun x1 h => ?_)
  obtain ⟨x2, hc6, h⟩ := k_b1_e h
  refine g_callRI_S (As := [.int x1]) (rest := []) hC (mJ6_bitCount_0f7a4 l dC dI cyI cyC cyO x1 hc6) q252 q165 q12 q166 1 hdJ6_bitCount_0f7a4 ⟨Nat.le_of_ble_eq_true rfl, Nat.le_of_ble_eq_true rfl⟩ ⟨Nat.le_of_ble_eq_true rfl, Nat.le_of_ble_eq_true rfl⟩ rfl rfl hl.1 (Nat.le_of_ble_eq_true rfl) va_P_nil hK hS dX3_strengthSum_6 (fun H locs hk hS => ?_)
  have hP := k_kept hP hk
  refine lv_iconst (v := 2) hx hb dX3_strengthSum_9 (by decide) ?_
  refine lv_aload_n hx hb dX3_strengthSum_10 rfl (lv_at hl 0 rfl) ?_
  refine va_get (D := (dC, dI)) (ci := 2) (v := .ref a2) (C := RX3) (T := TX3) (N := 6) hx hb hts iaX3 hown hK hP 0 rfl rfl 1 (by decide) (hts _ q38) (fun _ h9 => h9) rfl dX3_strengthSum_11 ?_
  refine lv_iload_n hx hb dX3_strengthSum_14 rfl (lv_at hl 1 rfl) ?_
  refine g_iald hx hb hK hP 2 0 rfl rfl dX3_strengthSum_15 h (fun x3 h => ?_)
  obtain ⟨x4, hc16, h⟩ := k_b1_e h
  refine g_callRI_S (As := [.int x3]) (rest := [.int 2, .int x2]) hC (mJ6_bitCount_0f7a4 l dC dI cyI cyC cyO x3 hc16) q252 q165 q12 q166 1 hdJ6_bitCount_0f7a4 ⟨Nat.le_of_ble_eq_true rfl, Nat.le_of_ble_eq_true rfl⟩ ⟨Nat.le_of_ble_eq_true rfl, Nat.le_of_ble_eq_true rfl⟩ rfl rfl hl.1 (Nat.le_of_ble_eq_true rfl) va_P_nil hK hS dX3_strengthSum_16 (fun H locs hk hS => ?_)
  have hP := k_kept hP hk
  refine g_imul hx hb dX3_strengthSum_19 h (fun x5 h => ?_)
  refine g_iadd hx hb dX3_strengthSum_20 h (fun x6 h => ?_)
  exact g_retRI hx hb hr hlk hS h dX3_strengthSum_21
def fX3_allDoubtfulFuses_s4 (v_ones : Nat → Int32) (v_twos : Nat → Int32) (rec4 : Int32 → Int32 → Option (Int32)) (x1 : Int32) (x2 : Int32) : Option (Int32) :=
  k_if (20 ≤ x2)
  (
    some x1)
  (
    k_b1 (fX3_doubtfulFuses v_ones v_twos x2) fun (x3 : Int32) =>
    k_let (x1 + x3) fun (x4 : Int32) =>
    k_let (x2 + 1) fun (x5 : Int32) =>
    rec4 x4 x5)
def fX3_allDoubtfulFuses (v_ones : Nat → Int32) (v_twos : Nat → Int32) : Option (Int32) :=
  k_l2 (fX3_allDoubtfulFuses_s4 v_ones v_twos) 5000 0 0
theorem hdX3_allDoubtfulFuses : yX3_allDoubtfulFuses.cls = RX3 ∧ yX3_allDoubtfulFuses.cls ≠ "java/lang/invoke/MethodHandle" ∧ yX3_allDoubtfulFuses.cls ≠ "java/lang/invoke/VarHandle" ∧ (parseMethodDescriptor yX3_allDoubtfulFuses.desc).map (fun d => d.parameters.length) = some 0 := by decide +kernel
set_option maxRecDepth 100000 in
set_option maxHeartbeats 4000000 in
theorem mX3_allDoubtfulFuses (l : Launch) (dC : Nat → ClassId) (dI : Nat → Nat → Nat) (cyI cyC cyO : ClassId) (ob : Nat) (a1 : Nat) (a2 : Nat) (a3 : Nat) (v_ones : Nat → Int32) (v_twos : Nat → Int32) (v_settings : Nat → Int32) (v_tick : Int32) (v_energy : Int32) (v_valuesPut : Int32)  {r : Int32} (hf : fX3_allDoubtfulFuses v_ones v_twos = some r) : MetRI l yX3_allDoubtfulFuses cX3_allDoubtfulFuses 3 (some .int) 2 41 [.ref ob] (dC, dI) (tyS cyI cyC cyO) (wX3 cyI cyC ob a1 a2 a3 v_ones v_twos v_settings v_tick v_energy v_valuesPut) r := by
  refine metRI_of (by decide) (Nat.le_of_ble_eq_true rfl) ?_
  intro p e s m below meth c ls hC hr hlk hP hK hl
  have hC : CallFix p m c cX3_allDoubtfulFuses 3 s [.ref ob].toArray wA RX3 := hC
  obtain ⟨hx, hb, hml, hown, hts⟩ := id hC
  have hS : va_S kF s.heap s.heap [] := va_S.rf
  have hl : lv_has ls 3 [(0, .ref ob)] := hl
  have h := hf
  unfold fX3_allDoubtfulFuses at h
  obtain ⟨H, hH⟩ : ∃ H, H = s.heap := ⟨_, rfl⟩
  obtain ⟨locs, hlo⟩ : ∃ locs : List Loc, locs = [] := ⟨_, rfl⟩
  rw [← hH] at hP
  rw [← hlo] at hS
  have hS : va_S kF s.heap H locs := by rw [hH]; exact hS
  show W p l e (k_rm 2 41) s m [.ref ob].toArray below meth c s.heap [] 0 0 _ _
  rw [← hlo, ← hH]
  refine lv_iconst (v := 0) hx hb dX3_allDoubtfulFuses_0 (by decide) ?_
  refine lv_istore_n (lv' := [(1, .int 0), (0, .ref ob)]) hx hb dX3_allDoubtfulFuses_1 rfl hl (by decide) rfl (fun ls hl => ?_)
  refine lv_iconst (v := 0) hx hb dX3_allDoubtfulFuses_2 (by decide) ?_
  refine lv_istore_n (lv' := [(2, .int 0), (1, .int 0), (0, .ref ob)]) hx hb dX3_allDoubtfulFuses_3 rfl hl (by decide) rfl (fun ls hl => ?_)
  obtain ⟨S4, hS4⟩ : ∃ z, z = (fX3_allDoubtfulFuses_s4 v_ones v_twos) := ⟨_, rfl⟩
  rw [← hS4] at h
  have L4 : ∀ (n : Nat) (x1 : Int32) (x2 : Int32) (H : Heap) (locs : List Loc) (ls : Array Slot), k_l2 S4 n x1 x2 = some r → va_P (dC, dI) vwCl (wX3 cyI cyC ob a1 a2 a3 v_ones v_twos v_settings v_tick v_energy v_valuesPut) H → va_S kF s.heap H locs → lv_has ls 3 [(0, .ref ob), (1, .int x1), (2, .int x2)] → W p l e (k_rm 2 41) s m [.ref ob].toArray below meth c H locs 0 0 (MQ below (qRI r) [.ref ob].toArray s 0 0 kF) (F0 m 4 ls []) := by
    intro n
    induction n with
    | zero =>
      intro x1 x2 H locs ls h
      exact (k_l2_0 h).elim
    | succ n ih4 =>
      intro x1 x2 H locs ls h hP hS hl
      have h := k_l2_s h
      have h := k_a3 hS4 h
      unfold fX3_allDoubtfulFuses_s4 at h
      refine lv_iload_n hx hb dX3_allDoubtfulFuses_4 rfl (lv_at hl 2 rfl) ?_
      refine lv_bipush (v := 20) hx hb dX3_allDoubtfulFuses_5 (by decide) ?_
      refine g_icmp_ge (tgt := 24) hx hb dX3_allDoubtfulFuses_7 (by decide) h (fun h => ?_) (fun h => ?_)
      · refine lv_iload_n hx hb dX3_allDoubtfulFuses_24 rfl (lv_at hl 1 rfl) ?_
        exact g_retRI hx hb hr hlk hS h dX3_allDoubtfulFuses_25
      · refine lv_iload_n hx hb dX3_allDoubtfulFuses_10 rfl (lv_at hl 1 rfl) ?_
        refine lv_aload_n hx hb dX3_allDoubtfulFuses_11 rfl (lv_at hl 0 rfl) ?_
        refine lv_iload_n hx hb dX3_allDoubtfulFuses_12 rfl (lv_at hl 2 rfl) ?_
        obtain ⟨x3, hc13, h⟩ := k_b1_e h
        refine g_callRI_V (As := [.int x2]) (rest := [.int x1]) hC (mX3_doubtfulFuses l dC dI cyI cyC cyO ob a1 a2 a3 v_ones v_twos v_settings v_tick v_energy v_valuesPut x2 hc13) q310 q249 q250 q9 q251 1 hdX3_doubtfulFuses ⟨Nat.le_of_ble_eq_true rfl, Nat.le_of_ble_eq_true rfl⟩ ⟨Nat.le_of_ble_eq_true rfl, Nat.le_of_ble_eq_true rfl⟩ rfl rfl hl.1 (Nat.le_of_ble_eq_true rfl) hP hK (va_recv hK hP (ci := 2) (q0 := 0) rfl rfl) hS dX3_allDoubtfulFuses_13 (fun H locs hk hS => ?_)
        have hP := k_kept hP hk
        refine g_iadd hx hb dX3_allDoubtfulFuses_16 h (fun x4 h => ?_)
        refine lv_istore_n (lv' := [(1, .int x4), (0, .ref ob), (2, .int x2)]) hx hb dX3_allDoubtfulFuses_17 rfl hl (by decide) rfl (fun ls hl => ?_)
        refine g_iinc (dv := 1) hx hb dX3_allDoubtfulFuses_18 hl (j := 2) rfl (by decide) (by decide) h (fun x5 ls h hl => ?_)
        have hl : lv_has ls 3 [(2, .int x5), (1, .int x4), (0, .ref ob)] := hl
        refine lv_goto (tgt := 4) hx hb dX3_allDoubtfulFuses_21 (by decide) ?_
        exact ih4 x4 x5 _ _ _ h hP hS (lv_sub hl [2, 1, 0] rfl)
  exact L4 5000 0 0 _ _ _ h hP hS (lv_sub hl [2, 1, 0] rfl)
def fX3_lockedRows_s4 (v_ones : Nat → Int32) (v_twos : Nat → Int32) (v_tick : Int32) (rec4 : Int32 → Int32 → Option (Int32)) (x1 : Int32) (x2 : Int32) : Option (Int32) :=
  k_if (20 ≤ x2)
  (
    some x1)
  (
    k_b1 (fX3_isLocked v_ones v_twos v_tick x2) fun (x3 : Int32) =>
    k_j1
    (fun (x4 : Int32) =>
      k_let (x1 + x4) fun (x5 : Int32) =>
      k_let (x2 + 1) fun (x6 : Int32) =>
      rec4 x5 x6)
    (fun K24 =>
    k_if (x3 = 0)
    (
      K24 0)
    (
      K24 1)))
def fX3_lockedRows (v_ones : Nat → Int32) (v_twos : Nat → Int32) (v_tick : Int32) : Option (Int32) :=
  k_l2 (fX3_lockedRows_s4 v_ones v_twos v_tick) 5000 0 0
theorem hdX3_lockedRows : yX3_lockedRows.cls = RX3 ∧ yX3_lockedRows.cls ≠ "java/lang/invoke/MethodHandle" ∧ yX3_lockedRows.cls ≠ "java/lang/invoke/VarHandle" ∧ (parseMethodDescriptor yX3_lockedRows.desc).map (fun d => d.parameters.length) = some 0 := by decide +kernel
set_option maxRecDepth 100000 in
set_option maxHeartbeats 4000000 in
theorem mX3_lockedRows (l : Launch) (dC : Nat → ClassId) (dI : Nat → Nat → Nat) (cyI cyC cyO : ClassId) (ob : Nat) (a1 : Nat) (a2 : Nat) (a3 : Nat) (v_ones : Nat → Int32) (v_twos : Nat → Int32) (v_settings : Nat → Int32) (v_tick : Int32) (v_energy : Int32) (v_valuesPut : Int32)  {r : Int32} (hf : fX3_lockedRows v_ones v_twos v_tick = some r) : MetRI l yX3_lockedRows cX3_lockedRows 3 (some .int) 2 48 [.ref ob] (dC, dI) (tyS cyI cyC cyO) (wX3 cyI cyC ob a1 a2 a3 v_ones v_twos v_settings v_tick v_energy v_valuesPut) r := by
  refine metRI_of (by decide) (Nat.le_of_ble_eq_true rfl) ?_
  intro p e s m below meth c ls hC hr hlk hP hK hl
  have hC : CallFix p m c cX3_lockedRows 3 s [.ref ob].toArray wA RX3 := hC
  obtain ⟨hx, hb, hml, hown, hts⟩ := id hC
  have hS : va_S kF s.heap s.heap [] := va_S.rf
  have hl : lv_has ls 3 [(0, .ref ob)] := hl
  have h := hf
  unfold fX3_lockedRows at h
  obtain ⟨H, hH⟩ : ∃ H, H = s.heap := ⟨_, rfl⟩
  obtain ⟨locs, hlo⟩ : ∃ locs : List Loc, locs = [] := ⟨_, rfl⟩
  rw [← hH] at hP
  rw [← hlo] at hS
  have hS : va_S kF s.heap H locs := by rw [hH]; exact hS
  show W p l e (k_rm 2 48) s m [.ref ob].toArray below meth c s.heap [] 0 0 _ _
  rw [← hlo, ← hH]
  refine lv_iconst (v := 0) hx hb dX3_lockedRows_0 (by decide) ?_
  refine lv_istore_n (lv' := [(1, .int 0), (0, .ref ob)]) hx hb dX3_lockedRows_1 rfl hl (by decide) rfl (fun ls hl => ?_)
  refine lv_iconst (v := 0) hx hb dX3_lockedRows_2 (by decide) ?_
  refine lv_istore_n (lv' := [(2, .int 0), (1, .int 0), (0, .ref ob)]) hx hb dX3_lockedRows_3 rfl hl (by decide) rfl (fun ls hl => ?_)
  obtain ⟨S4, hS4⟩ : ∃ z, z = (fX3_lockedRows_s4 v_ones v_twos v_tick) := ⟨_, rfl⟩
  rw [← hS4] at h
  have L4 : ∀ (n : Nat) (x1 : Int32) (x2 : Int32) (H : Heap) (locs : List Loc) (ls : Array Slot), k_l2 S4 n x1 x2 = some r → va_P (dC, dI) vwCl (wX3 cyI cyC ob a1 a2 a3 v_ones v_twos v_settings v_tick v_energy v_valuesPut) H → va_S kF s.heap H locs → lv_has ls 3 [(0, .ref ob), (1, .int x1), (2, .int x2)] → W p l e (k_rm 2 48) s m [.ref ob].toArray below meth c H locs 0 0 (MQ below (qRI r) [.ref ob].toArray s 0 0 kF) (F0 m 4 ls []) := by
    intro n
    induction n with
    | zero =>
      intro x1 x2 H locs ls h
      exact (k_l2_0 h).elim
    | succ n ih4 =>
      intro x1 x2 H locs ls h hP hS hl
      have h := k_l2_s h
      have h := k_a3 hS4 h
      unfold fX3_lockedRows_s4 at h
      refine lv_iload_n hx hb dX3_lockedRows_4 rfl (lv_at hl 2 rfl) ?_
      refine lv_bipush (v := 20) hx hb dX3_lockedRows_5 (by decide) ?_
      refine g_icmp_ge (tgt := 32) hx hb dX3_lockedRows_7 (by decide) h (fun h => ?_) (fun h => ?_)
      · refine lv_iload_n hx hb dX3_lockedRows_32 rfl (lv_at hl 1 rfl) ?_
        exact g_retRI hx hb hr hlk hS h dX3_lockedRows_33
      · refine lv_iload_n hx hb dX3_lockedRows_10 rfl (lv_at hl 1 rfl) ?_
        refine lv_aload_n hx hb dX3_lockedRows_11 rfl (lv_at hl 0 rfl) ?_
        refine lv_iload_n hx hb dX3_lockedRows_12 rfl (lv_at hl 2 rfl) ?_
        obtain ⟨x3, hc13, h⟩ := k_b1_e h
        refine g_callRI_V (As := [.int x2]) (rest := [.int x1]) hC (mX3_isLocked l dC dI cyI cyC cyO ob a1 a2 a3 v_ones v_twos v_settings v_tick v_energy v_valuesPut x2 hc13) q154 q155 q156 q9 q157 1 hdX3_isLocked ⟨Nat.le_of_ble_eq_true rfl, Nat.le_of_ble_eq_true rfl⟩ ⟨Nat.le_of_ble_eq_true rfl, Nat.le_of_ble_eq_true rfl⟩ rfl rfl hl.1 (Nat.le_of_ble_eq_true rfl) hP hK (va_recv hK hP (ci := 2) (q0 := 0) rfl rfl) hS dX3_lockedRows_13 (fun H locs hk hS => ?_)
        have hP := k_kept hP hk
        obtain ⟨K24, hK24, h⟩ := k_j1_e h
        have J24 : ∀ (x4 : Int32) (H : Heap) (locs : List Loc) (ls : Array Slot), K24 x4 = some r → va_P (dC, dI) vwCl (wX3 cyI cyC ob a1 a2 a3 v_ones v_twos v_settings v_tick v_energy v_valuesPut) H → va_S kF s.heap H locs → lv_has ls 3 [(0, .ref ob), (2, .int x2)] → W p l e (k_rm 2 48) s m [.ref ob].toArray below meth c H locs 0 0 (MQ below (qRI r) [.ref ob].toArray s 0 0 kF) (F0 m 24 ls [.int x4, .int x1]) := by
          intro x4 H locs ls h hP hS hl
          have h := k_a1 hK24 h
          refine g_iadd hx hb dX3_lockedRows_24 h (fun x5 h => ?_)
          refine lv_istore_n (lv' := [(1, .int x5), (0, .ref ob), (2, .int x2)]) hx hb dX3_lockedRows_25 rfl hl (by decide) rfl (fun ls hl => ?_)
          refine g_iinc (dv := 1) hx hb dX3_lockedRows_26 hl (j := 2) rfl (by decide) (by decide) h (fun x6 ls h hl => ?_)
          have hl : lv_has ls 3 [(2, .int x6), (1, .int x5), (0, .ref ob)] := hl
          refine lv_goto (tgt := 4) hx hb dX3_lockedRows_29 (by decide) ?_
          exact ih4 x5 x6 _ _ _ h hP hS (lv_sub hl [2, 1, 0] rfl)
        refine g_if_eq (tgt := 23) hx hb dX3_lockedRows_16 (by decide) h (fun h => ?_) (fun h => ?_)
        · refine lv_iconst (v := 0) hx hb dX3_lockedRows_23 (by decide) ?_
          exact J24 0 _ _ _ h hP hS (lv_sub hl [0, 2] rfl)
        · refine lv_iconst (v := 1) hx hb dX3_lockedRows_19 (by decide) ?_
          refine lv_goto (tgt := 24) hx hb dX3_lockedRows_20 (by decide) ?_
          exact J24 1 _ _ _ h hP hS (lv_sub hl [0, 2] rfl)
  exact L4 5000 0 0 _ _ _ h hP hS (lv_sub hl [2, 1, 0] rfl)
def fX3_rowsOfKind_s4 (v_ones : Nat → Int32) (v_twos : Nat → Int32) (v_settings : Nat → Int32) (v_tick : Int32) (p1 : Int32) (rec4 : Int32 → Int32 → Option (Int32)) (x1 : Int32) (x2 : Int32) : Option (Int32) :=
  k_if (20 ≤ x2)
  (
    some x1)
  (
    k_b1 (fX3_kind v_ones v_twos v_settings v_tick x2) fun (x3 : Int32) =>
    k_j1
    (fun (x4 : Int32) =>
      k_let (x1 + x4) fun (x5 : Int32) =>
      k_let (x2 + 1) fun (x6 : Int32) =>
      rec4 x5 x6)
    (fun K25 =>
    k_if (x3 = p1)
    (
      K25 1)
    (
      K25 0)))
def fX3_rowsOfKind (v_ones : Nat → Int32) (v_twos : Nat → Int32) (v_settings : Nat → Int32) (v_tick : Int32) (p1 : Int32) : Option (Int32) :=
  k_l2 (fX3_rowsOfKind_s4 v_ones v_twos v_settings v_tick p1) 5000 0 0
theorem hdX3_rowsOfKind : yX3_rowsOfKind.cls = RX3 ∧ yX3_rowsOfKind.cls ≠ "java/lang/invoke/MethodHandle" ∧ yX3_rowsOfKind.cls ≠ "java/lang/invoke/VarHandle" ∧ (parseMethodDescriptor yX3_rowsOfKind.desc).map (fun d => d.parameters.length) = some 1 := by decide +kernel
set_option maxRecDepth 100000 in
set_option maxHeartbeats 4000000 in
theorem mX3_rowsOfKind (l : Launch) (dC : Nat → ClassId) (dI : Nat → Nat → Nat) (cyI cyC cyO : ClassId) (ob : Nat) (a1 : Nat) (a2 : Nat) (a3 : Nat) (v_ones : Nat → Int32) (v_twos : Nat → Int32) (v_settings : Nat → Int32) (v_tick : Int32) (v_energy : Int32) (v_valuesPut : Int32) (p1 : Int32) {r : Int32} (hf : fX3_rowsOfKind v_ones v_twos v_settings v_tick p1 = some r) : MetRI l yX3_rowsOfKind cX3_rowsOfKind 4 (some .int) 3 69 [.ref ob, .int p1] (dC, dI) (tyS cyI cyC cyO) (wX3 cyI cyC ob a1 a2 a3 v_ones v_twos v_settings v_tick v_energy v_valuesPut) r := by
  refine metRI_of (by decide) (Nat.le_of_ble_eq_true rfl) ?_
  intro p e s m below meth c ls hC hr hlk hP hK hl
  have hC : CallFix p m c cX3_rowsOfKind 4 s [.ref ob, .int p1].toArray wA RX3 := hC
  obtain ⟨hx, hb, hml, hown, hts⟩ := id hC
  have hS : va_S kF s.heap s.heap [] := va_S.rf
  have hl : lv_has ls 4 [(0, .ref ob), (1, .int p1)] := hl
  have h := hf
  unfold fX3_rowsOfKind at h
  obtain ⟨H, hH⟩ : ∃ H, H = s.heap := ⟨_, rfl⟩
  obtain ⟨locs, hlo⟩ : ∃ locs : List Loc, locs = [] := ⟨_, rfl⟩
  rw [← hH] at hP
  rw [← hlo] at hS
  have hS : va_S kF s.heap H locs := by rw [hH]; exact hS
  show W p l e (k_rm 3 69) s m [.ref ob, .int p1].toArray below meth c s.heap [] 0 0 _ _
  rw [← hlo, ← hH]
  refine lv_iconst (v := 0) hx hb dX3_rowsOfKind_0 (by decide) ?_
  refine lv_istore_n (lv' := [(2, .int 0), (0, .ref ob), (1, .int p1)]) hx hb dX3_rowsOfKind_1 rfl hl (by decide) rfl (fun ls hl => ?_)
  refine lv_iconst (v := 0) hx hb dX3_rowsOfKind_2 (by decide) ?_
  refine lv_istore_n (lv' := [(3, .int 0), (2, .int 0), (0, .ref ob), (1, .int p1)]) hx hb dX3_rowsOfKind_3 rfl hl (by decide) rfl (fun ls hl => ?_)
  obtain ⟨S4, hS4⟩ : ∃ z, z = (fX3_rowsOfKind_s4 v_ones v_twos v_settings v_tick p1) := ⟨_, rfl⟩
  rw [← hS4] at h
  have L4 : ∀ (n : Nat) (x1 : Int32) (x2 : Int32) (H : Heap) (locs : List Loc) (ls : Array Slot), k_l2 S4 n x1 x2 = some r → va_P (dC, dI) vwCl (wX3 cyI cyC ob a1 a2 a3 v_ones v_twos v_settings v_tick v_energy v_valuesPut) H → va_S kF s.heap H locs → lv_has ls 4 [(0, .ref ob), (1, .int p1), (2, .int x1), (3, .int x2)] → W p l e (k_rm 3 69) s m [.ref ob, .int p1].toArray below meth c H locs 0 0 (MQ below (qRI r) [.ref ob, .int p1].toArray s 0 0 kF) (F0 m 4 ls []) := by
    intro n
    induction n with
    | zero =>
      intro x1 x2 H locs ls h
      exact (k_l2_0 h).elim
    | succ n ih4 =>
      intro x1 x2 H locs ls h hP hS hl
      have h := k_l2_s h
      have h := k_a3 hS4 h
      unfold fX3_rowsOfKind_s4 at h
      refine lv_iload_n hx hb dX3_rowsOfKind_4 rfl (lv_at hl 3 rfl) ?_
      refine lv_bipush (v := 20) hx hb dX3_rowsOfKind_5 (by decide) ?_
      refine g_icmp_ge (tgt := 33) hx hb dX3_rowsOfKind_7 (by decide) h (fun h => ?_) (fun h => ?_)
      · refine lv_iload_n hx hb dX3_rowsOfKind_33 rfl (lv_at hl 2 rfl) ?_
        exact g_retRI hx hb hr hlk hS h dX3_rowsOfKind_34
      · refine lv_iload_n hx hb dX3_rowsOfKind_10 rfl (lv_at hl 2 rfl) ?_
        refine lv_aload_n hx hb dX3_rowsOfKind_11 rfl (lv_at hl 0 rfl) ?_
        refine lv_iload_n hx hb dX3_rowsOfKind_12 rfl (lv_at hl 3 rfl) ?_
        obtain ⟨x3, hc13, h⟩ := k_b1_e h
        refine g_callRI_V (As := [.int x2]) (rest := [.int x1]) hC (mX3_kind l dC dI cyI cyC cyO ob a1 a2 a3 v_ones v_twos v_settings v_tick v_energy v_valuesPut x2 hc13) q319 q320 q321 q9 q322 1 hdX3_kind ⟨Nat.le_of_ble_eq_true rfl, Nat.le_of_ble_eq_true rfl⟩ ⟨Nat.le_of_ble_eq_true rfl, Nat.le_of_ble_eq_true rfl⟩ rfl rfl hl.1 (Nat.le_of_ble_eq_true rfl) hP hK (va_recv hK hP (ci := 2) (q0 := 0) rfl rfl) hS dX3_rowsOfKind_13 (fun H locs hk hS => ?_)
        have hP := k_kept hP hk
        refine lv_iload_n hx hb dX3_rowsOfKind_16 rfl (lv_at hl 1 rfl) ?_
        obtain ⟨K25, hK25, h⟩ := k_j1_e h
        have J25 : ∀ (x4 : Int32) (H : Heap) (locs : List Loc) (ls : Array Slot), K25 x4 = some r → va_P (dC, dI) vwCl (wX3 cyI cyC ob a1 a2 a3 v_ones v_twos v_settings v_tick v_energy v_valuesPut) H → va_S kF s.heap H locs → lv_has ls 4 [(0, .ref ob), (1, .int p1), (3, .int x2)] → W p l e (k_rm 3 69) s m [.ref ob, .int p1].toArray below meth c H locs 0 0 (MQ below (qRI r) [.ref ob, .int p1].toArray s 0 0 kF) (F0 m 25 ls [.int x4, .int x1]) := by
          intro x4 H locs ls h hP hS hl
          have h := k_a1 hK25 h
          refine g_iadd hx hb dX3_rowsOfKind_25 h (fun x5 h => ?_)
          refine lv_istore_n (lv' := [(2, .int x5), (0, .ref ob), (1, .int p1), (3, .int x2)]) hx hb dX3_rowsOfKind_26 rfl hl (by decide) rfl (fun ls hl => ?_)
          refine g_iinc (dv := 1) hx hb dX3_rowsOfKind_27 hl (j := 3) rfl (by decide) (by decide) h (fun x6 ls h hl => ?_)
          have hl : lv_has ls 4 [(3, .int x6), (2, .int x5), (0, .ref ob), (1, .int p1)] := hl
          refine lv_goto (tgt := 4) hx hb dX3_rowsOfKind_30 (by decide) ?_
          exact ih4 x5 x6 _ _ _ h hP hS (lv_sub hl [2, 3, 1, 0] rfl)
        refine g_icmp_ne (tgt := 24) hx hb dX3_rowsOfKind_17 (by decide) h (fun h => ?_) (fun h => ?_)
        · refine lv_iconst (v := 0) hx hb dX3_rowsOfKind_24 (by decide) ?_
          exact J25 0 _ _ _ h hP hS (lv_sub hl [0, 1, 3] rfl)
        · refine lv_iconst (v := 1) hx hb dX3_rowsOfKind_20 (by decide) ?_
          refine lv_goto (tgt := 25) hx hb dX3_rowsOfKind_21 (by decide) ?_
          exact J25 1 _ _ _ h hP hS (lv_sub hl [0, 1, 3] rfl)
  exact L4 5000 0 0 _ _ _ h hP hS (lv_sub hl [2, 3, 1, 0] rfl)
def fX3_nextRow_s3 (K23 : Int32 → Option (Int32)) (v_ones : Nat → Int32) (v_twos : Nat → Int32) (v_settings : Nat → Int32) (v_tick : Int32) (rec3 : Int32 → Option (Int32)) (x3 : Int32) : Option (Int32) :=
  k_if (x3 ≤ 0)
  (
    K23 x3)
  (
    k_let (x3 - 1) fun (x4 : Int32) =>
    k_b1 (fX3_kind v_ones v_twos v_settings v_tick x4) fun (x5 : Int32) =>
    k_if (x5 = 0)
    (
      k_let (x3 + (-1)) fun (x6 : Int32) =>
      rec3 x6)
    (
      K23 x3))
def fX3_nextRow (v_ones : Nat → Int32) (v_twos : Nat → Int32) (v_settings : Nat → Int32) (v_tick : Int32) : Option (Int32) :=
  k_j1
  (fun (x1 : Int32) =>
    k_if (x1 = 20)
    (
      some ((-1)))
    (
      k_b1 (fX3_isLocked v_ones v_twos v_tick x1) fun (x2 : Int32) =>
      k_if (x2 = 0)
      (
        some x1)
      (
        some ((-1)))))
  (fun K23 =>
  k_l1 (fX3_nextRow_s3 K23 v_ones v_twos v_settings v_tick) 5000 20)
theorem hdX3_nextRow : yX3_nextRow.cls = RX3 ∧ yX3_nextRow.cls ≠ "java/lang/invoke/MethodHandle" ∧ yX3_nextRow.cls ≠ "java/lang/invoke/VarHandle" ∧ (parseMethodDescriptor yX3_nextRow.desc).map (fun d => d.parameters.length) = some 0 := by decide +kernel
set_option maxRecDepth 100000 in
set_option maxHeartbeats 4000000 in
theorem mX3_nextRow (l : Launch) (dC : Nat → ClassId) (dI : Nat → Nat → Nat) (cyI cyC cyO : ClassId) (ob : Nat) (a1 : Nat) (a2 : Nat) (a3 : Nat) (v_ones : Nat → Int32) (v_twos : Nat → Int32) (v_settings : Nat → Int32) (v_tick : Int32) (v_energy : Int32) (v_valuesPut : Int32)  {r : Int32} (hf : fX3_nextRow v_ones v_twos v_settings v_tick = some r) : MetRI l yX3_nextRow cX3_nextRow 2 (some .int) 3 69 [.ref ob] (dC, dI) (tyS cyI cyC cyO) (wX3 cyI cyC ob a1 a2 a3 v_ones v_twos v_settings v_tick v_energy v_valuesPut) r := by
  refine metRI_of (by decide) (Nat.le_of_ble_eq_true rfl) ?_
  intro p e s m below meth c ls hC hr hlk hP hK hl
  have hC : CallFix p m c cX3_nextRow 2 s [.ref ob].toArray wA RX3 := hC
  obtain ⟨hx, hb, hml, hown, hts⟩ := id hC
  have hS : va_S kF s.heap s.heap [] := va_S.rf
  have hl : lv_has ls 2 [(0, .ref ob)] := hl
  have h := hf
  unfold fX3_nextRow at h
  obtain ⟨H, hH⟩ : ∃ H, H = s.heap := ⟨_, rfl⟩
  obtain ⟨locs, hlo⟩ : ∃ locs : List Loc, locs = [] := ⟨_, rfl⟩
  rw [← hH] at hP
  rw [← hlo] at hS
  have hS : va_S kF s.heap H locs := by rw [hH]; exact hS
  show W p l e (k_rm 3 69) s m [.ref ob].toArray below meth c s.heap [] 0 0 _ _
  rw [← hlo, ← hH]
  refine lv_bipush (v := 20) hx hb dX3_nextRow_0 (by decide) ?_
  refine lv_istore_n (lv' := [(1, .int 20), (0, .ref ob)]) hx hb dX3_nextRow_2 rfl hl (by decide) rfl (fun ls hl => ?_)
  obtain ⟨K23, hK23, h⟩ := k_j1_e h
  have J23 : ∀ (x1 : Int32) (H : Heap) (locs : List Loc) (ls : Array Slot), K23 x1 = some r → va_P (dC, dI) vwCl (wX3 cyI cyC ob a1 a2 a3 v_ones v_twos v_settings v_tick v_energy v_valuesPut) H → va_S kF s.heap H locs → lv_has ls 2 [(0, .ref ob), (1, .int x1)] → W p l e (k_rm 3 69) s m [.ref ob].toArray below meth c H locs 0 0 (MQ below (qRI r) [.ref ob].toArray s 0 0 kF) (F0 m 23 ls []) := by
    intro x1 H locs ls h hP hS hl
    have h := k_a1 hK23 h
    refine lv_iload_n hx hb dX3_nextRow_23 rfl (lv_at hl 1 rfl) ?_
    refine lv_bipush (v := 20) hx hb dX3_nextRow_24 (by decide) ?_
    refine g_icmp_eq (tgt := 37) hx hb dX3_nextRow_26 (by decide) h (fun h => ?_) (fun h => ?_)
    · refine lv_iconst (v := (-1)) hx hb dX3_nextRow_37 (by decide) ?_
      refine lv_goto (tgt := 42) hx hb dX3_nextRow_38 (by decide) ?_
      exact g_retRI hx hb hr hlk hS h dX3_nextRow_42
    · refine lv_aload_n hx hb dX3_nextRow_29 rfl (lv_at hl 0 rfl) ?_
      refine lv_iload_n hx hb dX3_nextRow_30 rfl (lv_at hl 1 rfl) ?_
      obtain ⟨x2, hc31, h⟩ := k_b1_e h
      refine g_callRI_V (As := [.int x1]) (rest := []) hC (mX3_isLocked l dC dI cyI cyC cyO ob a1 a2 a3 v_ones v_twos v_settings v_tick v_energy v_valuesPut x1 hc31) q154 q155 q156 q9 q157 1 hdX3_isLocked ⟨Nat.le_of_ble_eq_true rfl, Nat.le_of_ble_eq_true rfl⟩ ⟨Nat.le_of_ble_eq_true rfl, Nat.le_of_ble_eq_true rfl⟩ rfl rfl hl.1 (Nat.le_of_ble_eq_true rfl) hP hK (va_recv hK hP (ci := 2) (q0 := 0) rfl rfl) hS dX3_nextRow_31 (fun H locs hk hS => ?_)
      have hP := k_kept hP hk
      refine g_if_eq (tgt := 41) hx hb dX3_nextRow_34 (by decide) h (fun h => ?_) (fun h => ?_)
      · refine lv_iload_n hx hb dX3_nextRow_41 rfl (lv_at hl 1 rfl) ?_
        exact g_retRI hx hb hr hlk hS h dX3_nextRow_42
      · refine lv_iconst (v := (-1)) hx hb dX3_nextRow_37 (by decide) ?_
        refine lv_goto (tgt := 42) hx hb dX3_nextRow_38 (by decide) ?_
        exact g_retRI hx hb hr hlk hS h dX3_nextRow_42
  obtain ⟨S3, hS3⟩ : ∃ z, z = (fX3_nextRow_s3 K23 v_ones v_twos v_settings v_tick) := ⟨_, rfl⟩
  rw [← hS3] at h
  have L3 : ∀ (n : Nat) (x3 : Int32) (H : Heap) (locs : List Loc) (ls : Array Slot), k_l1 S3 n x3 = some r → va_P (dC, dI) vwCl (wX3 cyI cyC ob a1 a2 a3 v_ones v_twos v_settings v_tick v_energy v_valuesPut) H → va_S kF s.heap H locs → lv_has ls 2 [(0, .ref ob), (1, .int x3)] → W p l e (k_rm 3 69) s m [.ref ob].toArray below meth c H locs 0 0 (MQ below (qRI r) [.ref ob].toArray s 0 0 kF) (F0 m 3 ls []) := by
    intro n
    induction n with
    | zero =>
      intro x3 H locs ls h
      exact (k_l1_0 h).elim
    | succ n ih3 =>
      intro x3 H locs ls h hP hS hl
      have h := k_l1_s h
      have h := k_a2 hS3 h
      unfold fX3_nextRow_s3 at h
      refine lv_iload_n hx hb dX3_nextRow_3 rfl (lv_at hl 1 rfl) ?_
      refine g_if_le (tgt := 23) hx hb dX3_nextRow_4 (by decide) h (fun h => ?_) (fun h => ?_)
      · exact J23 x3 _ _ _ h hP hS (lv_sub hl [0, 1] rfl)
      · refine lv_aload_n hx hb dX3_nextRow_7 rfl (lv_at hl 0 rfl) ?_
        refine lv_iload_n hx hb dX3_nextRow_8 rfl (lv_at hl 1 rfl) ?_
        refine lv_iconst (v := 1) hx hb dX3_nextRow_9 (by decide) ?_
        refine g_isub hx hb dX3_nextRow_10 h (fun x4 h => ?_)
        obtain ⟨x5, hc11, h⟩ := k_b1_e h
        refine g_callRI_V (As := [.int x4]) (rest := []) hC (mX3_kind l dC dI cyI cyC cyO ob a1 a2 a3 v_ones v_twos v_settings v_tick v_energy v_valuesPut x4 hc11) q319 q320 q321 q9 q322 1 hdX3_kind ⟨Nat.le_of_ble_eq_true rfl, Nat.le_of_ble_eq_true rfl⟩ ⟨Nat.le_of_ble_eq_true rfl, Nat.le_of_ble_eq_true rfl⟩ rfl rfl hl.1 (Nat.le_of_ble_eq_true rfl) hP hK (va_recv hK hP (ci := 2) (q0 := 0) rfl rfl) hS dX3_nextRow_11 (fun H locs hk hS => ?_)
        have hP := k_kept hP hk
        refine g_if_ne (tgt := 23) hx hb dX3_nextRow_14 (by decide) h (fun h => ?_) (fun h => ?_)
        · exact J23 x3 _ _ _ h hP hS (lv_sub hl [0, 1] rfl)
        · refine g_iinc (dv := (-1)) hx hb dX3_nextRow_17 hl (j := 1) rfl (by decide) (by decide) h (fun x6 ls h hl => ?_)
          have hl : lv_has ls 2 [(1, .int x6), (0, .ref ob)] := hl
          refine lv_goto (tgt := 3) hx hb dX3_nextRow_20 (by decide) ?_
          exact ih3 x6 _ _ _ h hP hS (lv_sub hl [1, 0] rfl)
  exact L3 5000 20 _ _ _ h hP hS (lv_sub hl [1, 0] rfl)
def fX0_keyOf (p0 : Int32) : Option (Int32) :=
  k_let (p0 &&& 15) fun (x1 : Int32) =>
  some x1
theorem hdX0_keyOf : yX0_keyOf.cls ≠ "java/lang/invoke/MethodHandle" ∧ yX0_keyOf.cls ≠ "java/lang/invoke/VarHandle" ∧ (parseMethodDescriptor yX0_keyOf.desc).map (fun d => d.parameters.length) = some 1 := by decide +kernel
set_option maxRecDepth 100000 in
set_option maxHeartbeats 4000000 in
theorem mX0_keyOf (l : Launch) (dC : Nat → ClassId) (dI : Nat → Nat → Nat) (cyI cyC cyO : ClassId)  (p0 : Int32) {r : Int32} (hf : fX0_keyOf p0 = some r) : MetRI l yX0_keyOf cX0_keyOf 1 (some .int) 0 0 [.int p0] (dC, dI) (tyS cyI cyC cyO) [] r := by
  refine metRI_of (by decide) (Nat.le_of_ble_eq_true rfl) ?_
  intro p e s m below meth c ls hC hr hlk hP hK hl
  have hC : CallFix p m c cX0_keyOf 1 s [.int p0].toArray wA RX0 := hC
  obtain ⟨hx, hb, hml, hown, hts⟩ := id hC
  have hS : va_S kF s.heap s.heap [] := va_S.rf
  have hl : lv_has ls 1 [(0, .int p0)] := hl
  have h := hf
  unfold fX0_keyOf at h
  obtain ⟨H, hH⟩ : ∃ H, H = s.heap := ⟨_, rfl⟩
  obtain ⟨locs, hlo⟩ : ∃ locs : List Loc, locs = [] := ⟨_, rfl⟩
  rw [← hH] at hP
  rw [← hlo] at hS
  have hS : va_S kF s.heap H locs := by rw [hH]; exact hS
  show W p l e (k_rm 0 0) s m [.int p0].toArray below meth c s.heap [] 0 0 _ _
  rw [← hlo, ← hH]
  refine lv_iload_n hx hb dX0_keyOf_0 rfl (lv_at hl 0 rfl) ?_
  refine lv_bipush (v := 15) hx hb dX0_keyOf_1 (by decide) ?_
  refine g_iand hx hb dX0_keyOf_3 h (fun x1 h => ?_)
  exact g_retRI hx hb hr hlk hS h dX0_keyOf_4
def fX3_isRowOf (v_ones : Nat → Int32) (v_twos : Nat → Int32) (v_settings : Nat → Int32) (v_tick : Int32) (p1 : Int32) (p2 : Int32) : Option (Int32) :=
  k_b1 (fX3_read v_ones v_twos v_settings v_tick p1) fun (x1 : Int32) =>
  k_b1 (fX0_kindOf x1) fun (x2 : Int32) =>
  k_j0
  (
    k_b1 (fX0_keyOf x1) fun (x3 : Int32) =>
    k_if (x3 = p2)
    (
      some 1)
    (
      some 0))
  (fun K24 =>
  k_if (x2 = 4)
  (
    K24)
  (
    k_if (x2 = 2)
    (
      K24)
    (
      some 0)))
theorem hdX3_isRowOf : yX3_isRowOf.cls = RX3 ∧ yX3_isRowOf.cls ≠ "java/lang/invoke/MethodHandle" ∧ yX3_isRowOf.cls ≠ "java/lang/invoke/VarHandle" ∧ (parseMethodDescriptor yX3_isRowOf.desc).map (fun d => d.parameters.length) = some 2 := by decide +kernel
set_option maxRecDepth 100000 in
set_option maxHeartbeats 4000000 in
theorem mX3_isRowOf (l : Launch) (dC : Nat → ClassId) (dI : Nat → Nat → Nat) (cyI cyC cyO : ClassId) (ob : Nat) (a1 : Nat) (a2 : Nat) (a3 : Nat) (v_ones : Nat → Int32) (v_twos : Nat → Int32) (v_settings : Nat → Int32) (v_tick : Int32) (v_energy : Int32) (v_valuesPut : Int32) (p1 : Int32) (p2 : Int32) {r : Int32} (hf : fX3_isRowOf v_ones v_twos v_settings v_tick p1 p2 = some r) : MetRI l yX3_isRowOf cX3_isRowOf 5 (some .boolean) 2 48 [.ref ob, .int p1, .int p2] (dC, dI) (tyS cyI cyC cyO) (wX3 cyI cyC ob a1 a2 a3 v_ones v_twos v_settings v_tick v_energy v_valuesPut) r := by
  refine metRI_of (by decide) (Nat.le_of_ble_eq_true rfl) ?_
  intro p e s m below meth c ls hC hr hlk hP hK hl
  have hC : CallFix p m c cX3_isRowOf 5 s [.ref ob, .int p1, .int p2].toArray wA RX3 := hC
  obtain ⟨hx, hb, hml, hown, hts⟩ := id hC
  have hS : va_S kF s.heap s.heap [] := va_S.rf
  have hl : lv_has ls 5 [(0, .ref ob), (1, .int p1), (2, .int p2)] := hl
  have h := hf
  unfold fX3_isRowOf at h
  obtain ⟨H, hH⟩ : ∃ H, H = s.heap := ⟨_, rfl⟩
  obtain ⟨locs, hlo⟩ : ∃ locs : List Loc, locs = [] := ⟨_, rfl⟩
  rw [← hH] at hP
  rw [← hlo] at hS
  have hS : va_S kF s.heap H locs := by rw [hH]; exact hS
  show W p l e (k_rm 2 48) s m [.ref ob, .int p1, .int p2].toArray below meth c s.heap [] 0 0 _ _
  rw [← hlo, ← hH]
  refine lv_aload_n hx hb dX3_isRowOf_0 rfl (lv_at hl 0 rfl) ?_
  refine lv_iload_n hx hb dX3_isRowOf_1 rfl (lv_at hl 1 rfl) ?_
  obtain ⟨x1, hc2, h⟩ := k_b1_e h
  refine g_callRI_V (As := [.int p1]) (rest := []) hC (mX3_read l dC dI cyI cyC cyO ob a1 a2 a3 v_ones v_twos v_settings v_tick v_energy v_valuesPut p1 hc2) q139 q140 q141 q9 q142 1 hdX3_read ⟨Nat.le_of_ble_eq_true rfl, Nat.le_of_ble_eq_true rfl⟩ ⟨Nat.le_of_ble_eq_true rfl, Nat.le_of_ble_eq_true rfl⟩ rfl rfl hl.1 (Nat.le_of_ble_eq_true rfl) hP hK (va_recv hK hP (ci := 2) (q0 := 0) rfl rfl) hS dX3_isRowOf_2 (fun H locs hk hS => ?_)
  have hP := k_kept hP hk
  refine lv_istore_n (lv' := [(3, .int x1), (0, .ref ob), (1, .int p1), (2, .int p2)]) hx hb dX3_isRowOf_5 rfl hl (by decide) rfl (fun ls hl => ?_)
  refine lv_iload_n hx hb dX3_isRowOf_6 rfl (lv_at hl 0 rfl) ?_
  obtain ⟨x2, hc7, h⟩ := k_b1_e h
  refine g_callRI_S (As := [.int x1]) (rest := []) hC (mX0_kindOf l dC dI cyI cyC cyO x1 hc7) q161 q162 q17 q163 1 hdX0_kindOf ⟨Nat.le_of_ble_eq_true rfl, Nat.le_of_ble_eq_true rfl⟩ ⟨Nat.le_of_ble_eq_true rfl, Nat.le_of_ble_eq_true rfl⟩ rfl rfl hl.1 (Nat.le_of_ble_eq_true rfl) va_P_nil hK hS dX3_isRowOf_7 (fun H locs hk hS => ?_)
  have hP := k_kept hP hk
  refine lv_istore (lv' := [(4, .int x2), (3, .int x1), (0, .ref ob), (1, .int p1), (2, .int p2)]) hx hb dX3_isRowOf_10 hl (by decide) rfl (fun ls hl => ?_)
  refine lv_iload hx hb dX3_isRowOf_12 (lv_at hl 0 rfl) ?_
  refine lv_iconst (v := 4) hx hb dX3_isRowOf_14 (by decide) ?_
  obtain ⟨K24, hK24, h⟩ := k_j0_e h
  have J24 : ∀ (H : Heap) (locs : List Loc) (ls : Array Slot), K24 = some r → va_P (dC, dI) vwCl (wX3 cyI cyC ob a1 a2 a3 v_ones v_twos v_settings v_tick v_energy v_valuesPut) H → va_S kF s.heap H locs → lv_has ls 5 [(2, .int p2), (3, .int x1)] → W p l e (k_rm 2 48) s m [.ref ob, .int p1, .int p2].toArray below meth c H locs 0 0 (MQ below (qRI r) [.ref ob, .int p1, .int p2].toArray s 0 0 kF) (F0 m 24 ls []) := by
    intro  H locs ls h hP hS hl
    have h := k_a0 hK24 h
    refine lv_iload_n hx hb dX3_isRowOf_24 rfl (lv_at hl 1 rfl) ?_
    obtain ⟨x3, hc25, h⟩ := k_b1_e h
    refine g_callRI_S (As := [.int x1]) (rest := []) hC (mX0_keyOf l dC dI cyI cyC cyO x1 hc25) q158 q159 q17 q160 1 hdX0_keyOf ⟨Nat.le_of_ble_eq_true rfl, Nat.le_of_ble_eq_true rfl⟩ ⟨Nat.le_of_ble_eq_true rfl, Nat.le_of_ble_eq_true rfl⟩ rfl rfl hl.1 (Nat.le_of_ble_eq_true rfl) va_P_nil hK hS dX3_isRowOf_25 (fun H locs hk hS => ?_)
    have hP := k_kept hP hk
    refine lv_iload_n hx hb dX3_isRowOf_28 rfl (lv_at hl 0 rfl) ?_
    refine g_icmp_ne (tgt := 36) hx hb dX3_isRowOf_29 (by decide) h (fun h => ?_) (fun h => ?_)
    · refine lv_iconst (v := 0) hx hb dX3_isRowOf_36 (by decide) ?_
      exact g_retRZ hx hb hr (by decide +kernel) hlk hS h dX3_isRowOf_37
    · refine lv_iconst (v := 1) hx hb dX3_isRowOf_32 (by decide) ?_
      refine lv_goto (tgt := 37) hx hb dX3_isRowOf_33 (by decide) ?_
      exact g_retRZ hx hb hr (by decide +kernel) hlk hS h dX3_isRowOf_37
  refine g_icmp_eq (tgt := 24) hx hb dX3_isRowOf_15 (by decide) h (fun h => ?_) (fun h => ?_)
  · exact J24  _ _ _ h hP hS (lv_sub hl [4, 1] rfl)
  · refine lv_iload hx hb dX3_isRowOf_18 (lv_at hl 0 rfl) ?_
    refine lv_iconst (v := 2) hx hb dX3_isRowOf_20 (by decide) ?_
    refine g_icmp_ne (tgt := 36) hx hb dX3_isRowOf_21 (by decide) h (fun h => ?_) (fun h => ?_)
    · refine lv_iconst (v := 0) hx hb dX3_isRowOf_36 (by decide) ?_
      exact g_retRZ hx hb hr (by decide +kernel) hlk hS h dX3_isRowOf_37
    · exact J24  _ _ _ h hP hS (lv_sub hl [4, 1] rfl)
def fX3_entryRow_s4 (v_ones : Nat → Int32) (v_twos : Nat → Int32) (p2 : Int32) (p3 : Int32) (p1 : Int32) (rec4 : Int32 → Option (Int32)) (x1 : Int32) : Option (Int32) :=
  k_if (x1 < 0)
  (
    some ((-1)))
  (
    k_b1 (fX3_readAt v_ones v_twos x1 p2 p3) fun (x2 : Int32) =>
    k_b1 (fX0_keyOf x2) fun (x3 : Int32) =>
    k_j0
    (
      k_let (x1 + (-1)) fun (x4 : Int32) =>
      rec4 x4)
    (fun K40 =>
    k_if (x3 = p1)
    (
      k_b1 (fX0_kindOf x2) fun (x5 : Int32) =>
      k_if (x5 = 4)
      (
        some x1)
      (
        K40))
    (
      K40)))
def fX3_entryRow (v_ones : Nat → Int32) (v_twos : Nat → Int32) (p1 : Int32) (p2 : Int32) (p3 : Int32) : Option (Int32) :=
  k_l1 (fX3_entryRow_s4 v_ones v_twos p2 p3 p1) 5000 19
theorem hdX3_entryRow : yX3_entryRow.cls = RX3 ∧ yX3_entryRow.cls ≠ "java/lang/invoke/MethodHandle" ∧ yX3_entryRow.cls ≠ "java/lang/invoke/VarHandle" ∧ (parseMethodDescriptor yX3_entryRow.desc).map (fun d => d.parameters.length) = some 3 := by decide +kernel
set_option maxRecDepth 100000 in
set_option maxHeartbeats 4000000 in
theorem mX3_entryRow (l : Launch) (dC : Nat → ClassId) (dI : Nat → Nat → Nat) (cyI cyC cyO : ClassId) (ob : Nat) (a1 : Nat) (a2 : Nat) (a3 : Nat) (v_ones : Nat → Int32) (v_twos : Nat → Int32) (v_settings : Nat → Int32) (v_tick : Int32) (v_energy : Int32) (v_valuesPut : Int32) (p1 : Int32) (p2 : Int32) (p3 : Int32) {r : Int32} (hf : fX3_entryRow v_ones v_twos p1 p2 p3 = some r) : MetRI l yX3_entryRow cX3_entryRow 6 (some .int) 2 41 [.ref ob, .int p1, .int p2, .int p3] (dC, dI) (tyS cyI cyC cyO) (wX3 cyI cyC ob a1 a2 a3 v_ones v_twos v_settings v_tick v_energy v_valuesPut) r := by
  refine metRI_of (by decide) (Nat.le_of_ble_eq_true rfl) ?_
  intro p e s m below meth c ls hC hr hlk hP hK hl
  have hC : CallFix p m c cX3_entryRow 6 s [.ref ob, .int p1, .int p2, .int p3].toArray wA RX3 := hC
  obtain ⟨hx, hb, hml, hown, hts⟩ := id hC
  have hS : va_S kF s.heap s.heap [] := va_S.rf
  have hl : lv_has ls 6 [(0, .ref ob), (1, .int p1), (2, .int p2), (3, .int p3)] := hl
  have h := hf
  unfold fX3_entryRow at h
  obtain ⟨H, hH⟩ : ∃ H, H = s.heap := ⟨_, rfl⟩
  obtain ⟨locs, hlo⟩ : ∃ locs : List Loc, locs = [] := ⟨_, rfl⟩
  rw [← hH] at hP
  rw [← hlo] at hS
  have hS : va_S kF s.heap H locs := by rw [hH]; exact hS
  show W p l e (k_rm 2 41) s m [.ref ob, .int p1, .int p2, .int p3].toArray below meth c s.heap [] 0 0 _ _
  rw [← hlo, ← hH]
  refine lv_bipush (v := 19) hx hb dX3_entryRow_0 (by decide) ?_
  refine lv_istore (lv' := [(4, .int 19), (0, .ref ob), (1, .int p1), (2, .int p2), (3, .int p3)]) hx hb dX3_entryRow_2 hl (by decide) rfl (fun ls hl => ?_)
  obtain ⟨S4, hS4⟩ : ∃ z, z = (fX3_entryRow_s4 v_ones v_twos p2 p3 p1) := ⟨_, rfl⟩
  rw [← hS4] at h
  have L4 : ∀ (n : Nat) (x1 : Int32) (H : Heap) (locs : List Loc) (ls : Array Slot), k_l1 S4 n x1 = some r → va_P (dC, dI) vwCl (wX3 cyI cyC ob a1 a2 a3 v_ones v_twos v_settings v_tick v_energy v_valuesPut) H → va_S kF s.heap H locs → lv_has ls 6 [(0, .ref ob), (1, .int p1), (2, .int p2), (3, .int p3), (4, .int x1)] → W p l e (k_rm 2 41) s m [.ref ob, .int p1, .int p2, .int p3].toArray below meth c H locs 0 0 (MQ below (qRI r) [.ref ob, .int p1, .int p2, .int p3].toArray s 0 0 kF) (F0 m 4 ls []) := by
    intro n
    induction n with
    | zero =>
      intro x1 H locs ls h
      exact (k_l1_0 h).elim
    | succ n ih4 =>
      intro x1 H locs ls h hP hS hl
      have h := k_l1_s h
      have h := k_a2 hS4 h
      unfold fX3_entryRow_s4 at h
      refine lv_iload hx hb dX3_entryRow_4 (lv_at hl 4 rfl) ?_
      refine g_if_lt (tgt := 46) hx hb dX3_entryRow_6 (by decide) h (fun h => ?_) (fun h => ?_)
      · refine lv_iconst (v := (-1)) hx hb dX3_entryRow_46 (by decide) ?_
        exact g_retRI hx hb hr hlk hS h dX3_entryRow_47
      · refine lv_aload_n hx hb dX3_entryRow_9 rfl (lv_at hl 0 rfl) ?_
        refine lv_iload hx hb dX3_entryRow_10 (lv_at hl 4 rfl) ?_
        refine lv_iload_n hx hb dX3_entryRow_12 rfl (lv_at hl 2 rfl) ?_
        refine lv_iload_n hx hb dX3_entryRow_13 rfl (lv_at hl 3 rfl) ?_
        obtain ⟨x2, hc14, h⟩ := k_b1_e h
        refine g_callRI_V (As := [.int x1, .int p2, .int p3]) (rest := []) hC (mX3_readAt l dC dI cyI cyC cyO ob a1 a2 a3 v_ones v_twos v_settings v_tick v_energy v_valuesPut x1 p2 p3 hc14) q147 q148 q149 q9 q150 3 hdX3_readAt ⟨Nat.le_of_ble_eq_true rfl, Nat.le_of_ble_eq_true rfl⟩ ⟨Nat.le_of_ble_eq_true rfl, Nat.le_of_ble_eq_true rfl⟩ rfl rfl hl.1 (Nat.le_of_ble_eq_true rfl) hP hK (va_recv hK hP (ci := 2) (q0 := 0) rfl rfl) hS dX3_entryRow_14 (fun H locs hk hS => ?_)
        have hP := k_kept hP hk
        refine lv_istore (lv' := [(5, .int x2), (0, .ref ob), (1, .int p1), (2, .int p2), (3, .int p3), (4, .int x1)]) hx hb dX3_entryRow_17 hl (by decide) rfl (fun ls hl => ?_)
        refine lv_iload hx hb dX3_entryRow_19 (lv_at hl 0 rfl) ?_
        obtain ⟨x3, hc21, h⟩ := k_b1_e h
        refine g_callRI_S (As := [.int x2]) (rest := []) hC (mX0_keyOf l dC dI cyI cyC cyO x2 hc21) q158 q159 q17 q160 1 hdX0_keyOf ⟨Nat.le_of_ble_eq_true rfl, Nat.le_of_ble_eq_true rfl⟩ ⟨Nat.le_of_ble_eq_true rfl, Nat.le_of_ble_eq_true rfl⟩ rfl rfl hl.1 (Nat.le_of_ble_eq_true rfl) va_P_nil hK hS dX3_entryRow_21 (fun H locs hk hS => ?_)
        have hP := k_kept hP hk
        refine lv_iload_n hx hb dX3_entryRow_24 rfl (lv_at hl 2 rfl) ?_
        obtain ⟨K40, hK40, h⟩ := k_j0_e h
        have J40 : ∀ (H : Heap) (locs : List Loc) (ls : Array Slot), K40 = some r → va_P (dC, dI) vwCl (wX3 cyI cyC ob a1 a2 a3 v_ones v_twos v_settings v_tick v_energy v_valuesPut) H → va_S kF s.heap H locs → lv_has ls 6 [(0, .ref ob), (1, .int p1), (2, .int p2), (3, .int p3), (4, .int x1)] → W p l e (k_rm 2 41) s m [.ref ob, .int p1, .int p2, .int p3].toArray below meth c H locs 0 0 (MQ below (qRI r) [.ref ob, .int p1, .int p2, .int p3].toArray s 0 0 kF) (F0 m 40 ls []) := by
          intro  H locs ls h hP hS hl
          have h := k_a0 hK40 h
          refine g_iinc (dv := (-1)) hx hb dX3_entryRow_40 hl (j := 4) rfl (by decide) (by decide) h (fun x4 ls h hl => ?_)
          have hl : lv_has ls 6 [(4, .int x4), (0, .ref ob), (1, .int p1), (2, .int p2), (3, .int p3)] := hl
          refine lv_goto (tgt := 4) hx hb dX3_entryRow_43 (by decide) ?_
          exact ih4 x4 _ _ _ h hP hS (lv_sub hl [1, 2, 3, 4, 0] rfl)
        refine g_icmp_ne (tgt := 40) hx hb dX3_entryRow_25 (by decide) h (fun h => ?_) (fun h => ?_)
        · exact J40  _ _ _ h hP hS (lv_sub hl [1, 2, 3, 4, 5] rfl)
        · refine lv_iload hx hb dX3_entryRow_28 (lv_at hl 0 rfl) ?_
          obtain ⟨x5, hc30, h⟩ := k_b1_e h
          refine g_callRI_S (As := [.int x2]) (rest := []) hC (mX0_kindOf l dC dI cyI cyC cyO x2 hc30) q161 q162 q17 q163 1 hdX0_kindOf ⟨Nat.le_of_ble_eq_true rfl, Nat.le_of_ble_eq_true rfl⟩ ⟨Nat.le_of_ble_eq_true rfl, Nat.le_of_ble_eq_true rfl⟩ rfl rfl hl.1 (Nat.le_of_ble_eq_true rfl) va_P_nil hK hS dX3_entryRow_30 (fun H locs hk hS => ?_)
          have hP := k_kept hP hk
          refine lv_iconst (v := 4) hx hb dX3_entryRow_33 (by decide) ?_
          refine g_icmp_ne (tgt := 40) hx hb dX3_entryRow_34 (by decide) h (fun h => ?_) (fun h => ?_)
          · exact J40  _ _ _ h hP hS (lv_sub hl [1, 2, 3, 4, 5] rfl)
          · refine lv_iload hx hb dX3_entryRow_37 (lv_at hl 5 rfl) ?_
            exact g_retRI hx hb hr hlk hS h dX3_entryRow_39
  exact L4 5000 19 _ _ _ h hP hS (lv_sub hl [1, 2, 3, 4, 0] rfl)
def fX0_valueOf (p0 : Int32) : Option (Int32) :=
  k_let (p0 >>> (4 &&& 31)) fun (x1 : Int32) =>
  k_let (x1 &&& 63) fun (x2 : Int32) =>
  some x2
theorem hdX0_valueOf : yX0_valueOf.cls ≠ "java/lang/invoke/MethodHandle" ∧ yX0_valueOf.cls ≠ "java/lang/invoke/VarHandle" ∧ (parseMethodDescriptor yX0_valueOf.desc).map (fun d => d.parameters.length) = some 1 := by decide +kernel
set_option maxRecDepth 100000 in
set_option maxHeartbeats 4000000 in
theorem mX0_valueOf (l : Launch) (dC : Nat → ClassId) (dI : Nat → Nat → Nat) (cyI cyC cyO : ClassId)  (p0 : Int32) {r : Int32} (hf : fX0_valueOf p0 = some r) : MetRI l yX0_valueOf cX0_valueOf 1 (some .int) 0 0 [.int p0] (dC, dI) (tyS cyI cyC cyO) [] r := by
  refine metRI_of (by decide) (Nat.le_of_ble_eq_true rfl) ?_
  intro p e s m below meth c ls hC hr hlk hP hK hl
  have hC : CallFix p m c cX0_valueOf 1 s [.int p0].toArray wA RX0 := hC
  obtain ⟨hx, hb, hml, hown, hts⟩ := id hC
  have hS : va_S kF s.heap s.heap [] := va_S.rf
  have hl : lv_has ls 1 [(0, .int p0)] := hl
  have h := hf
  unfold fX0_valueOf at h
  obtain ⟨H, hH⟩ : ∃ H, H = s.heap := ⟨_, rfl⟩
  obtain ⟨locs, hlo⟩ : ∃ locs : List Loc, locs = [] := ⟨_, rfl⟩
  rw [← hH] at hP
  rw [← hlo] at hS
  have hS : va_S kF s.heap H locs := by rw [hH]; exact hS
  show W p l e (k_rm 0 0) s m [.int p0].toArray below meth c s.heap [] 0 0 _ _
  rw [← hlo, ← hH]
  refine lv_iload_n hx hb dX0_valueOf_0 rfl (lv_at hl 0 rfl) ?_
  refine lv_iconst (v := 4) hx hb dX0_valueOf_1 (by decide) ?_
  refine g_ishr hx hb dX0_valueOf_2 h (fun x1 h => ?_)
  refine lv_bipush (v := 63) hx hb dX0_valueOf_3 (by decide) ?_
  refine g_iand hx hb dX0_valueOf_5 h (fun x2 h => ?_)
  exact g_retRI hx hb hr hlk hS h dX0_valueOf_6
def fX3_valueAt (v_ones : Nat → Int32) (v_twos : Nat → Int32) (p1 : Int32) (p2 : Int32) (p3 : Int32) : Option (Int32) :=
  k_b1 (fX3_entryRow v_ones v_twos p1 p2 p3) fun (x1 : Int32) =>
  k_if (x1 = ((-1)))
  (
    some ((-1)))
  (
    k_b1 (fX3_readAt v_ones v_twos x1 p2 p3) fun (x2 : Int32) =>
    k_b1 (fX0_valueOf x2) fun (x3 : Int32) =>
    some x3)
theorem hdX3_valueAt : yX3_valueAt.cls = RX3 ∧ yX3_valueAt.cls ≠ "java/lang/invoke/MethodHandle" ∧ yX3_valueAt.cls ≠ "java/lang/invoke/VarHandle" ∧ (parseMethodDescriptor yX3_valueAt.desc).map (fun d => d.parameters.length) = some 3 := by decide +kernel
set_option maxRecDepth 100000 in
set_option maxHeartbeats 4000000 in
theorem mX3_valueAt (l : Launch) (dC : Nat → ClassId) (dI : Nat → Nat → Nat) (cyI cyC cyO : ClassId) (ob : Nat) (a1 : Nat) (a2 : Nat) (a3 : Nat) (v_ones : Nat → Int32) (v_twos : Nat → Int32) (v_settings : Nat → Int32) (v_tick : Int32) (v_energy : Int32) (v_valuesPut : Int32) (p1 : Int32) (p2 : Int32) (p3 : Int32) {r : Int32} (hf : fX3_valueAt v_ones v_twos p1 p2 p3 = some r) : MetRI l yX3_valueAt cX3_valueAt 5 (some .int) 3 66 [.ref ob, .int p1, .int p2, .int p3] (dC, dI) (tyS cyI cyC cyO) (wX3 cyI cyC ob a1 a2 a3 v_ones v_twos v_settings v_tick v_energy v_valuesPut) r := by
  refine metRI_of (by decide) (Nat.le_of_ble_eq_true rfl) ?_
  intro p e s m below meth c ls hC hr hlk hP hK hl
  have hC : CallFix p m c cX3_valueAt 5 s [.ref ob, .int p1, .int p2, .int p3].toArray wA RX3 := hC
  obtain ⟨hx, hb, hml, hown, hts⟩ := id hC
  have hS : va_S kF s.heap s.heap [] := va_S.rf
  have hl : lv_has ls 5 [(0, .ref ob), (1, .int p1), (2, .int p2), (3, .int p3)] := hl
  have h := hf
  unfold fX3_valueAt at h
  obtain ⟨H, hH⟩ : ∃ H, H = s.heap := ⟨_, rfl⟩
  obtain ⟨locs, hlo⟩ : ∃ locs : List Loc, locs = [] := ⟨_, rfl⟩
  rw [← hH] at hP
  rw [← hlo] at hS
  have hS : va_S kF s.heap H locs := by rw [hH]; exact hS
  show W p l e (k_rm 3 66) s m [.ref ob, .int p1, .int p2, .int p3].toArray below meth c s.heap [] 0 0 _ _
  rw [← hlo, ← hH]
  refine lv_aload_n hx hb dX3_valueAt_0 rfl (lv_at hl 0 rfl) ?_
  refine lv_iload_n hx hb dX3_valueAt_1 rfl (lv_at hl 1 rfl) ?_
  refine lv_iload_n hx hb dX3_valueAt_2 rfl (lv_at hl 2 rfl) ?_
  refine lv_iload_n hx hb dX3_valueAt_3 rfl (lv_at hl 3 rfl) ?_
  obtain ⟨x1, hc4, h⟩ := k_b1_e h
  refine g_callRI_V (As := [.int p1, .int p2, .int p3]) (rest := []) hC (mX3_entryRow l dC dI cyI cyC cyO ob a1 a2 a3 v_ones v_twos v_settings v_tick v_energy v_valuesPut p1 p2 p3 hc4) q272 q273 q274 q9 q275 3 hdX3_entryRow ⟨Nat.le_of_ble_eq_true rfl, Nat.le_of_ble_eq_true rfl⟩ ⟨Nat.le_of_ble_eq_true rfl, Nat.le_of_ble_eq_true rfl⟩ rfl rfl hl.1 (Nat.le_of_ble_eq_true rfl) hP hK (va_recv hK hP (ci := 2) (q0 := 0) rfl rfl) hS dX3_valueAt_4 (fun H locs hk hS => ?_)
  have hP := k_kept hP hk
  refine lv_istore (lv' := [(4, .int x1), (0, .ref ob), (1, .int p1), (2, .int p2), (3, .int p3)]) hx hb dX3_valueAt_7 hl (by decide) rfl (fun ls hl => ?_)
  refine lv_iload hx hb dX3_valueAt_9 (lv_at hl 0 rfl) ?_
  refine lv_iconst (v := (-1)) hx hb dX3_valueAt_11 (by decide) ?_
  refine g_icmp_ne (tgt := 19) hx hb dX3_valueAt_12 (by decide) h (fun h => ?_) (fun h => ?_)
  · refine lv_aload_n hx hb dX3_valueAt_19 rfl (lv_at hl 1 rfl) ?_
    refine lv_iload hx hb dX3_valueAt_20 (lv_at hl 0 rfl) ?_
    refine lv_iload_n hx hb dX3_valueAt_22 rfl (lv_at hl 3 rfl) ?_
    refine lv_iload_n hx hb dX3_valueAt_23 rfl (lv_at hl 4 rfl) ?_
    obtain ⟨x2, hc24, h⟩ := k_b1_e h
    refine g_callRI_V (As := [.int x1, .int p2, .int p3]) (rest := []) hC (mX3_readAt l dC dI cyI cyC cyO ob a1 a2 a3 v_ones v_twos v_settings v_tick v_energy v_valuesPut x1 p2 p3 hc24) q147 q148 q149 q9 q150 3 hdX3_readAt ⟨Nat.le_of_ble_eq_true rfl, Nat.le_of_ble_eq_true rfl⟩ ⟨Nat.le_of_ble_eq_true rfl, Nat.le_of_ble_eq_true rfl⟩ rfl rfl hl.1 (Nat.le_of_ble_eq_true rfl) hP hK (va_recv hK hP (ci := 2) (q0 := 0) rfl rfl) hS dX3_valueAt_24 (fun H locs hk hS => ?_)
    have hP := k_kept hP hk
    obtain ⟨x3, hc27, h⟩ := k_b1_e h
    refine g_callRI_S (As := [.int x2]) (rest := []) hC (mX0_valueOf l dC dI cyI cyC cyO x2 hc27) q276 q242 q17 q243 1 hdX0_valueOf ⟨Nat.le_of_ble_eq_true rfl, Nat.le_of_ble_eq_true rfl⟩ ⟨Nat.le_of_ble_eq_true rfl, Nat.le_of_ble_eq_true rfl⟩ rfl rfl hl.1 (Nat.le_of_ble_eq_true rfl) va_P_nil hK hS dX3_valueAt_27 (fun H locs hk hS => ?_)
    have hP := k_kept hP hk
    exact g_retRI hx hb hr hlk hS h dX3_valueAt_30
  · refine lv_iconst (v := (-1)) hx hb dX3_valueAt_15 (by decide) ?_
    refine lv_goto (tgt := 30) hx hb dX3_valueAt_16 (by decide) ?_
    exact g_retRI hx hb hr hlk hS h dX3_valueAt_30
def fX3_valueOfKey (v_ones : Nat → Int32) (v_twos : Nat → Int32) (v_settings : Nat → Int32) (v_tick : Int32) (p1 : Int32) : Option (Int32) :=
  k_b1 (fX3_readsThrice v_settings) fun (x1 : Int32) =>
  k_b1 (fX3_valueAt v_ones v_twos p1 v_tick x1) fun (x2 : Int32) =>
  some x2
theorem hdX3_valueOfKey : yX3_valueOfKey.cls = RX3 ∧ yX3_valueOfKey.cls ≠ "java/lang/invoke/MethodHandle" ∧ yX3_valueOfKey.cls ≠ "java/lang/invoke/VarHandle" ∧ (parseMethodDescriptor yX3_valueOfKey.desc).map (fun d => d.parameters.length) = some 1 := by decide +kernel
set_option maxRecDepth 100000 in
set_option maxHeartbeats 4000000 in
theorem mX3_valueOfKey (l : Launch) (dC : Nat → ClassId) (dI : Nat → Nat → Nat) (cyI cyC cyO : ClassId) (ob : Nat) (a1 : Nat) (a2 : Nat) (a3 : Nat) (v_ones : Nat → Int32) (v_twos : Nat → Int32) (v_settings : Nat → Int32) (v_tick : Int32) (v_energy : Int32) (v_valuesPut : Int32) (p1 : Int32) {r : Int32} (hf : fX3_valueOfKey v_ones v_twos v_settings v_tick p1 = some r) : MetRI l yX3_valueOfKey cX3_valueOfKey 2 (some .int) 4 90 [.ref ob, .int p1] (dC, dI) (tyS cyI cyC cyO) (wX3 cyI cyC ob a1 a2 a3 v_ones v_twos v_settings v_tick v_energy v_valuesPut) r := by
  refine metRI_of (by decide) (Nat.le_of_ble_eq_true rfl) ?_
  intro p e s m below meth c ls hC hr hlk hP hK hl
  have hC : CallFix p m c cX3_valueOfKey 2 s [.ref ob, .int p1].toArray wA RX3 := hC
  obtain ⟨hx, hb, hml, hown, hts⟩ := id hC
  have hS : va_S kF s.heap s.heap [] := va_S.rf
  have hl : lv_has ls 2 [(0, .ref ob), (1, .int p1)] := hl
  have h := hf
  unfold fX3_valueOfKey at h
  obtain ⟨H, hH⟩ : ∃ H, H = s.heap := ⟨_, rfl⟩
  obtain ⟨locs, hlo⟩ : ∃ locs : List Loc, locs = [] := ⟨_, rfl⟩
  rw [← hH] at hP
  rw [← hlo] at hS
  have hS : va_S kF s.heap H locs := by rw [hH]; exact hS
  show W p l e (k_rm 4 90) s m [.ref ob, .int p1].toArray below meth c s.heap [] 0 0 _ _
  rw [← hlo, ← hH]
  refine lv_aload_n hx hb dX3_valueOfKey_0 rfl (lv_at hl 0 rfl) ?_
  refine lv_iload_n hx hb dX3_valueOfKey_1 rfl (lv_at hl 1 rfl) ?_
  refine lv_aload_n hx hb dX3_valueOfKey_2 rfl (lv_at hl 0 rfl) ?_
  refine va_get (D := (dC, dI)) (ci := 2) (v := .int v_tick) (C := RX3) (T := TX3) (N := 6) hx hb hts iaX3 hown hK hP 0 rfl rfl 3 (by decide) (hts _ q42) (fun _ h9 => h9) rfl dX3_valueOfKey_3 ?_
  refine lv_aload_n hx hb dX3_valueOfKey_6 rfl (lv_at hl 0 rfl) ?_
  obtain ⟨x1, hc7, h⟩ := k_b1_e h
  refine g_callRI_V (As := []) (rest := [.int v_tick, .int p1, .ref ob]) hC (mX3_readsThrice l dC dI cyI cyC cyO ob a1 a2 a3 v_ones v_twos v_settings v_tick v_energy v_valuesPut hc7) q143 q144 q145 q9 q146 0 hdX3_readsThrice ⟨Nat.le_of_ble_eq_true rfl, Nat.le_of_ble_eq_true rfl⟩ ⟨Nat.le_of_ble_eq_true rfl, Nat.le_of_ble_eq_true rfl⟩ rfl rfl hl.1 (Nat.le_of_ble_eq_true rfl) hP hK (va_recv hK hP (ci := 2) (q0 := 0) rfl rfl) hS dX3_valueOfKey_7 (fun H locs hk hS => ?_)
  have hP := k_kept hP hk
  obtain ⟨x2, hc10, h⟩ := k_b1_e h
  refine g_callRI_V (As := [.int p1, .int v_tick, .int x1]) (rest := []) hC (mX3_valueAt l dC dI cyI cyC cyO ob a1 a2 a3 v_ones v_twos v_settings v_tick v_energy v_valuesPut p1 v_tick x1 hc10) q268 q269 q270 q9 q271 3 hdX3_valueAt ⟨Nat.le_of_ble_eq_true rfl, Nat.le_of_ble_eq_true rfl⟩ ⟨Nat.le_of_ble_eq_true rfl, Nat.le_of_ble_eq_true rfl⟩ rfl rfl hl.1 (Nat.le_of_ble_eq_true rfl) hP hK (va_recv hK hP (ci := 2) (q0 := 0) rfl rfl) hS dX3_valueOfKey_10 (fun H locs hk hS => ?_)
  have hP := k_kept hP hk
  exact g_retRI hx hb hr hlk hS h dX3_valueOfKey_13
def fX3_keysWithValue_s4 (v_settings : Nat → Int32) (v_ones : Nat → Int32) (v_twos : Nat → Int32) (v_tick : Int32) (rec4 : Int32 → Int32 → Option (Int32)) (x1 : Int32) (x2 : Int32) : Option (Int32) :=
  k_if (16 ≤ x2)
  (
    some x1)
  (
    k_b1 (fX3_readsThrice v_settings) fun (x3 : Int32) =>
    k_b1 (fX3_entryRow v_ones v_twos x2 v_tick x3) fun (x4 : Int32) =>
    k_j1
    (fun (x5 : Int32) =>
      k_let (x1 + x5) fun (x6 : Int32) =>
      k_let (x2 + 1) fun (x7 : Int32) =>
      rec4 x6 x7)
    (fun K33 =>
    k_if (x4 = ((-1)))
    (
      K33 0)
    (
      K33 1)))
def fX3_keysWithValue (v_ones : Nat → Int32) (v_twos : Nat → Int32) (v_settings : Nat → Int32) (v_tick : Int32) : Option (Int32) :=
  k_l2 (fX3_keysWithValue_s4 v_settings v_ones v_twos v_tick) 5000 0 0
theorem hdX3_keysWithValue : yX3_keysWithValue.cls = RX3 ∧ yX3_keysWithValue.cls ≠ "java/lang/invoke/MethodHandle" ∧ yX3_keysWithValue.cls ≠ "java/lang/invoke/VarHandle" ∧ (parseMethodDescriptor yX3_keysWithValue.desc).map (fun d => d.parameters.length) = some 0 := by decide +kernel
set_option maxRecDepth 100000 in
set_option maxHeartbeats 4000000 in
theorem mX3_keysWithValue (l : Launch) (dC : Nat → ClassId) (dI : Nat → Nat → Nat) (cyI cyC cyO : ClassId) (ob : Nat) (a1 : Nat) (a2 : Nat) (a3 : Nat) (v_ones : Nat → Int32) (v_twos : Nat → Int32) (v_settings : Nat → Int32) (v_tick : Int32) (v_energy : Int32) (v_valuesPut : Int32)  {r : Int32} (hf : fX3_keysWithValue v_ones v_twos v_settings v_tick = some r) : MetRI l yX3_keysWithValue cX3_keysWithValue 3 (some .int) 3 66 [.ref ob] (dC, dI) (tyS cyI cyC cyO) (wX3 cyI cyC ob a1 a2 a3 v_ones v_twos v_settings v_tick v_energy v_valuesPut) r := by
  refine metRI_of (by decide) (Nat.le_of_ble_eq_true rfl) ?_
  intro p e s m below meth c ls hC hr hlk hP hK hl
  have hC : CallFix p m c cX3_keysWithValue 3 s [.ref ob].toArray wA RX3 := hC
  obtain ⟨hx, hb, hml, hown, hts⟩ := id hC
  have hS : va_S kF s.heap s.heap [] := va_S.rf
  have hl : lv_has ls 3 [(0, .ref ob)] := hl
  have h := hf
  unfold fX3_keysWithValue at h
  obtain ⟨H, hH⟩ : ∃ H, H = s.heap := ⟨_, rfl⟩
  obtain ⟨locs, hlo⟩ : ∃ locs : List Loc, locs = [] := ⟨_, rfl⟩
  rw [← hH] at hP
  rw [← hlo] at hS
  have hS : va_S kF s.heap H locs := by rw [hH]; exact hS
  show W p l e (k_rm 3 66) s m [.ref ob].toArray below meth c s.heap [] 0 0 _ _
  rw [← hlo, ← hH]
  refine lv_iconst (v := 0) hx hb dX3_keysWithValue_0 (by decide) ?_
  refine lv_istore_n (lv' := [(1, .int 0), (0, .ref ob)]) hx hb dX3_keysWithValue_1 rfl hl (by decide) rfl (fun ls hl => ?_)
  refine lv_iconst (v := 0) hx hb dX3_keysWithValue_2 (by decide) ?_
  refine lv_istore_n (lv' := [(2, .int 0), (1, .int 0), (0, .ref ob)]) hx hb dX3_keysWithValue_3 rfl hl (by decide) rfl (fun ls hl => ?_)
  obtain ⟨S4, hS4⟩ : ∃ z, z = (fX3_keysWithValue_s4 v_settings v_ones v_twos v_tick) := ⟨_, rfl⟩
  rw [← hS4] at h
  have L4 : ∀ (n : Nat) (x1 : Int32) (x2 : Int32) (H : Heap) (locs : List Loc) (ls : Array Slot), k_l2 S4 n x1 x2 = some r → va_P (dC, dI) vwCl (wX3 cyI cyC ob a1 a2 a3 v_ones v_twos v_settings v_tick v_energy v_valuesPut) H → va_S kF s.heap H locs → lv_has ls 3 [(0, .ref ob), (1, .int x1), (2, .int x2)] → W p l e (k_rm 3 66) s m [.ref ob].toArray below meth c H locs 0 0 (MQ below (qRI r) [.ref ob].toArray s 0 0 kF) (F0 m 4 ls []) := by
    intro n
    induction n with
    | zero =>
      intro x1 x2 H locs ls h
      exact (k_l2_0 h).elim
    | succ n ih4 =>
      intro x1 x2 H locs ls h hP hS hl
      have h := k_l2_s h
      have h := k_a3 hS4 h
      unfold fX3_keysWithValue_s4 at h
      refine lv_iload_n hx hb dX3_keysWithValue_4 rfl (lv_at hl 2 rfl) ?_
      refine lv_bipush (v := 16) hx hb dX3_keysWithValue_5 (by decide) ?_
      refine g_icmp_ge (tgt := 41) hx hb dX3_keysWithValue_7 (by decide) h (fun h => ?_) (fun h => ?_)
      · refine lv_iload_n hx hb dX3_keysWithValue_41 rfl (lv_at hl 1 rfl) ?_
        exact g_retRI hx hb hr hlk hS h dX3_keysWithValue_42
      · refine lv_iload_n hx hb dX3_keysWithValue_10 rfl (lv_at hl 1 rfl) ?_
        refine lv_aload_n hx hb dX3_keysWithValue_11 rfl (lv_at hl 0 rfl) ?_
        refine lv_iload_n hx hb dX3_keysWithValue_12 rfl (lv_at hl 2 rfl) ?_
        refine lv_aload_n hx hb dX3_keysWithValue_13 rfl (lv_at hl 0 rfl) ?_
        refine va_get (D := (dC, dI)) (ci := 2) (v := .int v_tick) (C := RX3) (T := TX3) (N := 6) hx hb hts iaX3 hown hK hP 0 rfl rfl 3 (by decide) (hts _ q42) (fun _ h9 => h9) rfl dX3_keysWithValue_14 ?_
        refine lv_aload_n hx hb dX3_keysWithValue_17 rfl (lv_at hl 0 rfl) ?_
        obtain ⟨x3, hc18, h⟩ := k_b1_e h
        refine g_callRI_V (As := []) (rest := [.int v_tick, .int x2, .ref ob, .int x1]) hC (mX3_readsThrice l dC dI cyI cyC cyO ob a1 a2 a3 v_ones v_twos v_settings v_tick v_energy v_valuesPut hc18) q143 q144 q145 q9 q146 0 hdX3_readsThrice ⟨Nat.le_of_ble_eq_true rfl, Nat.le_of_ble_eq_true rfl⟩ ⟨Nat.le_of_ble_eq_true rfl, Nat.le_of_ble_eq_true rfl⟩ rfl rfl hl.1 (Nat.le_of_ble_eq_true rfl) hP hK (va_recv hK hP (ci := 2) (q0 := 0) rfl rfl) hS dX3_keysWithValue_18 (fun H locs hk hS => ?_)
        have hP := k_kept hP hk
        obtain ⟨x4, hc21, h⟩ := k_b1_e h
        refine g_callRI_V (As := [.int x2, .int v_tick, .int x3]) (rest := [.int x1]) hC (mX3_entryRow l dC dI cyI cyC cyO ob a1 a2 a3 v_ones v_twos v_settings v_tick v_energy v_valuesPut x2 v_tick x3 hc21) q272 q273 q274 q9 q275 3 hdX3_entryRow ⟨Nat.le_of_ble_eq_true rfl, Nat.le_of_ble_eq_true rfl⟩ ⟨Nat.le_of_ble_eq_true rfl, Nat.le_of_ble_eq_true rfl⟩ rfl rfl hl.1 (Nat.le_of_ble_eq_true rfl) hP hK (va_recv hK hP (ci := 2) (q0 := 0) rfl rfl) hS dX3_keysWithValue_21 (fun H locs hk hS => ?_)
        have hP := k_kept hP hk
        refine lv_iconst (v := (-1)) hx hb dX3_keysWithValue_24 (by decide) ?_
        obtain ⟨K33, hK33, h⟩ := k_j1_e h
        have J33 : ∀ (x5 : Int32) (H : Heap) (locs : List Loc) (ls : Array Slot), K33 x5 = some r → va_P (dC, dI) vwCl (wX3 cyI cyC ob a1 a2 a3 v_ones v_twos v_settings v_tick v_energy v_valuesPut) H → va_S kF s.heap H locs → lv_has ls 3 [(0, .ref ob), (2, .int x2)] → W p l e (k_rm 3 66) s m [.ref ob].toArray below meth c H locs 0 0 (MQ below (qRI r) [.ref ob].toArray s 0 0 kF) (F0 m 33 ls [.int x5, .int x1]) := by
          intro x5 H locs ls h hP hS hl
          have h := k_a1 hK33 h
          refine g_iadd hx hb dX3_keysWithValue_33 h (fun x6 h => ?_)
          refine lv_istore_n (lv' := [(1, .int x6), (0, .ref ob), (2, .int x2)]) hx hb dX3_keysWithValue_34 rfl hl (by decide) rfl (fun ls hl => ?_)
          refine g_iinc (dv := 1) hx hb dX3_keysWithValue_35 hl (j := 2) rfl (by decide) (by decide) h (fun x7 ls h hl => ?_)
          have hl : lv_has ls 3 [(2, .int x7), (1, .int x6), (0, .ref ob)] := hl
          refine lv_goto (tgt := 4) hx hb dX3_keysWithValue_38 (by decide) ?_
          exact ih4 x6 x7 _ _ _ h hP hS (lv_sub hl [2, 1, 0] rfl)
        refine g_icmp_eq (tgt := 32) hx hb dX3_keysWithValue_25 (by decide) h (fun h => ?_) (fun h => ?_)
        · refine lv_iconst (v := 0) hx hb dX3_keysWithValue_32 (by decide) ?_
          exact J33 0 _ _ _ h hP hS (lv_sub hl [0, 2] rfl)
        · refine lv_iconst (v := 1) hx hb dX3_keysWithValue_28 (by decide) ?_
          refine lv_goto (tgt := 33) hx hb dX3_keysWithValue_29 (by decide) ?_
          exact J33 1 _ _ _ h hP hS (lv_sub hl [0, 2] rfl)
  exact L4 5000 0 0 _ _ _ h hP hS (lv_sub hl [2, 1, 0] rfl)
def fX3_entriesOf_s4 (v_ones : Nat → Int32) (v_twos : Nat → Int32) (v_settings : Nat → Int32) (v_tick : Int32) (p1 : Int32) (rec4 : Int32 → Int32 → Option (Int32)) (x1 : Int32) (x2 : Int32) : Option (Int32) :=
  k_if (20 ≤ x2)
  (
    some x1)
  (
    k_b1 (fX3_read v_ones v_twos v_settings v_tick x2) fun (x3 : Int32) =>
    k_b1 (fX0_keyOf x3) fun (x4 : Int32) =>
    k_j1
    (fun (x5 : Int32) =>
      k_let (x1 + x5) fun (x6 : Int32) =>
      k_let (x2 + 1) fun (x7 : Int32) =>
      rec4 x6 x7)
    (fun K41 =>
    k_if (x4 = p1)
    (
      k_b1 (fX0_kindOf x3) fun (x8 : Int32) =>
      k_if (x8 = 4)
      (
        K41 1)
      (
        K41 0))
    (
      K41 0)))
def fX3_entriesOf (v_ones : Nat → Int32) (v_twos : Nat → Int32) (v_settings : Nat → Int32) (v_tick : Int32) (p1 : Int32) : Option (Int32) :=
  k_l2 (fX3_entriesOf_s4 v_ones v_twos v_settings v_tick p1) 5000 0 0
theorem hdX3_entriesOf : yX3_entriesOf.cls = RX3 ∧ yX3_entriesOf.cls ≠ "java/lang/invoke/MethodHandle" ∧ yX3_entriesOf.cls ≠ "java/lang/invoke/VarHandle" ∧ (parseMethodDescriptor yX3_entriesOf.desc).map (fun d => d.parameters.length) = some 1 := by decide +kernel
set_option maxRecDepth 100000 in
set_option maxHeartbeats 4000000 in
theorem mX3_entriesOf (l : Launch) (dC : Nat → ClassId) (dI : Nat → Nat → Nat) (cyI cyC cyO : ClassId) (ob : Nat) (a1 : Nat) (a2 : Nat) (a3 : Nat) (v_ones : Nat → Int32) (v_twos : Nat → Int32) (v_settings : Nat → Int32) (v_tick : Int32) (v_energy : Int32) (v_valuesPut : Int32) (p1 : Int32) {r : Int32} (hf : fX3_entriesOf v_ones v_twos v_settings v_tick p1 = some r) : MetRI l yX3_entriesOf cX3_entriesOf 5 (some .int) 2 48 [.ref ob, .int p1] (dC, dI) (tyS cyI cyC cyO) (wX3 cyI cyC ob a1 a2 a3 v_ones v_twos v_settings v_tick v_energy v_valuesPut) r := by
  refine metRI_of (by decide) (Nat.le_of_ble_eq_true rfl) ?_
  intro p e s m below meth c ls hC hr hlk hP hK hl
  have hC : CallFix p m c cX3_entriesOf 5 s [.ref ob, .int p1].toArray wA RX3 := hC
  obtain ⟨hx, hb, hml, hown, hts⟩ := id hC
  have hS : va_S kF s.heap s.heap [] := va_S.rf
  have hl : lv_has ls 5 [(0, .ref ob), (1, .int p1)] := hl
  have h := hf
  unfold fX3_entriesOf at h
  obtain ⟨H, hH⟩ : ∃ H, H = s.heap := ⟨_, rfl⟩
  obtain ⟨locs, hlo⟩ : ∃ locs : List Loc, locs = [] := ⟨_, rfl⟩
  rw [← hH] at hP
  rw [← hlo] at hS
  have hS : va_S kF s.heap H locs := by rw [hH]; exact hS
  show W p l e (k_rm 2 48) s m [.ref ob, .int p1].toArray below meth c s.heap [] 0 0 _ _
  rw [← hlo, ← hH]
  refine lv_iconst (v := 0) hx hb dX3_entriesOf_0 (by decide) ?_
  refine lv_istore_n (lv' := [(2, .int 0), (0, .ref ob), (1, .int p1)]) hx hb dX3_entriesOf_1 rfl hl (by decide) rfl (fun ls hl => ?_)
  refine lv_iconst (v := 0) hx hb dX3_entriesOf_2 (by decide) ?_
  refine lv_istore_n (lv' := [(3, .int 0), (2, .int 0), (0, .ref ob), (1, .int p1)]) hx hb dX3_entriesOf_3 rfl hl (by decide) rfl (fun ls hl => ?_)
  obtain ⟨S4, hS4⟩ : ∃ z, z = (fX3_entriesOf_s4 v_ones v_twos v_settings v_tick p1) := ⟨_, rfl⟩
  rw [← hS4] at h
  have L4 : ∀ (n : Nat) (x1 : Int32) (x2 : Int32) (H : Heap) (locs : List Loc) (ls : Array Slot), k_l2 S4 n x1 x2 = some r → va_P (dC, dI) vwCl (wX3 cyI cyC ob a1 a2 a3 v_ones v_twos v_settings v_tick v_energy v_valuesPut) H → va_S kF s.heap H locs → lv_has ls 5 [(0, .ref ob), (1, .int p1), (2, .int x1), (3, .int x2)] → W p l e (k_rm 2 48) s m [.ref ob, .int p1].toArray below meth c H locs 0 0 (MQ below (qRI r) [.ref ob, .int p1].toArray s 0 0 kF) (F0 m 4 ls []) := by
    intro n
    induction n with
    | zero =>
      intro x1 x2 H locs ls h
      exact (k_l2_0 h).elim
    | succ n ih4 =>
      intro x1 x2 H locs ls h hP hS hl
      have h := k_l2_s h
      have h := k_a3 hS4 h
      unfold fX3_entriesOf_s4 at h
      refine lv_iload_n hx hb dX3_entriesOf_4 rfl (lv_at hl 3 rfl) ?_
      refine lv_bipush (v := 20) hx hb dX3_entriesOf_5 (by decide) ?_
      refine g_icmp_ge (tgt := 49) hx hb dX3_entriesOf_7 (by decide) h (fun h => ?_) (fun h => ?_)
      · refine lv_iload_n hx hb dX3_entriesOf_49 rfl (lv_at hl 2 rfl) ?_
        exact g_retRI hx hb hr hlk hS h dX3_entriesOf_50
      · refine lv_aload_n hx hb dX3_entriesOf_10 rfl (lv_at hl 0 rfl) ?_
        refine lv_iload_n hx hb dX3_entriesOf_11 rfl (lv_at hl 3 rfl) ?_
        obtain ⟨x3, hc12, h⟩ := k_b1_e h
        refine g_callRI_V (As := [.int x2]) (rest := []) hC (mX3_read l dC dI cyI cyC cyO ob a1 a2 a3 v_ones v_twos v_settings v_tick v_energy v_valuesPut x2 hc12) q139 q140 q141 q9 q142 1 hdX3_read ⟨Nat.le_of_ble_eq_true rfl, Nat.le_of_ble_eq_true rfl⟩ ⟨Nat.le_of_ble_eq_true rfl, Nat.le_of_ble_eq_true rfl⟩ rfl rfl hl.1 (Nat.le_of_ble_eq_true rfl) hP hK (va_recv hK hP (ci := 2) (q0 := 0) rfl rfl) hS dX3_entriesOf_12 (fun H locs hk hS => ?_)
        have hP := k_kept hP hk
        refine lv_istore (lv' := [(4, .int x3), (0, .ref ob), (1, .int p1), (2, .int x1), (3, .int x2)]) hx hb dX3_entriesOf_15 hl (by decide) rfl (fun ls hl => ?_)
        refine lv_iload_n hx hb dX3_entriesOf_17 rfl (lv_at hl 3 rfl) ?_
        refine lv_iload hx hb dX3_entriesOf_18 (lv_at hl 0 rfl) ?_
        obtain ⟨x4, hc20, h⟩ := k_b1_e h
        refine g_callRI_S (As := [.int x3]) (rest := [.int x1]) hC (mX0_keyOf l dC dI cyI cyC cyO x3 hc20) q158 q159 q17 q160 1 hdX0_keyOf ⟨Nat.le_of_ble_eq_true rfl, Nat.le_of_ble_eq_true rfl⟩ ⟨Nat.le_of_ble_eq_true rfl, Nat.le_of_ble_eq_true rfl⟩ rfl rfl hl.1 (Nat.le_of_ble_eq_true rfl) va_P_nil hK hS dX3_entriesOf_20 (fun H locs hk hS => ?_)
        have hP := k_kept hP hk
        refine lv_iload_n hx hb dX3_entriesOf_23 rfl (lv_at hl 2 rfl) ?_
        obtain ⟨K41, hK41, h⟩ := k_j1_e h
        have J41 : ∀ (x5 : Int32) (H : Heap) (locs : List Loc) (ls : Array Slot), K41 x5 = some r → va_P (dC, dI) vwCl (wX3 cyI cyC ob a1 a2 a3 v_ones v_twos v_settings v_tick v_energy v_valuesPut) H → va_S kF s.heap H locs → lv_has ls 5 [(0, .ref ob), (1, .int p1), (3, .int x2)] → W p l e (k_rm 2 48) s m [.ref ob, .int p1].toArray below meth c H locs 0 0 (MQ below (qRI r) [.ref ob, .int p1].toArray s 0 0 kF) (F0 m 41 ls [.int x5, .int x1]) := by
          intro x5 H locs ls h hP hS hl
          have h := k_a1 hK41 h
          refine g_iadd hx hb dX3_entriesOf_41 h (fun x6 h => ?_)
          refine lv_istore_n (lv' := [(2, .int x6), (0, .ref ob), (1, .int p1), (3, .int x2)]) hx hb dX3_entriesOf_42 rfl hl (by decide) rfl (fun ls hl => ?_)
          refine g_iinc (dv := 1) hx hb dX3_entriesOf_43 hl (j := 3) rfl (by decide) (by decide) h (fun x7 ls h hl => ?_)
          have hl : lv_has ls 5 [(3, .int x7), (2, .int x6), (0, .ref ob), (1, .int p1)] := hl
          refine lv_goto (tgt := 4) hx hb dX3_entriesOf_46 (by decide) ?_
          exact ih4 x6 x7 _ _ _ h hP hS (lv_sub hl [2, 3, 1, 0] rfl)
        refine g_icmp_ne (tgt := 40) hx hb dX3_entriesOf_24 (by decide) h (fun h => ?_) (fun h => ?_)
        · refine lv_iconst (v := 0) hx hb dX3_entriesOf_40 (by decide) ?_
          exact J41 0 _ _ _ h hP hS (lv_sub hl [1, 2, 4] rfl)
        · refine lv_iload hx hb dX3_entriesOf_27 (lv_at hl 0 rfl) ?_
          obtain ⟨x8, hc29, h⟩ := k_b1_e h
          refine g_callRI_S (As := [.int x3]) (rest := [.int x1]) hC (mX0_kindOf l dC dI cyI cyC cyO x3 hc29) q161 q162 q17 q163 1 hdX0_kindOf ⟨Nat.le_of_ble_eq_true rfl, Nat.le_of_ble_eq_true rfl⟩ ⟨Nat.le_of_ble_eq_true rfl, Nat.le_of_ble_eq_true rfl⟩ rfl rfl hl.1 (Nat.le_of_ble_eq_true rfl) va_P_nil hK hS dX3_entriesOf_29 (fun H locs hk hS => ?_)
          have hP := k_kept hP hk
          refine lv_iconst (v := 4) hx hb dX3_entriesOf_32 (by decide) ?_
          refine g_icmp_ne (tgt := 40) hx hb dX3_entriesOf_33 (by decide) h (fun h => ?_) (fun h => ?_)
          · refine lv_iconst (v := 0) hx hb dX3_entriesOf_40 (by decide) ?_
            exact J41 0 _ _ _ h hP hS (lv_sub hl [1, 2, 4] rfl)
          · refine lv_iconst (v := 1) hx hb dX3_entriesOf_36 (by decide) ?_
            refine lv_goto (tgt := 41) hx hb dX3_entriesOf_37 (by decide) ?_
            exact J41 1 _ _ _ h hP hS (lv_sub hl [1, 2, 4] rfl)
  exact L4 5000 0 0 _ _ _ h hP hS (lv_sub hl [2, 3, 1, 0] rfl)
def fX3_rowsOf_s4 (v_ones : Nat → Int32) (v_twos : Nat → Int32) (v_settings : Nat → Int32) (v_tick : Int32) (p1 : Int32) (rec4 : Int32 → Int32 → Option (Int32)) (x1 : Int32) (x2 : Int32) : Option (Int32) :=
  k_if (20 ≤ x2)
  (
    some x1)
  (
    k_b1 (fX3_isRowOf v_ones v_twos v_settings v_tick x2 p1) fun (x3 : Int32) =>
    k_j1
    (fun (x4 : Int32) =>
      k_let (x1 + x4) fun (x5 : Int32) =>
      k_let (x2 + 1) fun (x6 : Int32) =>
      rec4 x5 x6)
    (fun K25 =>
    k_if (x3 = 0)
    (
      K25 0)
    (
      K25 1)))
def fX3_rowsOf (v_ones : Nat → Int32) (v_twos : Nat → Int32) (v_settings : Nat → Int32) (v_tick : Int32) (p1 : Int32) : Option (Int32) :=
  k_l2 (fX3_rowsOf_s4 v_ones v_twos v_settings v_tick p1) 5000 0 0
theorem hdX3_rowsOf : yX3_rowsOf.cls = RX3 ∧ yX3_rowsOf.cls ≠ "java/lang/invoke/MethodHandle" ∧ yX3_rowsOf.cls ≠ "java/lang/invoke/VarHandle" ∧ (parseMethodDescriptor yX3_rowsOf.desc).map (fun d => d.parameters.length) = some 1 := by decide +kernel
set_option maxRecDepth 100000 in
set_option maxHeartbeats 4000000 in
theorem mX3_rowsOf (l : Launch) (dC : Nat → ClassId) (dI : Nat → Nat → Nat) (cyI cyC cyO : ClassId) (ob : Nat) (a1 : Nat) (a2 : Nat) (a3 : Nat) (v_ones : Nat → Int32) (v_twos : Nat → Int32) (v_settings : Nat → Int32) (v_tick : Int32) (v_energy : Int32) (v_valuesPut : Int32) (p1 : Int32) {r : Int32} (hf : fX3_rowsOf v_ones v_twos v_settings v_tick p1 = some r) : MetRI l yX3_rowsOf cX3_rowsOf 4 (some .int) 3 72 [.ref ob, .int p1] (dC, dI) (tyS cyI cyC cyO) (wX3 cyI cyC ob a1 a2 a3 v_ones v_twos v_settings v_tick v_energy v_valuesPut) r := by
  refine metRI_of (by decide) (Nat.le_of_ble_eq_true rfl) ?_
  intro p e s m below meth c ls hC hr hlk hP hK hl
  have hC : CallFix p m c cX3_rowsOf 4 s [.ref ob, .int p1].toArray wA RX3 := hC
  obtain ⟨hx, hb, hml, hown, hts⟩ := id hC
  have hS : va_S kF s.heap s.heap [] := va_S.rf
  have hl : lv_has ls 4 [(0, .ref ob), (1, .int p1)] := hl
  have h := hf
  unfold fX3_rowsOf at h
  obtain ⟨H, hH⟩ : ∃ H, H = s.heap := ⟨_, rfl⟩
  obtain ⟨locs, hlo⟩ : ∃ locs : List Loc, locs = [] := ⟨_, rfl⟩
  rw [← hH] at hP
  rw [← hlo] at hS
  have hS : va_S kF s.heap H locs := by rw [hH]; exact hS
  show W p l e (k_rm 3 72) s m [.ref ob, .int p1].toArray below meth c s.heap [] 0 0 _ _
  rw [← hlo, ← hH]
  refine lv_iconst (v := 0) hx hb dX3_rowsOf_0 (by decide) ?_
  refine lv_istore_n (lv' := [(2, .int 0), (0, .ref ob), (1, .int p1)]) hx hb dX3_rowsOf_1 rfl hl (by decide) rfl (fun ls hl => ?_)
  refine lv_iconst (v := 0) hx hb dX3_rowsOf_2 (by decide) ?_
  refine lv_istore_n (lv' := [(3, .int 0), (2, .int 0), (0, .ref ob), (1, .int p1)]) hx hb dX3_rowsOf_3 rfl hl (by decide) rfl (fun ls hl => ?_)
  obtain ⟨S4, hS4⟩ : ∃ z, z = (fX3_rowsOf_s4 v_ones v_twos v_settings v_tick p1) := ⟨_, rfl⟩
  rw [← hS4] at h
  have L4 : ∀ (n : Nat) (x1 : Int32) (x2 : Int32) (H : Heap) (locs : List Loc) (ls : Array Slot), k_l2 S4 n x1 x2 = some r → va_P (dC, dI) vwCl (wX3 cyI cyC ob a1 a2 a3 v_ones v_twos v_settings v_tick v_energy v_valuesPut) H → va_S kF s.heap H locs → lv_has ls 4 [(0, .ref ob), (1, .int p1), (2, .int x1), (3, .int x2)] → W p l e (k_rm 3 72) s m [.ref ob, .int p1].toArray below meth c H locs 0 0 (MQ below (qRI r) [.ref ob, .int p1].toArray s 0 0 kF) (F0 m 4 ls []) := by
    intro n
    induction n with
    | zero =>
      intro x1 x2 H locs ls h
      exact (k_l2_0 h).elim
    | succ n ih4 =>
      intro x1 x2 H locs ls h hP hS hl
      have h := k_l2_s h
      have h := k_a3 hS4 h
      unfold fX3_rowsOf_s4 at h
      refine lv_iload_n hx hb dX3_rowsOf_4 rfl (lv_at hl 3 rfl) ?_
      refine lv_bipush (v := 20) hx hb dX3_rowsOf_5 (by decide) ?_
      refine g_icmp_ge (tgt := 33) hx hb dX3_rowsOf_7 (by decide) h (fun h => ?_) (fun h => ?_)
      · refine lv_iload_n hx hb dX3_rowsOf_33 rfl (lv_at hl 2 rfl) ?_
        exact g_retRI hx hb hr hlk hS h dX3_rowsOf_34
      · refine lv_iload_n hx hb dX3_rowsOf_10 rfl (lv_at hl 2 rfl) ?_
        refine lv_aload_n hx hb dX3_rowsOf_11 rfl (lv_at hl 0 rfl) ?_
        refine lv_iload_n hx hb dX3_rowsOf_12 rfl (lv_at hl 3 rfl) ?_
        refine lv_iload_n hx hb dX3_rowsOf_13 rfl (lv_at hl 1 rfl) ?_
        obtain ⟨x3, hc14, h⟩ := k_b1_e h
        refine g_callRI_V (As := [.int x2, .int p1]) (rest := [.int x1]) hC (mX3_isRowOf l dC dI cyI cyC cyO ob a1 a2 a3 v_ones v_twos v_settings v_tick v_energy v_valuesPut x2 p1 hc14) q287 q288 q289 q9 q290 2 hdX3_isRowOf ⟨Nat.le_of_ble_eq_true rfl, Nat.le_of_ble_eq_true rfl⟩ ⟨Nat.le_of_ble_eq_true rfl, Nat.le_of_ble_eq_true rfl⟩ rfl rfl hl.1 (Nat.le_of_ble_eq_true rfl) hP hK (va_recv hK hP (ci := 2) (q0 := 0) rfl rfl) hS dX3_rowsOf_14 (fun H locs hk hS => ?_)
        have hP := k_kept hP hk
        obtain ⟨K25, hK25, h⟩ := k_j1_e h
        have J25 : ∀ (x4 : Int32) (H : Heap) (locs : List Loc) (ls : Array Slot), K25 x4 = some r → va_P (dC, dI) vwCl (wX3 cyI cyC ob a1 a2 a3 v_ones v_twos v_settings v_tick v_energy v_valuesPut) H → va_S kF s.heap H locs → lv_has ls 4 [(0, .ref ob), (1, .int p1), (3, .int x2)] → W p l e (k_rm 3 72) s m [.ref ob, .int p1].toArray below meth c H locs 0 0 (MQ below (qRI r) [.ref ob, .int p1].toArray s 0 0 kF) (F0 m 25 ls [.int x4, .int x1]) := by
          intro x4 H locs ls h hP hS hl
          have h := k_a1 hK25 h
          refine g_iadd hx hb dX3_rowsOf_25 h (fun x5 h => ?_)
          refine lv_istore_n (lv' := [(2, .int x5), (0, .ref ob), (1, .int p1), (3, .int x2)]) hx hb dX3_rowsOf_26 rfl hl (by decide) rfl (fun ls hl => ?_)
          refine g_iinc (dv := 1) hx hb dX3_rowsOf_27 hl (j := 3) rfl (by decide) (by decide) h (fun x6 ls h hl => ?_)
          have hl : lv_has ls 4 [(3, .int x6), (2, .int x5), (0, .ref ob), (1, .int p1)] := hl
          refine lv_goto (tgt := 4) hx hb dX3_rowsOf_30 (by decide) ?_
          exact ih4 x5 x6 _ _ _ h hP hS (lv_sub hl [2, 3, 1, 0] rfl)
        refine g_if_eq (tgt := 24) hx hb dX3_rowsOf_17 (by decide) h (fun h => ?_) (fun h => ?_)
        · refine lv_iconst (v := 0) hx hb dX3_rowsOf_24 (by decide) ?_
          exact J25 0 _ _ _ h hP hS (lv_sub hl [0, 1, 3] rfl)
        · refine lv_iconst (v := 1) hx hb dX3_rowsOf_20 (by decide) ?_
          refine lv_goto (tgt := 25) hx hb dX3_rowsOf_21 (by decide) ?_
          exact J25 1 _ _ _ h hP hS (lv_sub hl [0, 1, 3] rfl)
  exact L4 5000 0 0 _ _ _ h hP hS (lv_sub hl [2, 3, 1, 0] rfl)
def fX3_greatestValue_s4 (v_ones : Nat → Int32) (v_twos : Nat → Int32) (v_settings : Nat → Int32) (v_tick : Int32) (p1 : Int32) (rec4 : Int32 → Int32 → Option (Int32)) (x1 : Int32) (x2 : Int32) : Option (Int32) :=
  k_if (20 ≤ x2)
  (
    some x1)
  (
    k_b1 (fX3_isRowOf v_ones v_twos v_settings v_tick x2 p1) fun (x3 : Int32) =>
    k_j1
    (fun (x4 : Int32) =>
      k_let (x2 + 1) fun (x5 : Int32) =>
      rec4 x4 x5)
    (fun K32 =>
    k_if (x3 = 0)
    (
      K32 x1)
    (
      k_b1 (fX3_read v_ones v_twos v_settings v_tick x2) fun (x6 : Int32) =>
      k_b1 (fX0_valueOf x6) fun (x7 : Int32) =>
      k_let (if x1 < x7 then x7 else x1) fun (x8 : Int32) =>
      K32 x8)))
def fX3_greatestValue (v_ones : Nat → Int32) (v_twos : Nat → Int32) (v_settings : Nat → Int32) (v_tick : Int32) (p1 : Int32) : Option (Int32) :=
  k_l2 (fX3_greatestValue_s4 v_ones v_twos v_settings v_tick p1) 5000 ((-1)) 0
theorem hdX3_greatestValue : yX3_greatestValue.cls = RX3 ∧ yX3_greatestValue.cls ≠ "java/lang/invoke/MethodHandle" ∧ yX3_greatestValue.cls ≠ "java/lang/invoke/VarHandle" ∧ (parseMethodDescriptor yX3_greatestValue.desc).map (fun d => d.parameters.length) = some 1 := by decide +kernel
set_option maxRecDepth 100000 in
set_option maxHeartbeats 4000000 in
theorem mX3_greatestValue (l : Launch) (dC : Nat → ClassId) (dI : Nat → Nat → Nat) (cyI cyC cyO : ClassId) (ob : Nat) (a1 : Nat) (a2 : Nat) (a3 : Nat) (v_ones : Nat → Int32) (v_twos : Nat → Int32) (v_settings : Nat → Int32) (v_tick : Int32) (v_energy : Int32) (v_valuesPut : Int32) (p1 : Int32) {r : Int32} (hf : fX3_greatestValue v_ones v_twos v_settings v_tick p1 = some r) : MetRI l yX3_greatestValue cX3_greatestValue 4 (some .int) 3 72 [.ref ob, .int p1] (dC, dI) (tyS cyI cyC cyO) (wX3 cyI cyC ob a1 a2 a3 v_ones v_twos v_settings v_tick v_energy v_valuesPut) r := by
  refine metRI_of (by decide) (Nat.le_of_ble_eq_true rfl) ?_
  intro p e s m below meth c ls hC hr hlk hP hK hl
  have hC : CallFix p m c cX3_greatestValue 4 s [.ref ob, .int p1].toArray wA RX3 := hC
  obtain ⟨hx, hb, hml, hown, hts⟩ := id hC
  have hS : va_S kF s.heap s.heap [] := va_S.rf
  have hl : lv_has ls 4 [(0, .ref ob), (1, .int p1)] := hl
  have h := hf
  unfold fX3_greatestValue at h
  obtain ⟨H, hH⟩ : ∃ H, H = s.heap := ⟨_, rfl⟩
  obtain ⟨locs, hlo⟩ : ∃ locs : List Loc, locs = [] := ⟨_, rfl⟩
  rw [← hH] at hP
  rw [← hlo] at hS
  have hS : va_S kF s.heap H locs := by rw [hH]; exact hS
  show W p l e (k_rm 3 72) s m [.ref ob, .int p1].toArray below meth c s.heap [] 0 0 _ _
  rw [← hlo, ← hH]
  refine lv_iconst (v := (-1)) hx hb dX3_greatestValue_0 (by decide) ?_
  refine lv_istore_n (lv' := [(2, .int ((-1))), (0, .ref ob), (1, .int p1)]) hx hb dX3_greatestValue_1 rfl hl (by decide) rfl (fun ls hl => ?_)
  refine lv_iconst (v := 0) hx hb dX3_greatestValue_2 (by decide) ?_
  refine lv_istore_n (lv' := [(3, .int 0), (2, .int ((-1))), (0, .ref ob), (1, .int p1)]) hx hb dX3_greatestValue_3 rfl hl (by decide) rfl (fun ls hl => ?_)
  obtain ⟨S4, hS4⟩ : ∃ z, z = (fX3_greatestValue_s4 v_ones v_twos v_settings v_tick p1) := ⟨_, rfl⟩
  rw [← hS4] at h
  have L4 : ∀ (n : Nat) (x1 : Int32) (x2 : Int32) (H : Heap) (locs : List Loc) (ls : Array Slot), k_l2 S4 n x1 x2 = some r → va_P (dC, dI) vwCl (wX3 cyI cyC ob a1 a2 a3 v_ones v_twos v_settings v_tick v_energy v_valuesPut) H → va_S kF s.heap H locs → lv_has ls 4 [(0, .ref ob), (1, .int p1), (2, .int x1), (3, .int x2)] → W p l e (k_rm 3 72) s m [.ref ob, .int p1].toArray below meth c H locs 0 0 (MQ below (qRI r) [.ref ob, .int p1].toArray s 0 0 kF) (F0 m 4 ls []) := by
    intro n
    induction n with
    | zero =>
      intro x1 x2 H locs ls h
      exact (k_l2_0 h).elim
    | succ n ih4 =>
      intro x1 x2 H locs ls h hP hS hl
      have h := k_l2_s h
      have h := k_a3 hS4 h
      unfold fX3_greatestValue_s4 at h
      refine lv_iload_n hx hb dX3_greatestValue_4 rfl (lv_at hl 3 rfl) ?_
      refine lv_bipush (v := 20) hx hb dX3_greatestValue_5 (by decide) ?_
      refine g_icmp_ge (tgt := 38) hx hb dX3_greatestValue_7 (by decide) h (fun h => ?_) (fun h => ?_)
      · refine lv_iload_n hx hb dX3_greatestValue_38 rfl (lv_at hl 2 rfl) ?_
        exact g_retRI hx hb hr hlk hS h dX3_greatestValue_39
      · refine lv_aload_n hx hb dX3_greatestValue_10 rfl (lv_at hl 0 rfl) ?_
        refine lv_iload_n hx hb dX3_greatestValue_11 rfl (lv_at hl 3 rfl) ?_
        refine lv_iload_n hx hb dX3_greatestValue_12 rfl (lv_at hl 1 rfl) ?_
        obtain ⟨x3, hc13, h⟩ := k_b1_e h
        refine g_callRI_V (As := [.int x2, .int p1]) (rest := []) hC (mX3_isRowOf l dC dI cyI cyC cyO ob a1 a2 a3 v_ones v_twos v_settings v_tick v_energy v_valuesPut x2 p1 hc13) q287 q288 q289 q9 q290 2 hdX3_isRowOf ⟨Nat.le_of_ble_eq_true rfl, Nat.le_of_ble_eq_true rfl⟩ ⟨Nat.le_of_ble_eq_true rfl, Nat.le_of_ble_eq_true rfl⟩ rfl rfl hl.1 (Nat.le_of_ble_eq_true rfl) hP hK (va_recv hK hP (ci := 2) (q0 := 0) rfl rfl) hS dX3_greatestValue_13 (fun H locs hk hS => ?_)
        have hP := k_kept hP hk
        obtain ⟨K32, hK32, h⟩ := k_j1_e h
        have J32 : ∀ (x4 : Int32) (H : Heap) (locs : List Loc) (ls : Array Slot), K32 x4 = some r → va_P (dC, dI) vwCl (wX3 cyI cyC ob a1 a2 a3 v_ones v_twos v_settings v_tick v_energy v_valuesPut) H → va_S kF s.heap H locs → lv_has ls 4 [(0, .ref ob), (1, .int p1), (2, .int x4), (3, .int x2)] → W p l e (k_rm 3 72) s m [.ref ob, .int p1].toArray below meth c H locs 0 0 (MQ below (qRI r) [.ref ob, .int p1].toArray s 0 0 kF) (F0 m 32 ls []) := by
          intro x4 H locs ls h hP hS hl
          have h := k_a1 hK32 h
          refine g_iinc (dv := 1) hx hb dX3_greatestValue_32 hl (j := 3) rfl (by decide) (by decide) h (fun x5 ls h hl => ?_)
          have hl : lv_has ls 4 [(3, .int x5), (0, .ref ob), (1, .int p1), (2, .int x4)] := hl
          refine lv_goto (tgt := 4) hx hb dX3_greatestValue_35 (by decide) ?_
          exact ih4 x4 x5 _ _ _ h hP hS (lv_sub hl [1, 2, 3, 0] rfl)
        refine g_if_eq (tgt := 32) hx hb dX3_greatestValue_16 (by decide) h (fun h => ?_) (fun h => ?_)
        · exact J32 x1 _ _ _ h hP hS (lv_sub hl [0, 1, 2, 3] rfl)
        · refine lv_iload_n hx hb dX3_greatestValue_19 rfl (lv_at hl 2 rfl) ?_
          refine lv_aload_n hx hb dX3_greatestValue_20 rfl (lv_at hl 0 rfl) ?_
          refine lv_iload_n hx hb dX3_greatestValue_21 rfl (lv_at hl 3 rfl) ?_
          obtain ⟨x6, hc22, h⟩ := k_b1_e h
          refine g_callRI_V (As := [.int x2]) (rest := [.int x1]) hC (mX3_read l dC dI cyI cyC cyO ob a1 a2 a3 v_ones v_twos v_settings v_tick v_energy v_valuesPut x2 hc22) q139 q140 q141 q9 q142 1 hdX3_read ⟨Nat.le_of_ble_eq_true rfl, Nat.le_of_ble_eq_true rfl⟩ ⟨Nat.le_of_ble_eq_true rfl, Nat.le_of_ble_eq_true rfl⟩ rfl rfl hl.1 (Nat.le_of_ble_eq_true rfl) hP hK (va_recv hK hP (ci := 2) (q0 := 0) rfl rfl) hS dX3_greatestValue_22 (fun H locs hk hS => ?_)
          have hP := k_kept hP hk
          obtain ⟨x7, hc25, h⟩ := k_b1_e h
          refine g_callRI_S (As := [.int x6]) (rest := [.int x1]) hC (mX0_valueOf l dC dI cyI cyC cyO x6 hc25) q276 q242 q17 q243 1 hdX0_valueOf ⟨Nat.le_of_ble_eq_true rfl, Nat.le_of_ble_eq_true rfl⟩ ⟨Nat.le_of_ble_eq_true rfl, Nat.le_of_ble_eq_true rfl⟩ rfl rfl hl.1 (Nat.le_of_ble_eq_true rfl) va_P_nil hK hS dX3_greatestValue_25 (fun H locs hk hS => ?_)
          have hP := k_kept hP hk
          refine g_mmax hx hb (hml.trans hl.1.symm) hown (hts _ q181) (hts _ q182) (hts _ q19) (hts _ q183) (Nat.le_of_ble_eq_true rfl) (Nat.le_of_ble_eq_true rfl) (Nat.le_of_ble_eq_true rfl) (Nat.le_of_ble_eq_true rfl) dX3_greatestValue_28 h (fun x8 h => ?_)
          refine lv_istore_n (lv' := [(2, .int x8), (0, .ref ob), (1, .int p1), (3, .int x2)]) hx hb dX3_greatestValue_31 rfl hl (by decide) rfl (fun ls hl => ?_)
          exact J32 x8 _ _ _ h hP hS (lv_sub hl [1, 2, 0, 3] rfl)
  exact L4 5000 ((-1)) 0 _ _ _ h hP hS (lv_sub hl [2, 3, 1, 0] rfl)
def fX3_earlierValue_s6 (v_ones : Nat → Int32) (v_twos : Nat → Int32) (v_settings : Nat → Int32) (v_tick : Int32) (p1 : Int32) (K25 : Int32 → Option (Int32)) (rec6 : Int32 → Int32 → Option (Int32)) (x4 : Int32) (x5 : Int32) : Option (Int32) :=
  k_if (x5 < 0)
  (
    some ((-1)))
  (
    k_b1 (fX3_isRowOf v_ones v_twos v_settings v_tick x5 p1) fun (x6 : Int32) =>
    k_j1
    (fun (x7 : Int32) =>
      k_let (x5 + (-1)) fun (x8 : Int32) =>
      rec6 x7 x8)
    (fun K38 =>
    k_if (x6 = 0)
    (
      K38 x4)
    (
      k_if (x4 = 0)
      (
        K25 x5)
      (
        k_let (x4 + (-1)) fun (x9 : Int32) =>
        K38 x9))))
def fX3_earlierValue (v_ones : Nat → Int32) (v_twos : Nat → Int32) (v_settings : Nat → Int32) (v_tick : Int32) (p1 : Int32) (p2 : Int32) : Option (Int32) :=
  k_j1
  (fun (x1 : Int32) =>
    k_b1 (fX3_read v_ones v_twos v_settings v_tick x1) fun (x2 : Int32) =>
    k_b1 (fX0_valueOf x2) fun (x3 : Int32) =>
    some x3)
  (fun K25 =>
  k_l2 (fX3_earlierValue_s6 v_ones v_twos v_settings v_tick p1 K25) 5000 p2 19)
theorem hdX3_earlierValue : yX3_earlierValue.cls = RX3 ∧ yX3_earlierValue.cls ≠ "java/lang/invoke/MethodHandle" ∧ yX3_earlierValue.cls ≠ "java/lang/invoke/VarHandle" ∧ (parseMethodDescriptor yX3_earlierValue.desc).map (fun d => d.parameters.length) = some 2 := by decide +kernel
set_option maxRecDepth 100000 in
set_option maxHeartbeats 4000000 in
theorem mX3_earlierValue (l : Launch) (dC : Nat → ClassId) (dI : Nat → Nat → Nat) (cyI cyC cyO : ClassId) (ob : Nat) (a1 : Nat) (a2 : Nat) (a3 : Nat) (v_ones : Nat → Int32) (v_twos : Nat → Int32) (v_settings : Nat → Int32) (v_tick : Int32) (v_energy : Int32) (v_valuesPut : Int32) (p1 : Int32) (p2 : Int32) {r : Int32} (hf : fX3_earlierValue v_ones v_twos v_settings v_tick p1 p2 = some r) : MetRI l yX3_earlierValue cX3_earlierValue 5 (some .int) 3 72 [.ref ob, .int p1, .int p2] (dC, dI) (tyS cyI cyC cyO) (wX3 cyI cyC ob a1 a2 a3 v_ones v_twos v_settings v_tick v_energy v_valuesPut) r := by
  refine metRI_of (by decide) (Nat.le_of_ble_eq_true rfl) ?_
  intro p e s m below meth c ls hC hr hlk hP hK hl
  have hC : CallFix p m c cX3_earlierValue 5 s [.ref ob, .int p1, .int p2].toArray wA RX3 := hC
  obtain ⟨hx, hb, hml, hown, hts⟩ := id hC
  have hS : va_S kF s.heap s.heap [] := va_S.rf
  have hl : lv_has ls 5 [(0, .ref ob), (1, .int p1), (2, .int p2)] := hl
  have h := hf
  unfold fX3_earlierValue at h
  obtain ⟨H, hH⟩ : ∃ H, H = s.heap := ⟨_, rfl⟩
  obtain ⟨locs, hlo⟩ : ∃ locs : List Loc, locs = [] := ⟨_, rfl⟩
  rw [← hH] at hP
  rw [← hlo] at hS
  have hS : va_S kF s.heap H locs := by rw [hH]; exact hS
  show W p l e (k_rm 3 72) s m [.ref ob, .int p1, .int p2].toArray below meth c s.heap [] 0 0 _ _
  rw [← hlo, ← hH]
  refine lv_iload_n hx hb dX3_earlierValue_0 rfl (lv_at hl 2 rfl) ?_
  refine lv_istore_n (lv' := [(3, .int p2), (0, .ref ob), (1, .int p1), (2, .int p2)]) hx hb dX3_earlierValue_1 rfl hl (by decide) rfl (fun ls hl => ?_)
  refine lv_bipush (v := 19) hx hb dX3_earlierValue_2 (by decide) ?_
  refine lv_istore (lv' := [(4, .int 19), (3, .int p2), (0, .ref ob), (1, .int p1), (2, .int p2)]) hx hb dX3_earlierValue_4 hl (by decide) rfl (fun ls hl => ?_)
  obtain ⟨K25, hK25, h⟩ := k_j1_e h
  have J25 : ∀ (x1 : Int32) (H : Heap) (locs : List Loc) (ls : Array Slot), K25 x1 = some r → va_P (dC, dI) vwCl (wX3 cyI cyC ob a1 a2 a3 v_ones v_twos v_settings v_tick v_energy v_valuesPut) H → va_S kF s.heap H locs → lv_has ls 5 [(0, .ref ob), (4, .int x1)] → W p l e (k_rm 3 72) s m [.ref ob, .int p1, .int p2].toArray below meth c H locs 0 0 (MQ below (qRI r) [.ref ob, .int p1, .int p2].toArray s 0 0 kF) (F0 m 25 ls []) := by
    intro x1 H locs ls h hP hS hl
    have h := k_a1 hK25 h
    refine lv_aload_n hx hb dX3_earlierValue_25 rfl (lv_at hl 0 rfl) ?_
    refine lv_iload hx hb dX3_earlierValue_26 (lv_at hl 1 rfl) ?_
    obtain ⟨x2, hc28, h⟩ := k_b1_e h
    refine g_callRI_V (As := [.int x1]) (rest := []) hC (mX3_read l dC dI cyI cyC cyO ob a1 a2 a3 v_ones v_twos v_settings v_tick v_energy v_valuesPut x1 hc28) q139 q140 q141 q9 q142 1 hdX3_read ⟨Nat.le_of_ble_eq_true rfl, Nat.le_of_ble_eq_true rfl⟩ ⟨Nat.le_of_ble_eq_true rfl, Nat.le_of_ble_eq_true rfl⟩ rfl rfl hl.1 (Nat.le_of_ble_eq_true rfl) hP hK (va_recv hK hP (ci := 2) (q0 := 0) rfl rfl) hS dX3_earlierValue_28 (fun H locs hk hS => ?_)
    have hP := k_kept hP hk
    obtain ⟨x3, hc31, h⟩ := k_b1_e h
    refine g_callRI_S (As := [.int x2]) (rest := []) hC (mX0_valueOf l dC dI cyI cyC cyO x2 hc31) q276 q242 q17 q243 1 hdX0_valueOf ⟨Nat.le_of_ble_eq_true rfl, Nat.le_of_ble_eq_true rfl⟩ ⟨Nat.le_of_ble_eq_true rfl, Nat.le_of_ble_eq_true rfl⟩ rfl rfl hl.1 (Nat.le_of_ble_eq_true rfl) va_P_nil hK hS dX3_earlierValue_31 (fun H locs hk hS => ?_)
    have hP := k_kept hP hk
    exact g_retRI hx hb hr hlk hS h dX3_earlierValue_34
  obtain ⟨S6, hS6⟩ : ∃ z, z = (fX3_earlierValue_s6 v_ones v_twos v_settings v_tick p1 K25) := ⟨_, rfl⟩
  rw [← hS6] at h
  have L6 : ∀ (n : Nat) (x4 : Int32) (x5 : Int32) (H : Heap) (locs : List Loc) (ls : Array Slot), k_l2 S6 n x4 x5 = some r → va_P (dC, dI) vwCl (wX3 cyI cyC ob a1 a2 a3 v_ones v_twos v_settings v_tick v_energy v_valuesPut) H → va_S kF s.heap H locs → lv_has ls 5 [(0, .ref ob), (1, .int p1), (3, .int x4), (4, .int x5)] → W p l e (k_rm 3 72) s m [.ref ob, .int p1, .int p2].toArray below meth c H locs 0 0 (MQ below (qRI r) [.ref ob, .int p1, .int p2].toArray s 0 0 kF) (F0 m 6 ls []) := by
    intro n
    induction n with
    | zero =>
      intro x4 x5 H locs ls h
      exact (k_l2_0 h).elim
    | succ n ih6 =>
      intro x4 x5 H locs ls h hP hS hl
      have h := k_l2_s h
      have h := k_a3 hS6 h
      unfold fX3_earlierValue_s6 at h
      refine lv_iload hx hb dX3_earlierValue_6 (lv_at hl 3 rfl) ?_
      refine g_if_lt (tgt := 44) hx hb dX3_earlierValue_8 (by decide) h (fun h => ?_) (fun h => ?_)
      · refine lv_iconst (v := (-1)) hx hb dX3_earlierValue_44 (by decide) ?_
        exact g_retRI hx hb hr hlk hS h dX3_earlierValue_45
      · refine lv_aload_n hx hb dX3_earlierValue_11 rfl (lv_at hl 0 rfl) ?_
        refine lv_iload hx hb dX3_earlierValue_12 (lv_at hl 3 rfl) ?_
        refine lv_iload_n hx hb dX3_earlierValue_14 rfl (lv_at hl 1 rfl) ?_
        obtain ⟨x6, hc15, h⟩ := k_b1_e h
        refine g_callRI_V (As := [.int x5, .int p1]) (rest := []) hC (mX3_isRowOf l dC dI cyI cyC cyO ob a1 a2 a3 v_ones v_twos v_settings v_tick v_energy v_valuesPut x5 p1 hc15) q287 q288 q289 q9 q290 2 hdX3_isRowOf ⟨Nat.le_of_ble_eq_true rfl, Nat.le_of_ble_eq_true rfl⟩ ⟨Nat.le_of_ble_eq_true rfl, Nat.le_of_ble_eq_true rfl⟩ rfl rfl hl.1 (Nat.le_of_ble_eq_true rfl) hP hK (va_recv hK hP (ci := 2) (q0 := 0) rfl rfl) hS dX3_earlierValue_15 (fun H locs hk hS => ?_)
        have hP := k_kept hP hk
        obtain ⟨K38, hK38, h⟩ := k_j1_e h
        have J38 : ∀ (x7 : Int32) (H : Heap) (locs : List Loc) (ls : Array Slot), K38 x7 = some r → va_P (dC, dI) vwCl (wX3 cyI cyC ob a1 a2 a3 v_ones v_twos v_settings v_tick v_energy v_valuesPut) H → va_S kF s.heap H locs → lv_has ls 5 [(0, .ref ob), (1, .int p1), (3, .int x7), (4, .int x5)] → W p l e (k_rm 3 72) s m [.ref ob, .int p1, .int p2].toArray below meth c H locs 0 0 (MQ below (qRI r) [.ref ob, .int p1, .int p2].toArray s 0 0 kF) (F0 m 38 ls []) := by
          intro x7 H locs ls h hP hS hl
          have h := k_a1 hK38 h
          refine g_iinc (dv := (-1)) hx hb dX3_earlierValue_38 hl (j := 3) rfl (by decide) (by decide) h (fun x8 ls h hl => ?_)
          have hl : lv_has ls 5 [(4, .int x8), (0, .ref ob), (1, .int p1), (3, .int x7)] := hl
          refine lv_goto (tgt := 6) hx hb dX3_earlierValue_41 (by decide) ?_
          exact ih6 x7 x8 _ _ _ h hP hS (lv_sub hl [1, 2, 3, 0] rfl)
        refine g_if_eq (tgt := 38) hx hb dX3_earlierValue_18 (by decide) h (fun h => ?_) (fun h => ?_)
        · exact J38 x4 _ _ _ h hP hS (lv_sub hl [0, 1, 2, 3] rfl)
        · refine lv_iload_n hx hb dX3_earlierValue_21 rfl (lv_at hl 2 rfl) ?_
          refine g_if_ne (tgt := 35) hx hb dX3_earlierValue_22 (by decide) h (fun h => ?_) (fun h => ?_)
          · refine g_iinc (dv := (-1)) hx hb dX3_earlierValue_35 hl (j := 2) rfl (by decide) (by decide) h (fun x9 ls h hl => ?_)
            have hl : lv_has ls 5 [(3, .int x9), (0, .ref ob), (1, .int p1), (4, .int x5)] := hl
            exact J38 x9 _ _ _ h hP hS (lv_sub hl [1, 2, 0, 3] rfl)
          · exact J25 x5 _ _ _ h hP hS (lv_sub hl [0, 3] rfl)
  exact L6 5000 p2 19 _ _ _ h hP hS (lv_sub hl [2, 3, 1, 0] rfl)
def fX3_steadyReadings_s16 (v_tick : Int32) (v_ones : Nat → Int32) (v_twos : Nat → Int32) (p1 : Int32) (x1 : Int32) (rec16 : Int32 → Int32 → Option (Int32)) (x2 : Int32) (x3 : Int32) : Option (Int32) :=
  k_if (3 ≤ x3)
  (
    some x2)
  (
    k_let (v_tick + x3) fun (x4 : Int32) =>
    k_b1 (fX3_valueAt v_ones v_twos p1 x4 0) fun (x5 : Int32) =>
    k_j1
    (fun (x6 : Int32) =>
      k_let (x2 + x6) fun (x7 : Int32) =>
      k_let (x3 + 1) fun (x8 : Int32) =>
      rec16 x7 x8)
    (fun K45 =>
    k_if (x5 = x1)
    (
      K45 1)
    (
      K45 0)))
def fX3_steadyReadings (v_ones : Nat → Int32) (v_twos : Nat → Int32) (v_tick : Int32) (p1 : Int32) : Option (Int32) :=
  k_b1 (fX3_valueAt v_ones v_twos p1 v_tick 1) fun (x1 : Int32) =>
  k_l2 (fX3_steadyReadings_s16 v_tick v_ones v_twos p1 x1) 5000 0 0
theorem hdX3_steadyReadings : yX3_steadyReadings.cls = RX3 ∧ yX3_steadyReadings.cls ≠ "java/lang/invoke/MethodHandle" ∧ yX3_steadyReadings.cls ≠ "java/lang/invoke/VarHandle" ∧ (parseMethodDescriptor yX3_steadyReadings.desc).map (fun d => d.parameters.length) = some 1 := by decide +kernel
set_option maxRecDepth 100000 in
set_option maxHeartbeats 4000000 in
theorem mX3_steadyReadings (l : Launch) (dC : Nat → ClassId) (dI : Nat → Nat → Nat) (cyI cyC cyO : ClassId) (ob : Nat) (a1 : Nat) (a2 : Nat) (a3 : Nat) (v_ones : Nat → Int32) (v_twos : Nat → Int32) (v_settings : Nat → Int32) (v_tick : Int32) (v_energy : Int32) (v_valuesPut : Int32) (p1 : Int32) {r : Int32} (hf : fX3_steadyReadings v_ones v_twos v_tick p1 = some r) : MetRI l yX3_steadyReadings cX3_steadyReadings 5 (some .int) 4 90 [.ref ob, .int p1] (dC, dI) (tyS cyI cyC cyO) (wX3 cyI cyC ob a1 a2 a3 v_ones v_twos v_settings v_tick v_energy v_valuesPut) r := by
  refine metRI_of (by decide) (Nat.le_of_ble_eq_true rfl) ?_
  intro p e s m below meth c ls hC hr hlk hP hK hl
  have hC : CallFix p m c cX3_steadyReadings 5 s [.ref ob, .int p1].toArray wA RX3 := hC
  obtain ⟨hx, hb, hml, hown, hts⟩ := id hC
  have hS : va_S kF s.heap s.heap [] := va_S.rf
  have hl : lv_has ls 5 [(0, .ref ob), (1, .int p1)] := hl
  have h := hf
  unfold fX3_steadyReadings at h
  obtain ⟨H, hH⟩ : ∃ H, H = s.heap := ⟨_, rfl⟩
  obtain ⟨locs, hlo⟩ : ∃ locs : List Loc, locs = [] := ⟨_, rfl⟩
  rw [← hH] at hP
  rw [← hlo] at hS
  have hS : va_S kF s.heap H locs := by rw [hH]; exact hS
  show W p l e (k_rm 4 90) s m [.ref ob, .int p1].toArray below meth c s.heap [] 0 0 _ _
  rw [← hlo, ← hH]
  refine lv_aload_n hx hb dX3_steadyReadings_0 rfl (lv_at hl 0 rfl) ?_
  refine lv_iload_n hx hb dX3_steadyReadings_1 rfl (lv_at hl 1 rfl) ?_
  refine lv_aload_n hx hb dX3_steadyReadings_2 rfl (lv_at hl 0 rfl) ?_
  refine va_get (D := (dC, dI)) (ci := 2) (v := .int v_tick) (C := RX3) (T := TX3) (N := 6) hx hb hts iaX3 hown hK hP 0 rfl rfl 3 (by decide) (hts _ q42) (fun _ h9 => h9) rfl dX3_steadyReadings_3 ?_
  refine lv_iconst (v := 1) hx hb dX3_steadyReadings_6 (by decide) ?_
  obtain ⟨x1, hc7, h⟩ := k_b1_e h
  refine g_callRI_V (As := [.int p1, .int v_tick, .int 1]) (rest := []) hC (mX3_valueAt l dC dI cyI cyC cyO ob a1 a2 a3 v_ones v_twos v_settings v_tick v_energy v_valuesPut p1 v_tick 1 hc7) q268 q269 q270 q9 q271 3 hdX3_valueAt ⟨Nat.le_of_ble_eq_true rfl, Nat.le_of_ble_eq_true rfl⟩ ⟨Nat.le_of_ble_eq_true rfl, Nat.le_of_ble_eq_true rfl⟩ rfl rfl hl.1 (Nat.le_of_ble_eq_true rfl) hP hK (va_recv hK hP (ci := 2) (q0 := 0) rfl rfl) hS dX3_steadyReadings_7 (fun H locs hk hS => ?_)
  have hP := k_kept hP hk
  refine lv_istore_n (lv' := [(2, .int x1), (0, .ref ob), (1, .int p1)]) hx hb dX3_steadyReadings_10 rfl hl (by decide) rfl (fun ls hl => ?_)
  refine lv_iconst (v := 0) hx hb dX3_steadyReadings_11 (by decide) ?_
  refine lv_istore_n (lv' := [(3, .int 0), (2, .int x1), (0, .ref ob), (1, .int p1)]) hx hb dX3_steadyReadings_12 rfl hl (by decide) rfl (fun ls hl => ?_)
  refine lv_iconst (v := 0) hx hb dX3_steadyReadings_13 (by decide) ?_
  refine lv_istore (lv' := [(4, .int 0), (3, .int 0), (2, .int x1), (0, .ref ob), (1, .int p1)]) hx hb dX3_steadyReadings_14 hl (by decide) rfl (fun ls hl => ?_)
  obtain ⟨S16, hS16⟩ : ∃ z, z = (fX3_steadyReadings_s16 v_tick v_ones v_twos p1 x1) := ⟨_, rfl⟩
  rw [← hS16] at h
  have L16 : ∀ (n : Nat) (x2 : Int32) (x3 : Int32) (H : Heap) (locs : List Loc) (ls : Array Slot), k_l2 S16 n x2 x3 = some r → va_P (dC, dI) vwCl (wX3 cyI cyC ob a1 a2 a3 v_ones v_twos v_settings v_tick v_energy v_valuesPut) H → va_S kF s.heap H locs → lv_has ls 5 [(0, .ref ob), (1, .int p1), (2, .int x1), (3, .int x2), (4, .int x3)] → W p l e (k_rm 4 90) s m [.ref ob, .int p1].toArray below meth c H locs 0 0 (MQ below (qRI r) [.ref ob, .int p1].toArray s 0 0 kF) (F0 m 16 ls []) := by
    intro n
    induction n with
    | zero =>
      intro x2 x3 H locs ls h
      exact (k_l2_0 h).elim
    | succ n ih16 =>
      intro x2 x3 H locs ls h hP hS hl
      have h := k_l2_s h
      have h := k_a3 hS16 h
      unfold fX3_steadyReadings_s16 at h
      refine lv_iload hx hb dX3_steadyReadings_16 (lv_at hl 4 rfl) ?_
      refine lv_iconst (v := 3) hx hb dX3_steadyReadings_18 (by decide) ?_
      refine g_icmp_ge (tgt := 53) hx hb dX3_steadyReadings_19 (by decide) h (fun h => ?_) (fun h => ?_)
      · refine lv_iload_n hx hb dX3_steadyReadings_53 rfl (lv_at hl 3 rfl) ?_
        exact g_retRI hx hb hr hlk hS h dX3_steadyReadings_54
      · refine lv_iload_n hx hb dX3_steadyReadings_22 rfl (lv_at hl 3 rfl) ?_
        refine lv_aload_n hx hb dX3_steadyReadings_23 rfl (lv_at hl 0 rfl) ?_
        refine lv_iload_n hx hb dX3_steadyReadings_24 rfl (lv_at hl 1 rfl) ?_
        refine lv_aload_n hx hb dX3_steadyReadings_25 rfl (lv_at hl 0 rfl) ?_
        refine va_get (D := (dC, dI)) (ci := 2) (v := .int v_tick) (C := RX3) (T := TX3) (N := 6) hx hb hts iaX3 hown hK hP 0 rfl rfl 3 (by decide) (hts _ q42) (fun _ h9 => h9) rfl dX3_steadyReadings_26 ?_
        refine lv_iload hx hb dX3_steadyReadings_29 (lv_at hl 4 rfl) ?_
        refine g_iadd hx hb dX3_steadyReadings_31 h (fun x4 h => ?_)
        refine lv_iconst (v := 0) hx hb dX3_steadyReadings_32 (by decide) ?_
        obtain ⟨x5, hc33, h⟩ := k_b1_e h
        refine g_callRI_V (As := [.int p1, .int x4, .int 0]) (rest := [.int x2]) hC (mX3_valueAt l dC dI cyI cyC cyO ob a1 a2 a3 v_ones v_twos v_settings v_tick v_energy v_valuesPut p1 x4 0 hc33) q268 q269 q270 q9 q271 3 hdX3_valueAt ⟨Nat.le_of_ble_eq_true rfl, Nat.le_of_ble_eq_true rfl⟩ ⟨Nat.le_of_ble_eq_true rfl, Nat.le_of_ble_eq_true rfl⟩ rfl rfl hl.1 (Nat.le_of_ble_eq_true rfl) hP hK (va_recv hK hP (ci := 2) (q0 := 0) rfl rfl) hS dX3_steadyReadings_33 (fun H locs hk hS => ?_)
        have hP := k_kept hP hk
        refine lv_iload_n hx hb dX3_steadyReadings_36 rfl (lv_at hl 2 rfl) ?_
        obtain ⟨K45, hK45, h⟩ := k_j1_e h
        have J45 : ∀ (x6 : Int32) (H : Heap) (locs : List Loc) (ls : Array Slot), K45 x6 = some r → va_P (dC, dI) vwCl (wX3 cyI cyC ob a1 a2 a3 v_ones v_twos v_settings v_tick v_energy v_valuesPut) H → va_S kF s.heap H locs → lv_has ls 5 [(0, .ref ob), (1, .int p1), (2, .int x1), (4, .int x3)] → W p l e (k_rm 4 90) s m [.ref ob, .int p1].toArray below meth c H locs 0 0 (MQ below (qRI r) [.ref ob, .int p1].toArray s 0 0 kF) (F0 m 45 ls [.int x6, .int x2]) := by
          intro x6 H locs ls h hP hS hl
          have h := k_a1 hK45 h
          refine g_iadd hx hb dX3_steadyReadings_45 h (fun x7 h => ?_)
          refine lv_istore_n (lv' := [(3, .int x7), (0, .ref ob), (1, .int p1), (2, .int x1), (4, .int x3)]) hx hb dX3_steadyReadings_46 rfl hl (by decide) rfl (fun ls hl => ?_)
          refine g_iinc (dv := 1) hx hb dX3_steadyReadings_47 hl (j := 4) rfl (by decide) (by decide) h (fun x8 ls h hl => ?_)
          have hl : lv_has ls 5 [(4, .int x8), (3, .int x7), (0, .ref ob), (1, .int p1), (2, .int x1)] := hl
          refine lv_goto (tgt := 16) hx hb dX3_steadyReadings_50 (by decide) ?_
          exact ih16 x7 x8 _ _ _ h hP hS (lv_sub hl [2, 3, 4, 1, 0] rfl)
        refine g_icmp_ne (tgt := 44) hx hb dX3_steadyReadings_37 (by decide) h (fun h => ?_) (fun h => ?_)
        · refine lv_iconst (v := 0) hx hb dX3_steadyReadings_44 (by decide) ?_
          exact J45 0 _ _ _ h hP hS (lv_sub hl [0, 1, 2, 4] rfl)
        · refine lv_iconst (v := 1) hx hb dX3_steadyReadings_40 (by decide) ?_
          refine lv_goto (tgt := 45) hx hb dX3_steadyReadings_41 (by decide) ?_
          exact J45 1 _ _ _ h hP hS (lv_sub hl [0, 1, 2, 4] rfl)
  exact L16 5000 0 0 _ _ _ h hP hS (lv_sub hl [3, 4, 2, 1, 0] rfl)
def fX3_blowFuse (v_ones : Nat → Int32) (v_twos : Nat → Int32) (v_energy : Int32) (p1 : Int32) (p2 : Int32) (p3 : Int32) : Option ((Nat → Int32) × (Nat → Int32) × Int32) :=
  k_b1 (fX3_strength v_ones v_twos p1 p2) fun (x1 : Int32) =>
  k_let (if x1 < p3 then p3 else x1) fun (x2 : Int32) =>
  k_ck p1 20 <| k_let (v_ones p1.toNatClampNeg) fun (x3 : Int32) =>
  k_let ((1 : Int32) <<< (p2 &&& 31)) fun (x4 : Int32) =>
  k_let (x4 ^^^ ((-1))) fun (x5 : Int32) =>
  k_let (x3 &&& x5) fun (x6 : Int32) =>
  k_let (x2 &&& 1) fun (x7 : Int32) =>
  k_let ((x7 : Int32) <<< (p2 &&& 31)) fun (x8 : Int32) =>
  k_let (x6 ||| x8) fun (x9 : Int32) =>
  k_ck p1 20 <| k_let (upd v_ones p1.toNatClampNeg x9) fun (c10 : Nat → Int32) =>
  k_ck p1 20 <| k_let (v_twos p1.toNatClampNeg) fun (x11 : Int32) =>
  k_let ((1 : Int32) <<< (p2 &&& 31)) fun (x12 : Int32) =>
  k_let (x12 ^^^ ((-1))) fun (x13 : Int32) =>
  k_let (x11 &&& x13) fun (x14 : Int32) =>
  k_let (x2 >>> (1 &&& 31)) fun (x15 : Int32) =>
  k_let ((x15 : Int32) <<< (p2 &&& 31)) fun (x16 : Int32) =>
  k_let (x14 ||| x16) fun (x17 : Int32) =>
  k_ck p1 20 <| k_let (upd v_twos p1.toNatClampNeg x17) fun (c18 : Nat → Int32) =>
  k_let (v_energy + p3) fun (x19 : Int32) =>
  some (c10, c18, x19)
theorem hdX3_blowFuse : yX3_blowFuse.cls = RX3 ∧ yX3_blowFuse.cls ≠ "java/lang/invoke/MethodHandle" ∧ yX3_blowFuse.cls ≠ "java/lang/invoke/VarHandle" ∧ (parseMethodDescriptor yX3_blowFuse.desc).map (fun d => d.parameters.length) = some 3 := by decide +kernel
set_option maxRecDepth 100000 in
set_option maxHeartbeats 4000000 in
theorem mX3_blowFuse (l : Launch) (dC : Nat → ClassId) (dI : Nat → Nat → Nat) (cyI cyC cyO : ClassId) (ob : Nat) (a1 : Nat) (a2 : Nat) (a3 : Nat) (v_ones : Nat → Int32) (v_twos : Nat → Int32) (v_settings : Nat → Int32) (v_tick : Int32) (v_energy : Int32) (v_valuesPut : Int32) (p1 : Int32) (p2 : Int32) (p3 : Int32) {r_ones : Nat → Int32} {r_twos : Nat → Int32} {r_energy : Int32} (hf : fX3_blowFuse v_ones v_twos v_energy p1 p2 p3 = some (r_ones, r_twos, r_energy)) : MetMV l yX3_blowFuse cX3_blowFuse 5 none 1 22 [.ref ob, .int p1, .int p2, .int p3] (dC, dI) (tyS cyI cyC cyO) (wX3 cyI cyC ob a1 a2 a3 v_ones v_twos v_settings v_tick v_energy v_valuesPut) (wX3 cyI cyC ob a1 a2 a3 r_ones r_twos v_settings v_tick r_energy v_valuesPut) := by
  refine metMV_of (by decide) (Nat.le_of_ble_eq_true rfl) ?_
  intro p e s m below meth c ls hC hr hlk hP hK hD hl
  have hC : CallFix p m c cX3_blowFuse 5 s [.ref ob, .int p1, .int p2, .int p3].toArray wA RX3 := hC
  obtain ⟨hx, hb, hml, hown, hts⟩ := id hC
  have hS : va_S (k_A (wX3 cyI cyC ob a1 a2 a3 v_ones v_twos v_settings v_tick v_energy v_valuesPut)) s.heap s.heap [] := va_S.rf
  have hl : lv_has ls 5 [(0, .ref ob), (1, .int p1), (2, .int p2), (3, .int p3)] := hl
  have h := hf
  unfold fX3_blowFuse at h
  obtain ⟨H, hH⟩ : ∃ H, H = s.heap := ⟨_, rfl⟩
  obtain ⟨locs, hlo⟩ : ∃ locs : List Loc, locs = [] := ⟨_, rfl⟩
  rw [← hH] at hP
  rw [← hlo] at hS
  have hS : va_S (k_A (wX3 cyI cyC ob a1 a2 a3 v_ones v_twos v_settings v_tick v_energy v_valuesPut)) s.heap H locs := by rw [hH]; exact hS
  show W p l e (k_rm 1 22) s m [.ref ob, .int p1, .int p2, .int p3].toArray below meth c s.heap [] 0 0 _ _
  rw [← hlo, ← hH]
  refine lv_aload_n hx hb dX3_blowFuse_0 rfl (lv_at hl 0 rfl) ?_
  refine lv_iload_n hx hb dX3_blowFuse_1 rfl (lv_at hl 1 rfl) ?_
  refine lv_iload_n hx hb dX3_blowFuse_2 rfl (lv_at hl 2 rfl) ?_
  obtain ⟨x1, hc3, h⟩ := k_b1_e h
  refine g_callRI_V (As := [.int p1, .int p2]) (rest := []) hC (mX3_strength l dC dI cyI cyC cyO ob a1 a2 a3 v_ones v_twos v_settings v_tick v_energy v_valuesPut p1 p2 hc3) q177 q178 q179 q9 q180 2 hdX3_strength ⟨Nat.le_of_ble_eq_true rfl, Nat.le_of_ble_eq_true rfl⟩ ⟨Nat.le_of_ble_eq_true rfl, Nat.le_of_ble_eq_true rfl⟩ rfl rfl hl.1 (Nat.le_of_ble_eq_true rfl) hP hK (va_recv hK hP (ci := 2) (q0 := 0) rfl rfl) hS dX3_blowFuse_3 (fun H locs hk hS => ?_)
  have hP := k_kept hP hk
  refine lv_iload_n hx hb dX3_blowFuse_6 rfl (lv_at hl 3 rfl) ?_
  refine g_mmax hx hb (hml.trans hl.1.symm) hown (hts _ q181) (hts _ q182) (hts _ q19) (hts _ q183) (Nat.le_of_ble_eq_true rfl) (Nat.le_of_ble_eq_true rfl) (Nat.le_of_ble_eq_true rfl) (Nat.le_of_ble_eq_true rfl) dX3_blowFuse_7 h (fun x2 h => ?_)
  refine lv_istore (lv' := [(4, .int x2), (0, .ref ob), (1, .int p1), (2, .int p2), (3, .int p3)]) hx hb dX3_blowFuse_10 hl (by decide) rfl (fun ls hl => ?_)
  refine lv_aload_n hx hb dX3_blowFuse_12 rfl (lv_at hl 1 rfl) ?_
  refine va_get (D := (dC, dI)) (ci := 2) (v := .ref a1) (C := RX3) (T := TX3) (N := 6) hx hb hts iaX3 hown hK hP 0 rfl rfl 0 (by decide) (hts _ q36) (fun _ h9 => h9) rfl dX3_blowFuse_13 ?_
  refine lv_iload_n hx hb dX3_blowFuse_16 rfl (lv_at hl 2 rfl) ?_
  refine lv_aload_n hx hb dX3_blowFuse_17 rfl (lv_at hl 1 rfl) ?_
  refine va_get (D := (dC, dI)) (ci := 2) (v := .ref a1) (C := RX3) (T := TX3) (N := 6) hx hb hts iaX3 hown hK hP 0 rfl rfl 0 (by decide) (hts _ q36) (fun _ h9 => h9) rfl dX3_blowFuse_18 ?_
  refine lv_iload_n hx hb dX3_blowFuse_21 rfl (lv_at hl 2 rfl) ?_
  refine g_iald hx hb hK hP 1 0 rfl rfl dX3_blowFuse_22 h (fun x3 h => ?_)
  refine lv_iconst (v := 1) hx hb dX3_blowFuse_23 (by decide) ?_
  refine lv_iload_n hx hb dX3_blowFuse_24 rfl (lv_at hl 3 rfl) ?_
  refine g_ishl hx hb dX3_blowFuse_25 h (fun x4 h => ?_)
  refine lv_iconst (v := (-1)) hx hb dX3_blowFuse_26 (by decide) ?_
  refine g_ixor hx hb dX3_blowFuse_27 h (fun x5 h => ?_)
  refine g_iand hx hb dX3_blowFuse_28 h (fun x6 h => ?_)
  refine lv_iload hx hb dX3_blowFuse_29 (lv_at hl 0 rfl) ?_
  refine lv_iconst (v := 1) hx hb dX3_blowFuse_31 (by decide) ?_
  refine g_iand hx hb dX3_blowFuse_32 h (fun x7 h => ?_)
  refine lv_iload_n hx hb dX3_blowFuse_33 rfl (lv_at hl 3 rfl) ?_
  refine g_ishl hx hb dX3_blowFuse_34 h (fun x8 h => ?_)
  refine g_ior hx hb dX3_blowFuse_35 h (fun x9 h => ?_)
  refine g_iast hx hb hK hP hD hS 1 0 rfl rfl dX3_blowFuse_36 h (fun c10 H locs h hP hS => ?_)
  have hP : va_P (dC, dI) vwCl (wX3 cyI cyC ob a1 a2 a3 c10 v_twos v_settings v_tick v_energy v_valuesPut) H := hP
  have hD : va_D (k_A (wX3 cyI cyC ob a1 a2 a3 v_ones v_twos v_settings v_tick v_energy v_valuesPut)) (wX3 cyI cyC ob a1 a2 a3 c10 v_twos v_settings v_tick v_energy v_valuesPut) := k_Dm hD rfl
  refine lv_aload_n hx hb dX3_blowFuse_37 rfl (lv_at hl 1 rfl) ?_
  refine va_get (D := (dC, dI)) (ci := 2) (v := .ref a2) (C := RX3) (T := TX3) (N := 6) hx hb hts iaX3 hown hK hP 0 rfl rfl 1 (by decide) (hts _ q38) (fun _ h9 => h9) rfl dX3_blowFuse_38 ?_
  refine lv_iload_n hx hb dX3_blowFuse_41 rfl (lv_at hl 2 rfl) ?_
  refine lv_aload_n hx hb dX3_blowFuse_42 rfl (lv_at hl 1 rfl) ?_
  refine va_get (D := (dC, dI)) (ci := 2) (v := .ref a2) (C := RX3) (T := TX3) (N := 6) hx hb hts iaX3 hown hK hP 0 rfl rfl 1 (by decide) (hts _ q38) (fun _ h9 => h9) rfl dX3_blowFuse_43 ?_
  refine lv_iload_n hx hb dX3_blowFuse_46 rfl (lv_at hl 2 rfl) ?_
  refine g_iald hx hb hK hP 2 0 rfl rfl dX3_blowFuse_47 h (fun x11 h => ?_)
  refine lv_iconst (v := 1) hx hb dX3_blowFuse_48 (by decide) ?_
  refine lv_iload_n hx hb dX3_blowFuse_49 rfl (lv_at hl 3 rfl) ?_
  refine g_ishl hx hb dX3_blowFuse_50 h (fun x12 h => ?_)
  refine lv_iconst (v := (-1)) hx hb dX3_blowFuse_51 (by decide) ?_
  refine g_ixor hx hb dX3_blowFuse_52 h (fun x13 h => ?_)
  refine g_iand hx hb dX3_blowFuse_53 h (fun x14 h => ?_)
  refine lv_iload hx hb dX3_blowFuse_54 (lv_at hl 0 rfl) ?_
  refine lv_iconst (v := 1) hx hb dX3_blowFuse_56 (by decide) ?_
  refine g_ishr hx hb dX3_blowFuse_57 h (fun x15 h => ?_)
  refine lv_iload_n hx hb dX3_blowFuse_58 rfl (lv_at hl 3 rfl) ?_
  refine g_ishl hx hb dX3_blowFuse_59 h (fun x16 h => ?_)
  refine g_ior hx hb dX3_blowFuse_60 h (fun x17 h => ?_)
  refine g_iast hx hb hK hP hD hS 2 0 rfl rfl dX3_blowFuse_61 h (fun c18 H locs h hP hS => ?_)
  have hP : va_P (dC, dI) vwCl (wX3 cyI cyC ob a1 a2 a3 c10 c18 v_settings v_tick v_energy v_valuesPut) H := hP
  have hD : va_D (k_A (wX3 cyI cyC ob a1 a2 a3 v_ones v_twos v_settings v_tick v_energy v_valuesPut)) (wX3 cyI cyC ob a1 a2 a3 c10 c18 v_settings v_tick v_energy v_valuesPut) := k_Dm hD rfl
  refine lv_aload_n hx hb dX3_blowFuse_62 rfl (lv_at hl 1 rfl) ?_
  refine lv_dup hx hb dX3_blowFuse_63 rfl ?_
  refine va_get (D := (dC, dI)) (ci := 2) (v := .int v_energy) (C := RX3) (T := TX3) (N := 6) hx hb hts iaX3 hown hK hP 0 rfl rfl 4 (by decide) (hts _ q44) (fun _ h9 => h9) rfl dX3_blowFuse_64 ?_
  refine lv_iload_n hx hb dX3_blowFuse_67 rfl (lv_at hl 4 rfl) ?_
  refine g_iadd hx hb dX3_blowFuse_68 h (fun x19 h => ?_)
  refine va_put (D := (dC, dI)) (ci := 2) (v := .int x19) (ty := .int) (C := RX3) (T := TX3) (N := 6) hx hb hts iaX3 tyX3 tyX3_ok nmX3 hown hK hP hD hS 0 rfl rfl 4 (by decide) (hts _ q44) (fun _ h9 => h9) rfl (by decide +kernel) rfl rfl (Nat.le_of_ble_eq_true rfl) dX3_blowFuse_69 (fun H locs hP _ hS => ?_)
  have hP : va_P (dC, dI) vwCl (wX3 cyI cyC ob a1 a2 a3 c10 c18 v_settings v_tick x19 v_valuesPut) H := hP
  have hD : va_D (k_A (wX3 cyI cyC ob a1 a2 a3 v_ones v_twos v_settings v_tick v_energy v_valuesPut)) (wX3 cyI cyC ob a1 a2 a3 c10 c18 v_settings v_tick x19 v_valuesPut) := k_Dm hD rfl
  obtain ⟨e0, e1, e2⟩ := k_t3 h
  exact g_retMV hx hb hr hlk hS (by rw [← e0, ← e1, ← e2]; exact hP) dX3_blowFuse_72
def fX3_blowFuses_s3 (p2 : Int32) (p1 : Int32) (p3 : Int32) (rec3 : Int32 → (Nat → Int32) → (Nat → Int32) → Int32 → Option ((Nat → Int32) × (Nat → Int32) × Int32)) (x1 : Int32) (c2 : Nat → Int32) (c3 : Nat → Int32) (c4 : Int32) : Option ((Nat → Int32) × (Nat → Int32) × Int32) :=
  k_if (16 ≤ x1)
  (
    some (c2, c3, c4))
  (
    k_let (p2 >>> (x1 &&& 31)) fun (x5 : Int32) =>
    k_let (x5 &&& 1) fun (x6 : Int32) =>
    k_j3
    (fun (c7 : Nat → Int32) (c8 : Nat → Int32) (c9 : Int32) =>
      k_let (x1 + 1) fun (x10 : Int32) =>
      rec3 x10 c7 c8 c9)
    (fun K28 =>
    k_if (x6 = 1)
    (
      k_b3 (fX3_blowFuse c2 c3 c4 p1 x1 p3) fun (c11 : Nat → Int32) (c12 : Nat → Int32) (c13 : Int32) =>
      K28 c11 c12 c13)
    (
      K28 c2 c3 c4)))
def fX3_blowFuses (v_ones : Nat → Int32) (v_twos : Nat → Int32) (v_energy : Int32) (p1 : Int32) (p2 : Int32) (p3 : Int32) : Option ((Nat → Int32) × (Nat → Int32) × Int32) :=
  k_l4 (fX3_blowFuses_s3 p2 p1 p3) 5000 0 v_ones v_twos v_energy
theorem hdX3_blowFuses : yX3_blowFuses.cls = RX3 ∧ yX3_blowFuses.cls ≠ "java/lang/invoke/MethodHandle" ∧ yX3_blowFuses.cls ≠ "java/lang/invoke/VarHandle" ∧ (parseMethodDescriptor yX3_blowFuses.desc).map (fun d => d.parameters.length) = some 3 := by decide +kernel
set_option maxRecDepth 100000 in
set_option maxHeartbeats 4000000 in
theorem mX3_blowFuses (l : Launch) (dC : Nat → ClassId) (dI : Nat → Nat → Nat) (cyI cyC cyO : ClassId) (ob : Nat) (a1 : Nat) (a2 : Nat) (a3 : Nat) (v_ones : Nat → Int32) (v_twos : Nat → Int32) (v_settings : Nat → Int32) (v_tick : Int32) (v_energy : Int32) (v_valuesPut : Int32) (p1 : Int32) (p2 : Int32) (p3 : Int32) {r_ones : Nat → Int32} {r_twos : Nat → Int32} {r_energy : Int32} (hf : fX3_blowFuses v_ones v_twos v_energy p1 p2 p3 = some (r_ones, r_twos, r_energy)) : MetMV l yX3_blowFuses cX3_blowFuses 5 none 2 46 [.ref ob, .int p1, .int p2, .int p3] (dC, dI) (tyS cyI cyC cyO) (wX3 cyI cyC ob a1 a2 a3 v_ones v_twos v_settings v_tick v_energy v_valuesPut) (wX3 cyI cyC ob a1 a2 a3 r_ones r_twos v_settings v_tick r_energy v_valuesPut) := by
  refine metMV_of (by decide) (Nat.le_of_ble_eq_true rfl) ?_
  intro p e s m below meth c ls hC hr hlk hP hK hD hl
  have hC : CallFix p m c cX3_blowFuses 5 s [.ref ob, .int p1, .int p2, .int p3].toArray wA RX3 := hC
  obtain ⟨hx, hb, hml, hown, hts⟩ := id hC
  have hS : va_S (k_A (wX3 cyI cyC ob a1 a2 a3 v_ones v_twos v_settings v_tick v_energy v_valuesPut)) s.heap s.heap [] := va_S.rf
  have hl : lv_has ls 5 [(0, .ref ob), (1, .int p1), (2, .int p2), (3, .int p3)] := hl
  have h := hf
  unfold fX3_blowFuses at h
  obtain ⟨H, hH⟩ : ∃ H, H = s.heap := ⟨_, rfl⟩
  obtain ⟨locs, hlo⟩ : ∃ locs : List Loc, locs = [] := ⟨_, rfl⟩
  rw [← hH] at hP
  rw [← hlo] at hS
  have hS : va_S (k_A (wX3 cyI cyC ob a1 a2 a3 v_ones v_twos v_settings v_tick v_energy v_valuesPut)) s.heap H locs := by rw [hH]; exact hS
  show W p l e (k_rm 2 46) s m [.ref ob, .int p1, .int p2, .int p3].toArray below meth c s.heap [] 0 0 _ _
  rw [← hlo, ← hH]
  refine lv_iconst (v := 0) hx hb dX3_blowFuses_0 (by decide) ?_
  refine lv_istore (lv' := [(4, .int 0), (0, .ref ob), (1, .int p1), (2, .int p2), (3, .int p3)]) hx hb dX3_blowFuses_1 hl (by decide) rfl (fun ls hl => ?_)
  obtain ⟨S3, hS3⟩ : ∃ z, z = (fX3_blowFuses_s3 p2 p1 p3) := ⟨_, rfl⟩
  rw [← hS3] at h
  have L3 : ∀ (n : Nat) (x1 : Int32) (c2 : Nat → Int32) (c3 : Nat → Int32) (c4 : Int32) (H : Heap) (locs : List Loc) (ls : Array Slot), k_l4 S3 n x1 c2 c3 c4 = some (r_ones, r_twos, r_energy) → va_P (dC, dI) vwCl (wX3 cyI cyC ob a1 a2 a3 c2 c3 v_settings v_tick c4 v_valuesPut) H → va_S (k_A (wX3 cyI cyC ob a1 a2 a3 v_ones v_twos v_settings v_tick v_energy v_valuesPut)) s.heap H locs → lv_has ls 5 [(0, .ref ob), (1, .int p1), (2, .int p2), (3, .int p3), (4, .int x1)] → W p l e (k_rm 2 46) s m [.ref ob, .int p1, .int p2, .int p3].toArray below meth c H locs 0 0 (MQ below (qMV (dC, dI) (wX3 cyI cyC ob a1 a2 a3 v_ones v_twos v_settings v_tick v_energy v_valuesPut) (wX3 cyI cyC ob a1 a2 a3 r_ones r_twos v_settings v_tick r_energy v_valuesPut)) [.ref ob, .int p1, .int p2, .int p3].toArray s 0 0 (k_A (wX3 cyI cyC ob a1 a2 a3 v_ones v_twos v_settings v_tick v_energy v_valuesPut))) (F0 m 3 ls []) := by
    intro n
    induction n with
    | zero =>
      intro x1 c2 c3 c4 H locs ls h
      exact (k_l4_0 h).elim
    | succ n ih3 =>
      intro x1 c2 c3 c4 H locs ls h hP hS hl
      have hD : va_D (k_A (wX3 cyI cyC ob a1 a2 a3 v_ones v_twos v_settings v_tick v_energy v_valuesPut)) (wX3 cyI cyC ob a1 a2 a3 c2 c3 v_settings v_tick c4 v_valuesPut) := k_Dm hD rfl
      have h := k_l4_s h
      have h := k_a5 hS3 h
      unfold fX3_blowFuses_s3 at h
      refine lv_iload hx hb dX3_blowFuses_3 (lv_at hl 4 rfl) ?_
      refine lv_bipush (v := 16) hx hb dX3_blowFuses_5 (by decide) ?_
      refine g_icmp_ge (tgt := 34) hx hb dX3_blowFuses_7 (by decide) h (fun h => ?_) (fun h => ?_)
      · obtain ⟨e0, e1, e2⟩ := k_t3 h
        exact g_retMV hx hb hr hlk hS (by rw [← e0, ← e1, ← e2]; exact hP) dX3_blowFuses_34
      · refine lv_iload_n hx hb dX3_blowFuses_10 rfl (lv_at hl 2 rfl) ?_
        refine lv_iload hx hb dX3_blowFuses_11 (lv_at hl 4 rfl) ?_
        refine g_ishr hx hb dX3_blowFuses_13 h (fun x5 h => ?_)
        refine lv_iconst (v := 1) hx hb dX3_blowFuses_14 (by decide) ?_
        refine g_iand hx hb dX3_blowFuses_15 h (fun x6 h => ?_)
        refine lv_iconst (v := 1) hx hb dX3_blowFuses_16 (by decide) ?_
        obtain ⟨K28, hK28, h⟩ := k_j3_e h
        have J28 : ∀ (c7 : Nat → Int32) (c8 : Nat → Int32) (c9 : Int32) (H : Heap) (locs : List Loc) (ls : Array Slot), K28 c7 c8 c9 = some (r_ones, r_twos, r_energy) → va_P (dC, dI) vwCl (wX3 cyI cyC ob a1 a2 a3 c7 c8 v_settings v_tick c9 v_valuesPut) H → va_S (k_A (wX3 cyI cyC ob a1 a2 a3 v_ones v_twos v_settings v_tick v_energy v_valuesPut)) s.heap H locs → lv_has ls 5 [(0, .ref ob), (1, .int p1), (2, .int p2), (3, .int p3), (4, .int x1)] → W p l e (k_rm 2 46) s m [.ref ob, .int p1, .int p2, .int p3].toArray below meth c H locs 0 0 (MQ below (qMV (dC, dI) (wX3 cyI cyC ob a1 a2 a3 v_ones v_twos v_settings v_tick v_energy v_valuesPut) (wX3 cyI cyC ob a1 a2 a3 r_ones r_twos v_settings v_tick r_energy v_valuesPut)) [.ref ob, .int p1, .int p2, .int p3].toArray s 0 0 (k_A (wX3 cyI cyC ob a1 a2 a3 v_ones v_twos v_settings v_tick v_energy v_valuesPut))) (F0 m 28 ls []) := by
          intro c7 c8 c9 H locs ls h hP hS hl
          have hD : va_D (k_A (wX3 cyI cyC ob a1 a2 a3 v_ones v_twos v_settings v_tick v_energy v_valuesPut)) (wX3 cyI cyC ob a1 a2 a3 c7 c8 v_settings v_tick c9 v_valuesPut) := k_Dm hD rfl
          have h := k_a3 hK28 h
          refine g_iinc (dv := 1) hx hb dX3_blowFuses_28 hl (j := 4) rfl (by decide) (by decide) h (fun x10 ls h hl => ?_)
          have hl : lv_has ls 5 [(4, .int x10), (0, .ref ob), (1, .int p1), (2, .int p2), (3, .int p3)] := hl
          refine lv_goto (tgt := 3) hx hb dX3_blowFuses_31 (by decide) ?_
          exact ih3 x10 c7 c8 c9 _ _ _ h hP hS (lv_sub hl [1, 2, 3, 4, 0] rfl)
        refine g_icmp_ne (tgt := 28) hx hb dX3_blowFuses_17 (by decide) h (fun h => ?_) (fun h => ?_)
        · exact J28 c2 c3 c4 _ _ _ h hP hS (lv_sub hl [0, 1, 2, 3, 4] rfl)
        · refine lv_aload_n hx hb dX3_blowFuses_20 rfl (lv_at hl 0 rfl) ?_
          refine lv_iload_n hx hb dX3_blowFuses_21 rfl (lv_at hl 1 rfl) ?_
          refine lv_iload hx hb dX3_blowFuses_22 (lv_at hl 4 rfl) ?_
          refine lv_iload_n hx hb dX3_blowFuses_24 rfl (lv_at hl 3 rfl) ?_
          obtain ⟨c11, c12, c13, hc25, h⟩ := k_b3_e h
          refine g_callMV_V (As := [.int p1, .int x1, .int p3]) (rest := []) hC (mX3_blowFuse l dC dI cyI cyC cyO ob a1 a2 a3 c2 c3 v_settings v_tick c4 v_valuesPut p1 x1 p3 hc25) q173 q174 q175 q9 q176 3 hdX3_blowFuse ⟨Nat.le_of_ble_eq_true rfl, Nat.le_of_ble_eq_true rfl⟩ ⟨Nat.le_of_ble_eq_true rfl, Nat.le_of_ble_eq_true rfl⟩ rfl rfl hl.1 (Nat.le_of_ble_eq_true rfl) hP hK hD (va_recv hK hP (ci := 2) (q0 := 0) rfl rfl) hS dX3_blowFuses_25 (fun H locs hPn hk hS => ?_)
          have hP : va_P (dC, dI) vwCl (wX3 cyI cyC ob a1 a2 a3 c11 c12 v_settings v_tick c13 v_valuesPut) H := hPn
          have hD : va_D (k_A (wX3 cyI cyC ob a1 a2 a3 v_ones v_twos v_settings v_tick v_energy v_valuesPut)) (wX3 cyI cyC ob a1 a2 a3 c11 c12 v_settings v_tick c13 v_valuesPut) := k_Dm hD rfl
          exact J28 c11 c12 c13 _ _ _ h hP hS (lv_sub hl [0, 1, 2, 3, 4] rfl)
  exact L3 5000 0 v_ones v_twos v_energy _ _ _ h hP hS (lv_sub hl [1, 2, 3, 4, 0] rfl)
def fX3_strengthenFuses_s2 (p2 : Int32) (p1 : Int32) (rec2 : Int32 → (Nat → Int32) → (Nat → Int32) → Int32 → Option ((Nat → Int32) × (Nat → Int32) × Int32)) (x1 : Int32) (c2 : Nat → Int32) (c3 : Nat → Int32) (c4 : Int32) : Option ((Nat → Int32) × (Nat → Int32) × Int32) :=
  k_if (16 ≤ x1)
  (
    some (c2, c3, c4))
  (
    k_let (p2 >>> (x1 &&& 31)) fun (x5 : Int32) =>
    k_let (x5 &&& 1) fun (x6 : Int32) =>
    k_j3
    (fun (c7 : Nat → Int32) (c8 : Nat → Int32) (c9 : Int32) =>
      k_let (x1 + 1) fun (x10 : Int32) =>
      rec2 x10 c7 c8 c9)
    (fun K31 =>
    k_if (x6 = 1)
    (
      k_b1 (fX3_strength c2 c3 p1 x1) fun (x11 : Int32) =>
      k_let (x11 + 1) fun (x12 : Int32) =>
      k_b3 (fX3_blowFuse c2 c3 c4 p1 x1 x12) fun (c13 : Nat → Int32) (c14 : Nat → Int32) (c15 : Int32) =>
      K31 c13 c14 c15)
    (
      K31 c2 c3 c4)))
def fX3_strengthenFuses (v_ones : Nat → Int32) (v_twos : Nat → Int32) (v_energy : Int32) (p1 : Int32) (p2 : Int32) : Option ((Nat → Int32) × (Nat → Int32) × Int32) :=
  k_l4 (fX3_strengthenFuses_s2 p2 p1) 5000 0 v_ones v_twos v_energy
theorem hdX3_strengthenFuses : yX3_strengthenFuses.cls = RX3 ∧ yX3_strengthenFuses.cls ≠ "java/lang/invoke/MethodHandle" ∧ yX3_strengthenFuses.cls ≠ "java/lang/invoke/VarHandle" ∧ (parseMethodDescriptor yX3_strengthenFuses.desc).map (fun d => d.parameters.length) = some 2 := by decide +kernel
set_option maxRecDepth 100000 in
set_option maxHeartbeats 4000000 in
theorem mX3_strengthenFuses (l : Launch) (dC : Nat → ClassId) (dI : Nat → Nat → Nat) (cyI cyC cyO : ClassId) (ob : Nat) (a1 : Nat) (a2 : Nat) (a3 : Nat) (v_ones : Nat → Int32) (v_twos : Nat → Int32) (v_settings : Nat → Int32) (v_tick : Int32) (v_energy : Int32) (v_valuesPut : Int32) (p1 : Int32) (p2 : Int32) {r_ones : Nat → Int32} {r_twos : Nat → Int32} {r_energy : Int32} (hf : fX3_strengthenFuses v_ones v_twos v_energy p1 p2 = some (r_ones, r_twos, r_energy)) : MetMV l yX3_strengthenFuses cX3_strengthenFuses 4 none 2 46 [.ref ob, .int p1, .int p2] (dC, dI) (tyS cyI cyC cyO) (wX3 cyI cyC ob a1 a2 a3 v_ones v_twos v_settings v_tick v_energy v_valuesPut) (wX3 cyI cyC ob a1 a2 a3 r_ones r_twos v_settings v_tick r_energy v_valuesPut) := by
  refine metMV_of (by decide) (Nat.le_of_ble_eq_true rfl) ?_
  intro p e s m below meth c ls hC hr hlk hP hK hD hl
  have hC : CallFix p m c cX3_strengthenFuses 4 s [.ref ob, .int p1, .int p2].toArray wA RX3 := hC
  obtain ⟨hx, hb, hml, hown, hts⟩ := id hC
  have hS : va_S (k_A (wX3 cyI cyC ob a1 a2 a3 v_ones v_twos v_settings v_tick v_energy v_valuesPut)) s.heap s.heap [] := va_S.rf
  have hl : lv_has ls 4 [(0, .ref ob), (1, .int p1), (2, .int p2)] := hl
  have h := hf
  unfold fX3_strengthenFuses at h
  obtain ⟨H, hH⟩ : ∃ H, H = s.heap := ⟨_, rfl⟩
  obtain ⟨locs, hlo⟩ : ∃ locs : List Loc, locs = [] := ⟨_, rfl⟩
  rw [← hH] at hP
  rw [← hlo] at hS
  have hS : va_S (k_A (wX3 cyI cyC ob a1 a2 a3 v_ones v_twos v_settings v_tick v_energy v_valuesPut)) s.heap H locs := by rw [hH]; exact hS
  show W p l e (k_rm 2 46) s m [.ref ob, .int p1, .int p2].toArray below meth c s.heap [] 0 0 _ _
  rw [← hlo, ← hH]
  refine lv_iconst (v := 0) hx hb dX3_strengthenFuses_0 (by decide) ?_
  refine lv_istore_n (lv' := [(3, .int 0), (0, .ref ob), (1, .int p1), (2, .int p2)]) hx hb dX3_strengthenFuses_1 rfl hl (by decide) rfl (fun ls hl => ?_)
  obtain ⟨S2, hS2⟩ : ∃ z, z = (fX3_strengthenFuses_s2 p2 p1) := ⟨_, rfl⟩
  rw [← hS2] at h
  have L2 : ∀ (n : Nat) (x1 : Int32) (c2 : Nat → Int32) (c3 : Nat → Int32) (c4 : Int32) (H : Heap) (locs : List Loc) (ls : Array Slot), k_l4 S2 n x1 c2 c3 c4 = some (r_ones, r_twos, r_energy) → va_P (dC, dI) vwCl (wX3 cyI cyC ob a1 a2 a3 c2 c3 v_settings v_tick c4 v_valuesPut) H → va_S (k_A (wX3 cyI cyC ob a1 a2 a3 v_ones v_twos v_settings v_tick v_energy v_valuesPut)) s.heap H locs → lv_has ls 4 [(0, .ref ob), (1, .int p1), (2, .int p2), (3, .int x1)] → W p l e (k_rm 2 46) s m [.ref ob, .int p1, .int p2].toArray below meth c H locs 0 0 (MQ below (qMV (dC, dI) (wX3 cyI cyC ob a1 a2 a3 v_ones v_twos v_settings v_tick v_energy v_valuesPut) (wX3 cyI cyC ob a1 a2 a3 r_ones r_twos v_settings v_tick r_energy v_valuesPut)) [.ref ob, .int p1, .int p2].toArray s 0 0 (k_A (wX3 cyI cyC ob a1 a2 a3 v_ones v_twos v_settings v_tick v_energy v_valuesPut))) (F0 m 2 ls []) := by
    intro n
    induction n with
    | zero =>
      intro x1 c2 c3 c4 H locs ls h
      exact (k_l4_0 h).elim
    | succ n ih2 =>
      intro x1 c2 c3 c4 H locs ls h hP hS hl
      have hD : va_D (k_A (wX3 cyI cyC ob a1 a2 a3 v_ones v_twos v_settings v_tick v_energy v_valuesPut)) (wX3 cyI cyC ob a1 a2 a3 c2 c3 v_settings v_tick c4 v_valuesPut) := k_Dm hD rfl
      have h := k_l4_s h
      have h := k_a5 hS2 h
      unfold fX3_strengthenFuses_s2 at h
      refine lv_iload_n hx hb dX3_strengthenFuses_2 rfl (lv_at hl 3 rfl) ?_
      refine lv_bipush (v := 16) hx hb dX3_strengthenFuses_3 (by decide) ?_
      refine g_icmp_ge (tgt := 37) hx hb dX3_strengthenFuses_5 (by decide) h (fun h => ?_) (fun h => ?_)
      · obtain ⟨e0, e1, e2⟩ := k_t3 h
        exact g_retMV hx hb hr hlk hS (by rw [← e0, ← e1, ← e2]; exact hP) dX3_strengthenFuses_37
      · refine lv_iload_n hx hb dX3_strengthenFuses_8 rfl (lv_at hl 2 rfl) ?_
        refine lv_iload_n hx hb dX3_strengthenFuses_9 rfl (lv_at hl 3 rfl) ?_
        refine g_ishr hx hb dX3_strengthenFuses_10 h (fun x5 h => ?_)
        refine lv_iconst (v := 1) hx hb dX3_strengthenFuses_11 (by decide) ?_
        refine g_iand hx hb dX3_strengthenFuses_12 h (fun x6 h => ?_)
        refine lv_iconst (v := 1) hx hb dX3_strengthenFuses_13 (by decide) ?_
        obtain ⟨K31, hK31, h⟩ := k_j3_e h
        have J31 : ∀ (c7 : Nat → Int32) (c8 : Nat → Int32) (c9 : Int32) (H : Heap) (locs : List Loc) (ls : Array Slot), K31 c7 c8 c9 = some (r_ones, r_twos, r_energy) → va_P (dC, dI) vwCl (wX3 cyI cyC ob a1 a2 a3 c7 c8 v_settings v_tick c9 v_valuesPut) H → va_S (k_A (wX3 cyI cyC ob a1 a2 a3 v_ones v_twos v_settings v_tick v_energy v_valuesPut)) s.heap H locs → lv_has ls 4 [(0, .ref ob), (1, .int p1), (2, .int p2), (3, .int x1)] → W p l e (k_rm 2 46) s m [.ref ob, .int p1, .int p2].toArray below meth c H locs 0 0 (MQ below (qMV (dC, dI) (wX3 cyI cyC ob a1 a2 a3 v_ones v_twos v_settings v_tick v_energy v_valuesPut) (wX3 cyI cyC ob a1 a2 a3 r_ones r_twos v_settings v_tick r_energy v_valuesPut)) [.ref ob, .int p1, .int p2].toArray s 0 0 (k_A (wX3 cyI cyC ob a1 a2 a3 v_ones v_twos v_settings v_tick v_energy v_valuesPut))) (F0 m 31 ls []) := by
          intro c7 c8 c9 H locs ls h hP hS hl
          have hD : va_D (k_A (wX3 cyI cyC ob a1 a2 a3 v_ones v_twos v_settings v_tick v_energy v_valuesPut)) (wX3 cyI cyC ob a1 a2 a3 c7 c8 v_settings v_tick c9 v_valuesPut) := k_Dm hD rfl
          have h := k_a3 hK31 h
          refine g_iinc (dv := 1) hx hb dX3_strengthenFuses_31 hl (j := 3) rfl (by decide) (by decide) h (fun x10 ls h hl => ?_)
          have hl : lv_has ls 4 [(3, .int x10), (0, .ref ob), (1, .int p1), (2, .int p2)] := hl
          refine lv_goto (tgt := 2) hx hb dX3_strengthenFuses_34 (by decide) ?_
          exact ih2 x10 c7 c8 c9 _ _ _ h hP hS (lv_sub hl [1, 2, 3, 0] rfl)
        refine g_icmp_ne (tgt := 31) hx hb dX3_strengthenFuses_14 (by decide) h (fun h => ?_) (fun h => ?_)
        · exact J31 c2 c3 c4 _ _ _ h hP hS (lv_sub hl [0, 1, 2, 3] rfl)
        · refine lv_aload_n hx hb dX3_strengthenFuses_17 rfl (lv_at hl 0 rfl) ?_
          refine lv_iload_n hx hb dX3_strengthenFuses_18 rfl (lv_at hl 1 rfl) ?_
          refine lv_iload_n hx hb dX3_strengthenFuses_19 rfl (lv_at hl 3 rfl) ?_
          refine lv_aload_n hx hb dX3_strengthenFuses_20 rfl (lv_at hl 0 rfl) ?_
          refine lv_iload_n hx hb dX3_strengthenFuses_21 rfl (lv_at hl 1 rfl) ?_
          refine lv_iload_n hx hb dX3_strengthenFuses_22 rfl (lv_at hl 3 rfl) ?_
          obtain ⟨x11, hc23, h⟩ := k_b1_e h
          refine g_callRI_V (As := [.int p1, .int x1]) (rest := [.int x1, .int p1, .ref ob]) hC (mX3_strength l dC dI cyI cyC cyO ob a1 a2 a3 c2 c3 v_settings v_tick c4 v_valuesPut p1 x1 hc23) q177 q178 q179 q9 q180 2 hdX3_strength ⟨Nat.le_of_ble_eq_true rfl, Nat.le_of_ble_eq_true rfl⟩ ⟨Nat.le_of_ble_eq_true rfl, Nat.le_of_ble_eq_true rfl⟩ rfl rfl hl.1 (Nat.le_of_ble_eq_true rfl) hP hK (va_recv hK hP (ci := 2) (q0 := 0) rfl rfl) hS dX3_strengthenFuses_23 (fun H locs hk hS => ?_)
          have hP := k_kept hP hk
          refine lv_iconst (v := 1) hx hb dX3_strengthenFuses_26 (by decide) ?_
          refine g_iadd hx hb dX3_strengthenFuses_27 h (fun x12 h => ?_)
          obtain ⟨c13, c14, c15, hc28, h⟩ := k_b3_e h
          refine g_callMV_V (As := [.int p1, .int x1, .int x12]) (rest := []) hC (mX3_blowFuse l dC dI cyI cyC cyO ob a1 a2 a3 c2 c3 v_settings v_tick c4 v_valuesPut p1 x1 x12 hc28) q173 q174 q175 q9 q176 3 hdX3_blowFuse ⟨Nat.le_of_ble_eq_true rfl, Nat.le_of_ble_eq_true rfl⟩ ⟨Nat.le_of_ble_eq_true rfl, Nat.le_of_ble_eq_true rfl⟩ rfl rfl hl.1 (Nat.le_of_ble_eq_true rfl) hP hK hD (va_recv hK hP (ci := 2) (q0 := 0) rfl rfl) hS dX3_strengthenFuses_28 (fun H locs hPn hk hS => ?_)
          have hP : va_P (dC, dI) vwCl (wX3 cyI cyC ob a1 a2 a3 c13 c14 v_settings v_tick c15 v_valuesPut) H := hPn
          have hD : va_D (k_A (wX3 cyI cyC ob a1 a2 a3 v_ones v_twos v_settings v_tick v_energy v_valuesPut)) (wX3 cyI cyC ob a1 a2 a3 c13 c14 v_settings v_tick c15 v_valuesPut) := k_Dm hD rfl
          exact J31 c13 c14 c15 _ _ _ h hP hS (lv_sub hl [0, 1, 2, 3] rfl)
  exact L2 5000 0 v_ones v_twos v_energy _ _ _ h hP hS (lv_sub hl [1, 2, 3, 0] rfl)
def fX0_zerosOf (p0 : Int32) : Option (Int32) :=
  k_let (p0 &&& 1023) fun (x1 : Int32) =>
  k_b1 (fJ6_bitCount_0f7a4 x1) fun (x2 : Int32) =>
  k_let (10 - x2) fun (x3 : Int32) =>
  some x3
theorem hdX0_zerosOf : yX0_zerosOf.cls ≠ "java/lang/invoke/MethodHandle" ∧ yX0_zerosOf.cls ≠ "java/lang/invoke/VarHandle" ∧ (parseMethodDescriptor yX0_zerosOf.desc).map (fun d => d.parameters.length) = some 1 := by decide +kernel
set_option maxRecDepth 100000 in
set_option maxHeartbeats 4000000 in
theorem mX0_zerosOf (l : Launch) (dC : Nat → ClassId) (dI : Nat → Nat → Nat) (cyI cyC cyO : ClassId)  (p0 : Int32) {r : Int32} (hf : fX0_zerosOf p0 = some r) : MetRI l yX0_zerosOf cX0_zerosOf 1 (some .int) 1 20 [.int p0] (dC, dI) (tyS cyI cyC cyO) [] r := by
  refine metRI_of (by decide) (Nat.le_of_ble_eq_true rfl) ?_
  intro p e s m below meth c ls hC hr hlk hP hK hl
  have hC : CallFix p m c cX0_zerosOf 1 s [.int p0].toArray wA RX0 := hC
  obtain ⟨hx, hb, hml, hown, hts⟩ := id hC
  have hS : va_S kF s.heap s.heap [] := va_S.rf
  have hl : lv_has ls 1 [(0, .int p0)] := hl
  have h := hf
  unfold fX0_zerosOf at h
  obtain ⟨H, hH⟩ : ∃ H, H = s.heap := ⟨_, rfl⟩
  obtain ⟨locs, hlo⟩ : ∃ locs : List Loc, locs = [] := ⟨_, rfl⟩
  rw [← hH] at hP
  rw [← hlo] at hS
  have hS : va_S kF s.heap H locs := by rw [hH]; exact hS
  show W p l e (k_rm 1 20) s m [.int p0].toArray below meth c s.heap [] 0 0 _ _
  rw [← hlo, ← hH]
  refine lv_bipush (v := 10) hx hb dX0_zerosOf_0 (by decide) ?_
  refine lv_iload_n hx hb dX0_zerosOf_2 rfl (lv_at hl 0 rfl) ?_
  refine lv_sipush (v := 1023) hx hb dX0_zerosOf_3 (by decide) ?_
  refine g_iand hx hb dX0_zerosOf_6 h (fun x1 h => ?_)
  obtain ⟨x2, hc7, h⟩ := k_b1_e h
  refine g_callRI_S (As := [.int x1]) (rest := [.int 10]) hC (mJ6_bitCount_0f7a4 l dC dI cyI cyC cyO x1 hc7) q164 q165 q12 q166 1 hdJ6_bitCount_0f7a4 ⟨Nat.le_of_ble_eq_true rfl, Nat.le_of_ble_eq_true rfl⟩ ⟨Nat.le_of_ble_eq_true rfl, Nat.le_of_ble_eq_true rfl⟩ rfl rfl hl.1 (Nat.le_of_ble_eq_true rfl) va_P_nil hK hS dX0_zerosOf_7 (fun H locs hk hS => ?_)
  refine g_isub hx hb dX0_zerosOf_10 h (fun x3 h => ?_)
  exact g_retRI hx hb hr hlk hS h dX0_zerosOf_11
def fX0_ofEntry (p0 : Int32) (p1 : Int32) : Option (Int32) :=
  k_let ((p1 : Int32) <<< (4 &&& 31)) fun (x1 : Int32) =>
  k_let (p0 ||| x1) fun (x2 : Int32) =>
  k_b1 (fX0_zerosOf x2) fun (x3 : Int32) =>
  k_let ((x3 : Int32) <<< (10 &&& 31)) fun (x4 : Int32) =>
  k_let (x2 ||| x4) fun (x5 : Int32) =>
  some x5
theorem hdX0_ofEntry : yX0_ofEntry.cls ≠ "java/lang/invoke/MethodHandle" ∧ yX0_ofEntry.cls ≠ "java/lang/invoke/VarHandle" ∧ (parseMethodDescriptor yX0_ofEntry.desc).map (fun d => d.parameters.length) = some 2 := by decide +kernel
set_option maxRecDepth 100000 in
set_option maxHeartbeats 4000000 in
theorem mX0_ofEntry (l : Launch) (dC : Nat → ClassId) (dI : Nat → Nat → Nat) (cyI cyC cyO : ClassId)  (p0 : Int32) (p1 : Int32) {r : Int32} (hf : fX0_ofEntry p0 p1 = some r) : MetRI l yX0_ofEntry cX0_ofEntry 3 (some .int) 2 40 [.int p0, .int p1] (dC, dI) (tyS cyI cyC cyO) [] r := by
  refine metRI_of (by decide) (Nat.le_of_ble_eq_true rfl) ?_
  intro p e s m below meth c ls hC hr hlk hP hK hl
  have hC : CallFix p m c cX0_ofEntry 3 s [.int p0, .int p1].toArray wA RX0 := hC
  obtain ⟨hx, hb, hml, hown, hts⟩ := id hC
  have hS : va_S kF s.heap s.heap [] := va_S.rf
  have hl : lv_has ls 3 [(0, .int p0), (1, .int p1)] := hl
  have h := hf
  unfold fX0_ofEntry at h
  obtain ⟨H, hH⟩ : ∃ H, H = s.heap := ⟨_, rfl⟩
  obtain ⟨locs, hlo⟩ : ∃ locs : List Loc, locs = [] := ⟨_, rfl⟩
  rw [← hH] at hP
  rw [← hlo] at hS
  have hS : va_S kF s.heap H locs := by rw [hH]; exact hS
  show W p l e (k_rm 2 40) s m [.int p0, .int p1].toArray below meth c s.heap [] 0 0 _ _
  rw [← hlo, ← hH]
  refine lv_iload_n hx hb dX0_ofEntry_0 rfl (lv_at hl 0 rfl) ?_
  refine lv_iload_n hx hb dX0_ofEntry_1 rfl (lv_at hl 1 rfl) ?_
  refine lv_iconst (v := 4) hx hb dX0_ofEntry_2 (by decide) ?_
  refine g_ishl hx hb dX0_ofEntry_3 h (fun x1 h => ?_)
  refine g_ior hx hb dX0_ofEntry_4 h (fun x2 h => ?_)
  refine lv_istore_n (lv' := [(2, .int x2), (0, .int p0), (1, .int p1)]) hx hb dX0_ofEntry_5 rfl hl (by decide) rfl (fun ls hl => ?_)
  refine lv_iload_n hx hb dX0_ofEntry_6 rfl (lv_at hl 0 rfl) ?_
  refine lv_iload_n hx hb dX0_ofEntry_7 rfl (lv_at hl 0 rfl) ?_
  obtain ⟨x3, hc8, h⟩ := k_b1_e h
  refine g_callRI_S (As := [.int x2]) (rest := [.int x2]) hC (mX0_zerosOf l dC dI cyI cyC cyO x2 hc8) q346 q246 q17 q247 1 hdX0_zerosOf ⟨Nat.le_of_ble_eq_true rfl, Nat.le_of_ble_eq_true rfl⟩ ⟨Nat.le_of_ble_eq_true rfl, Nat.le_of_ble_eq_true rfl⟩ rfl rfl hl.1 (Nat.le_of_ble_eq_true rfl) va_P_nil hK hS dX0_ofEntry_8 (fun H locs hk hS => ?_)
  refine lv_bipush (v := 10) hx hb dX0_ofEntry_11 (by decide) ?_
  refine g_ishl hx hb dX0_ofEntry_13 h (fun x4 h => ?_)
  refine g_ior hx hb dX0_ofEntry_14 h (fun x5 h => ?_)
  exact g_retRI hx hb hr hlk hS h dX0_ofEntry_15
def fX3_tellsEntry (v_ones : Nat → Int32) (v_twos : Nat → Int32) (v_settings : Nat → Int32) (v_tick : Int32) (p1 : Int32) (p2 : Int32) (p3 : Int32) : Option (Int32) :=
  k_b1 (fX3_read v_ones v_twos v_settings v_tick p1) fun (x1 : Int32) =>
  k_b1 (fX0_kindOf x1) fun (x2 : Int32) =>
  k_if (x2 = 4)
  (
    k_b1 (fX0_keyOf x1) fun (x3 : Int32) =>
    k_if (x3 = p2)
    (
      k_b1 (fX0_valueOf x1) fun (x4 : Int32) =>
      k_if (x4 = p3)
      (
        some 1)
      (
        some 0))
    (
      some 0))
  (
    some 0)
theorem hdX3_tellsEntry : yX3_tellsEntry.cls = RX3 ∧ yX3_tellsEntry.cls ≠ "java/lang/invoke/MethodHandle" ∧ yX3_tellsEntry.cls ≠ "java/lang/invoke/VarHandle" ∧ (parseMethodDescriptor yX3_tellsEntry.desc).map (fun d => d.parameters.length) = some 3 := by decide +kernel
set_option maxRecDepth 100000 in
set_option maxHeartbeats 4000000 in
theorem mX3_tellsEntry (l : Launch) (dC : Nat → ClassId) (dI : Nat → Nat → Nat) (cyI cyC cyO : ClassId) (ob : Nat) (a1 : Nat) (a2 : Nat) (a3 : Nat) (v_ones : Nat → Int32) (v_twos : Nat → Int32) (v_settings : Nat → Int32) (v_tick : Int32) (v_energy : Int32) (v_valuesPut : Int32) (p1 : Int32) (p2 : Int32) (p3 : Int32) {r : Int32} (hf : fX3_tellsEntry v_ones v_twos v_settings v_tick p1 p2 p3 = some r) : MetRI l yX3_tellsEntry cX3_tellsEntry 5 (some .boolean) 2 48 [.ref ob, .int p1, .int p2, .int p3] (dC, dI) (tyS cyI cyC cyO) (wX3 cyI cyC ob a1 a2 a3 v_ones v_twos v_settings v_tick v_energy v_valuesPut) r := by
  refine metRI_of (by decide) (Nat.le_of_ble_eq_true rfl) ?_
  intro p e s m below meth c ls hC hr hlk hP hK hl
  have hC : CallFix p m c cX3_tellsEntry 5 s [.ref ob, .int p1, .int p2, .int p3].toArray wA RX3 := hC
  obtain ⟨hx, hb, hml, hown, hts⟩ := id hC
  have hS : va_S kF s.heap s.heap [] := va_S.rf
  have hl : lv_has ls 5 [(0, .ref ob), (1, .int p1), (2, .int p2), (3, .int p3)] := hl
  have h := hf
  unfold fX3_tellsEntry at h
  obtain ⟨H, hH⟩ : ∃ H, H = s.heap := ⟨_, rfl⟩
  obtain ⟨locs, hlo⟩ : ∃ locs : List Loc, locs = [] := ⟨_, rfl⟩
  rw [← hH] at hP
  rw [← hlo] at hS
  have hS : va_S kF s.heap H locs := by rw [hH]; exact hS
  show W p l e (k_rm 2 48) s m [.ref ob, .int p1, .int p2, .int p3].toArray below meth c s.heap [] 0 0 _ _
  rw [← hlo, ← hH]
  refine lv_aload_n hx hb dX3_tellsEntry_0 rfl (lv_at hl 0 rfl) ?_
  refine lv_iload_n hx hb dX3_tellsEntry_1 rfl (lv_at hl 1 rfl) ?_
  obtain ⟨x1, hc2, h⟩ := k_b1_e h
  refine g_callRI_V (As := [.int p1]) (rest := []) hC (mX3_read l dC dI cyI cyC cyO ob a1 a2 a3 v_ones v_twos v_settings v_tick v_energy v_valuesPut p1 hc2) q139 q140 q141 q9 q142 1 hdX3_read ⟨Nat.le_of_ble_eq_true rfl, Nat.le_of_ble_eq_true rfl⟩ ⟨Nat.le_of_ble_eq_true rfl, Nat.le_of_ble_eq_true rfl⟩ rfl rfl hl.1 (Nat.le_of_ble_eq_true rfl) hP hK (va_recv hK hP (ci := 2) (q0 := 0) rfl rfl) hS dX3_tellsEntry_2 (fun H locs hk hS => ?_)
  have hP := k_kept hP hk
  refine lv_istore (lv' := [(4, .int x1), (0, .ref ob), (1, .int p1), (2, .int p2), (3, .int p3)]) hx hb dX3_tellsEntry_5 hl (by decide) rfl (fun ls hl => ?_)
  refine lv_iload hx hb dX3_tellsEntry_7 (lv_at hl 0 rfl) ?_
  obtain ⟨x2, hc9, h⟩ := k_b1_e h
  refine g_callRI_S (As := [.int x1]) (rest := []) hC (mX0_kindOf l dC dI cyI cyC cyO x1 hc9) q161 q162 q17 q163 1 hdX0_kindOf ⟨Nat.le_of_ble_eq_true rfl, Nat.le_of_ble_eq_true rfl⟩ ⟨Nat.le_of_ble_eq_true rfl, Nat.le_of_ble_eq_true rfl⟩ rfl rfl hl.1 (Nat.le_of_ble_eq_true rfl) va_P_nil hK hS dX3_tellsEntry_9 (fun H locs hk hS => ?_)
  have hP := k_kept hP hk
  refine lv_iconst (v := 4) hx hb dX3_tellsEntry_12 (by decide) ?_
  refine g_icmp_ne (tgt := 38) hx hb dX3_tellsEntry_13 (by decide) h (fun h => ?_) (fun h => ?_)
  · refine lv_iconst (v := 0) hx hb dX3_tellsEntry_38 (by decide) ?_
    exact g_retRZ hx hb hr (by decide +kernel) hlk hS h dX3_tellsEntry_39
  · refine lv_iload hx hb dX3_tellsEntry_16 (lv_at hl 0 rfl) ?_
    obtain ⟨x3, hc18, h⟩ := k_b1_e h
    refine g_callRI_S (As := [.int x1]) (rest := []) hC (mX0_keyOf l dC dI cyI cyC cyO x1 hc18) q158 q159 q17 q160 1 hdX0_keyOf ⟨Nat.le_of_ble_eq_true rfl, Nat.le_of_ble_eq_true rfl⟩ ⟨Nat.le_of_ble_eq_true rfl, Nat.le_of_ble_eq_true rfl⟩ rfl rfl hl.1 (Nat.le_of_ble_eq_true rfl) va_P_nil hK hS dX3_tellsEntry_18 (fun H locs hk hS => ?_)
    have hP := k_kept hP hk
    refine lv_iload_n hx hb dX3_tellsEntry_21 rfl (lv_at hl 3 rfl) ?_
    refine g_icmp_ne (tgt := 38) hx hb dX3_tellsEntry_22 (by decide) h (fun h => ?_) (fun h => ?_)
    · refine lv_iconst (v := 0) hx hb dX3_tellsEntry_38 (by decide) ?_
      exact g_retRZ hx hb hr (by decide +kernel) hlk hS h dX3_tellsEntry_39
    · refine lv_iload hx hb dX3_tellsEntry_25 (lv_at hl 0 rfl) ?_
      obtain ⟨x4, hc27, h⟩ := k_b1_e h
      refine g_callRI_S (As := [.int x1]) (rest := []) hC (mX0_valueOf l dC dI cyI cyC cyO x1 hc27) q276 q242 q17 q243 1 hdX0_valueOf ⟨Nat.le_of_ble_eq_true rfl, Nat.le_of_ble_eq_true rfl⟩ ⟨Nat.le_of_ble_eq_true rfl, Nat.le_of_ble_eq_true rfl⟩ rfl rfl hl.1 (Nat.le_of_ble_eq_true rfl) va_P_nil hK hS dX3_tellsEntry_27 (fun H locs hk hS => ?_)
      have hP := k_kept hP hk
      refine lv_iload_n hx hb dX3_tellsEntry_30 rfl (lv_at hl 4 rfl) ?_
      refine g_icmp_ne (tgt := 38) hx hb dX3_tellsEntry_31 (by decide) h (fun h => ?_) (fun h => ?_)
      · refine lv_iconst (v := 0) hx hb dX3_tellsEntry_38 (by decide) ?_
        exact g_retRZ hx hb hr (by decide +kernel) hlk hS h dX3_tellsEntry_39
      · refine lv_iconst (v := 1) hx hb dX3_tellsEntry_34 (by decide) ?_
        refine lv_goto (tgt := 39) hx hb dX3_tellsEntry_35 (by decide) ?_
        exact g_retRZ hx hb hr (by decide +kernel) hlk hS h dX3_tellsEntry_39
def fX3_writeEntry_s23 (v_settings : Nat → Int32) (v_tick : Int32) (p1 : Int32) (p2 : Int32) (p3 : Int32) (x1 : Int32) (rec23 : Int32 → (Nat → Int32) → (Nat → Int32) → Int32 → Option (Int32 × (Nat → Int32) × (Nat → Int32) × Int32)) (x6 : Int32) (c7 : Nat → Int32) (c8 : Nat → Int32) (c9 : Int32) : Option (Int32 × (Nat → Int32) × (Nat → Int32) × Int32) :=
  k_ck (2 : Int32) 4 <| k_let (v_settings (2 : Int32).toNatClampNeg) fun (x10 : Int32) =>
  k_if (x10 ≤ x6)
  (
    some (x6, c7, c8, c9))
  (
    k_b1 (fX3_tellsEntry c7 c8 v_settings v_tick p1 p2 p3) fun (x11 : Int32) =>
    k_if (x11 = 0)
    (
      k_b1 (fX3_read c7 c8 v_settings v_tick p1) fun (x12 : Int32) =>
      k_let (x12 ^^^ ((-1))) fun (x13 : Int32) =>
      k_let (x1 &&& x13) fun (x14 : Int32) =>
      k_b3 (fX3_strengthenFuses c7 c8 c9 p1 x14) fun (c15 : Nat → Int32) (c16 : Nat → Int32) (c17 : Int32) =>
      k_let (x6 + 1) fun (x18 : Int32) =>
      rec23 x18 c15 c16 c17)
    (
      some (x6, c7, c8, c9)))
def fX3_writeEntry (v_ones : Nat → Int32) (v_twos : Nat → Int32) (v_settings : Nat → Int32) (v_tick : Int32) (v_energy : Int32) (p1 : Int32) (p2 : Int32) (p3 : Int32) : Option (Int32 × (Nat → Int32) × (Nat → Int32) × Int32) :=
  k_b1 (fX0_ofEntry p2 p3) fun (x1 : Int32) =>
  k_ck (1 : Int32) 4 <| k_let (v_settings (1 : Int32).toNatClampNeg) fun (x2 : Int32) =>
  k_b3 (fX3_blowFuses v_ones v_twos v_energy p1 x1 x2) fun (c3 : Nat → Int32) (c4 : Nat → Int32) (c5 : Int32) =>
  k_l4 (fX3_writeEntry_s23 v_settings v_tick p1 p2 p3 x1) 5000 1 c3 c4 c5
theorem hdX3_writeEntry : yX3_writeEntry.cls = RX3 ∧ yX3_writeEntry.cls ≠ "java/lang/invoke/MethodHandle" ∧ yX3_writeEntry.cls ≠ "java/lang/invoke/VarHandle" ∧ (parseMethodDescriptor yX3_writeEntry.desc).map (fun d => d.parameters.length) = some 3 := by decide +kernel
set_option maxRecDepth 100000 in
set_option maxHeartbeats 4000000 in
theorem mX3_writeEntry (l : Launch) (dC : Nat → ClassId) (dI : Nat → Nat → Nat) (cyI cyC cyO : ClassId) (ob : Nat) (a1 : Nat) (a2 : Nat) (a3 : Nat) (v_ones : Nat → Int32) (v_twos : Nat → Int32) (v_settings : Nat → Int32) (v_tick : Int32) (v_energy : Int32) (v_valuesPut : Int32) (p1 : Int32) (p2 : Int32) (p3 : Int32) {r : Int32} {r_ones : Nat → Int32} {r_twos : Nat → Int32} {r_energy : Int32} (hf : fX3_writeEntry v_ones v_twos v_settings v_tick v_energy p1 p2 p3 = some (r, r_ones, r_twos, r_energy)) : MetMI l yX3_writeEntry cX3_writeEntry 6 (some .int) 3 72 [.ref ob, .int p1, .int p2, .int p3] (dC, dI) (tyS cyI cyC cyO) (wX3 cyI cyC ob a1 a2 a3 v_ones v_twos v_settings v_tick v_energy v_valuesPut) (wX3 cyI cyC ob a1 a2 a3 r_ones r_twos v_settings v_tick r_energy v_valuesPut) r := by
  refine metMI_of (by decide) (Nat.le_of_ble_eq_true rfl) ?_
  intro p e s m below meth c ls hC hr hlk hP hK hD hl
  have hC : CallFix p m c cX3_writeEntry 6 s [.ref ob, .int p1, .int p2, .int p3].toArray wA RX3 := hC
  obtain ⟨hx, hb, hml, hown, hts⟩ := id hC
  have hS : va_S (k_A (wX3 cyI cyC ob a1 a2 a3 v_ones v_twos v_settings v_tick v_energy v_valuesPut)) s.heap s.heap [] := va_S.rf
  have hl : lv_has ls 6 [(0, .ref ob), (1, .int p1), (2, .int p2), (3, .int p3)] := hl
  have h := hf
  unfold fX3_writeEntry at h
  obtain ⟨H, hH⟩ : ∃ H, H = s.heap := ⟨_, rfl⟩
  obtain ⟨locs, hlo⟩ : ∃ locs : List Loc, locs = [] := ⟨_, rfl⟩
  rw [← hH] at hP
  rw [← hlo] at hS
  have hS : va_S (k_A (wX3 cyI cyC ob a1 a2 a3 v_ones v_twos v_settings v_tick v_energy v_valuesPut)) s.heap H locs := by rw [hH]; exact hS
  show W p l e (k_rm 3 72) s m [.ref ob, .int p1, .int p2, .int p3].toArray below meth c s.heap [] 0 0 _ _
  rw [← hlo, ← hH]
  refine lv_iload_n hx hb dX3_writeEntry_0 rfl (lv_at hl 2 rfl) ?_
  refine lv_iload_n hx hb dX3_writeEntry_1 rfl (lv_at hl 3 rfl) ?_
  obtain ⟨x1, hc2, h⟩ := k_b1_e h
  refine g_callRI_S (As := [.int p2, .int p3]) (rest := []) hC (mX0_ofEntry l dC dI cyI cyC cyO p2 p3 hc2) q343 q344 q17 q345 2 hdX0_ofEntry ⟨Nat.le_of_ble_eq_true rfl, Nat.le_of_ble_eq_true rfl⟩ ⟨Nat.le_of_ble_eq_true rfl, Nat.le_of_ble_eq_true rfl⟩ rfl rfl hl.1 (Nat.le_of_ble_eq_true rfl) va_P_nil hK hS dX3_writeEntry_2 (fun H locs hk hS => ?_)
  have hP := k_kept hP hk
  refine lv_istore (lv' := [(4, .int x1), (0, .ref ob), (1, .int p1), (2, .int p2), (3, .int p3)]) hx hb dX3_writeEntry_5 hl (by decide) rfl (fun ls hl => ?_)
  refine lv_aload_n hx hb dX3_writeEntry_7 rfl (lv_at hl 1 rfl) ?_
  refine lv_iload_n hx hb dX3_writeEntry_8 rfl (lv_at hl 2 rfl) ?_
  refine lv_iload hx hb dX3_writeEntry_9 (lv_at hl 0 rfl) ?_
  refine lv_aload_n hx hb dX3_writeEntry_11 rfl (lv_at hl 1 rfl) ?_
  refine va_get (D := (dC, dI)) (ci := 2) (v := .ref a3) (C := RX3) (T := TX3) (N := 6) hx hb hts iaX3 hown hK hP 0 rfl rfl 2 (by decide) (hts _ q40) (fun _ h9 => h9) rfl dX3_writeEntry_12 ?_
  refine lv_iconst (v := 1) hx hb dX3_writeEntry_15 (by decide) ?_
  refine g_iald hx hb hK hP 3 0 rfl rfl dX3_writeEntry_16 h (fun x2 h => ?_)
  obtain ⟨c3, c4, c5, hc17, h⟩ := k_b3_e h
  refine g_callMV_V (As := [.int p1, .int x1, .int x2]) (rest := []) hC (mX3_blowFuses l dC dI cyI cyC cyO ob a1 a2 a3 v_ones v_twos v_settings v_tick v_energy v_valuesPut p1 x1 x2 hc17) q347 q348 q349 q9 q350 3 hdX3_blowFuses ⟨Nat.le_of_ble_eq_true rfl, Nat.le_of_ble_eq_true rfl⟩ ⟨Nat.le_of_ble_eq_true rfl, Nat.le_of_ble_eq_true rfl⟩ rfl rfl hl.1 (Nat.le_of_ble_eq_true rfl) hP hK hD (va_recv hK hP (ci := 2) (q0 := 0) rfl rfl) hS dX3_writeEntry_17 (fun H locs hPn hk hS => ?_)
  have hP : va_P (dC, dI) vwCl (wX3 cyI cyC ob a1 a2 a3 c3 c4 v_settings v_tick c5 v_valuesPut) H := hPn
  have hD : va_D (k_A (wX3 cyI cyC ob a1 a2 a3 v_ones v_twos v_settings v_tick v_energy v_valuesPut)) (wX3 cyI cyC ob a1 a2 a3 c3 c4 v_settings v_tick c5 v_valuesPut) := k_Dm hD rfl
  refine lv_iconst (v := 1) hx hb dX3_writeEntry_20 (by decide) ?_
  refine lv_istore (lv' := [(5, .int 1), (4, .int x1), (0, .ref ob), (1, .int p1), (2, .int p2), (3, .int p3)]) hx hb dX3_writeEntry_21 hl (by decide) rfl (fun ls hl => ?_)
  obtain ⟨S23, hS23⟩ : ∃ z, z = (fX3_writeEntry_s23 v_settings v_tick p1 p2 p3 x1) := ⟨_, rfl⟩
  rw [← hS23] at h
  have L23 : ∀ (n : Nat) (x6 : Int32) (c7 : Nat → Int32) (c8 : Nat → Int32) (c9 : Int32) (H : Heap) (locs : List Loc) (ls : Array Slot), k_l4 S23 n x6 c7 c8 c9 = some (r, r_ones, r_twos, r_energy) → va_P (dC, dI) vwCl (wX3 cyI cyC ob a1 a2 a3 c7 c8 v_settings v_tick c9 v_valuesPut) H → va_S (k_A (wX3 cyI cyC ob a1 a2 a3 v_ones v_twos v_settings v_tick v_energy v_valuesPut)) s.heap H locs → lv_has ls 6 [(0, .ref ob), (1, .int p1), (2, .int p2), (3, .int p3), (4, .int x1), (5, .int x6)] → W p l e (k_rm 3 72) s m [.ref ob, .int p1, .int p2, .int p3].toArray below meth c H locs 0 0 (MQ below (qMI r (dC, dI) (wX3 cyI cyC ob a1 a2 a3 v_ones v_twos v_settings v_tick v_energy v_valuesPut) (wX3 cyI cyC ob a1 a2 a3 r_ones r_twos v_settings v_tick r_energy v_valuesPut)) [.ref ob, .int p1, .int p2, .int p3].toArray s 0 0 (k_A (wX3 cyI cyC ob a1 a2 a3 v_ones v_twos v_settings v_tick v_energy v_valuesPut))) (F0 m 23 ls []) := by
    intro n
    induction n with
    | zero =>
      intro x6 c7 c8 c9 H locs ls h
      exact (k_l4_0 h).elim
    | succ n ih23 =>
      intro x6 c7 c8 c9 H locs ls h hP hS hl
      have hD : va_D (k_A (wX3 cyI cyC ob a1 a2 a3 v_ones v_twos v_settings v_tick v_energy v_valuesPut)) (wX3 cyI cyC ob a1 a2 a3 c7 c8 v_settings v_tick c9 v_valuesPut) := k_Dm hD rfl
      have h := k_l4_s h
      have h := k_a5 hS23 h
      unfold fX3_writeEntry_s23 at h
      refine lv_iload hx hb dX3_writeEntry_23 (lv_at hl 5 rfl) ?_
      refine lv_aload_n hx hb dX3_writeEntry_25 rfl (lv_at hl 0 rfl) ?_
      refine va_get (D := (dC, dI)) (ci := 2) (v := .ref a3) (C := RX3) (T := TX3) (N := 6) hx hb hts iaX3 hown hK hP 0 rfl rfl 2 (by decide) (hts _ q40) (fun _ h9 => h9) rfl dX3_writeEntry_26 ?_
      refine lv_iconst (v := 2) hx hb dX3_writeEntry_29 (by decide) ?_
      refine g_iald hx hb hK hP 3 0 rfl rfl dX3_writeEntry_30 h (fun x10 h => ?_)
      refine g_icmp_ge (tgt := 65) hx hb dX3_writeEntry_31 (by decide) h (fun h => ?_) (fun h => ?_)
      · refine lv_iload hx hb dX3_writeEntry_65 (lv_at hl 5 rfl) ?_
        obtain ⟨e0, e1, e2, e3⟩ := k_t4 h
        exact g_retMI hx hb hr hlk hS e0 (by rw [← e1, ← e2, ← e3]; exact hP) dX3_writeEntry_67
      · refine lv_aload_n hx hb dX3_writeEntry_34 rfl (lv_at hl 0 rfl) ?_
        refine lv_iload_n hx hb dX3_writeEntry_35 rfl (lv_at hl 1 rfl) ?_
        refine lv_iload_n hx hb dX3_writeEntry_36 rfl (lv_at hl 2 rfl) ?_
        refine lv_iload_n hx hb dX3_writeEntry_37 rfl (lv_at hl 3 rfl) ?_
        obtain ⟨x11, hc38, h⟩ := k_b1_e h
        refine g_callRI_V (As := [.int p1, .int p2, .int p3]) (rest := []) hC (mX3_tellsEntry l dC dI cyI cyC cyO ob a1 a2 a3 c7 c8 v_settings v_tick c9 v_valuesPut p1 p2 p3 hc38) q351 q352 q353 q9 q354 3 hdX3_tellsEntry ⟨Nat.le_of_ble_eq_true rfl, Nat.le_of_ble_eq_true rfl⟩ ⟨Nat.le_of_ble_eq_true rfl, Nat.le_of_ble_eq_true rfl⟩ rfl rfl hl.1 (Nat.le_of_ble_eq_true rfl) hP hK (va_recv hK hP (ci := 2) (q0 := 0) rfl rfl) hS dX3_writeEntry_38 (fun H locs hk hS => ?_)
        have hP := k_kept hP hk
        refine g_if_ne (tgt := 65) hx hb dX3_writeEntry_41 (by decide) h (fun h => ?_) (fun h => ?_)
        · refine lv_iload hx hb dX3_writeEntry_65 (lv_at hl 5 rfl) ?_
          obtain ⟨e0, e1, e2, e3⟩ := k_t4 h
          exact g_retMI hx hb hr hlk hS e0 (by rw [← e1, ← e2, ← e3]; exact hP) dX3_writeEntry_67
        · refine lv_aload_n hx hb dX3_writeEntry_44 rfl (lv_at hl 0 rfl) ?_
          refine lv_iload_n hx hb dX3_writeEntry_45 rfl (lv_at hl 1 rfl) ?_
          refine lv_iload hx hb dX3_writeEntry_46 (lv_at hl 4 rfl) ?_
          refine lv_aload_n hx hb dX3_writeEntry_48 rfl (lv_at hl 0 rfl) ?_
          refine lv_iload_n hx hb dX3_writeEntry_49 rfl (lv_at hl 1 rfl) ?_
          obtain ⟨x12, hc50, h⟩ := k_b1_e h
          refine g_callRI_V (As := [.int p1]) (rest := [.int x1, .int p1, .ref ob]) hC (mX3_read l dC dI cyI cyC cyO ob a1 a2 a3 c7 c8 v_settings v_tick c9 v_valuesPut p1 hc50) q139 q140 q141 q9 q142 1 hdX3_read ⟨Nat.le_of_ble_eq_true rfl, Nat.le_of_ble_eq_true rfl⟩ ⟨Nat.le_of_ble_eq_true rfl, Nat.le_of_ble_eq_true rfl⟩ rfl rfl hl.1 (Nat.le_of_ble_eq_true rfl) hP hK (va_recv hK hP (ci := 2) (q0 := 0) rfl rfl) hS dX3_writeEntry_50 (fun H locs hk hS => ?_)
          have hP := k_kept hP hk
          refine lv_iconst (v := (-1)) hx hb dX3_writeEntry_53 (by decide) ?_
          refine g_ixor hx hb dX3_writeEntry_54 h (fun x13 h => ?_)
          refine g_iand hx hb dX3_writeEntry_55 h (fun x14 h => ?_)
          obtain ⟨c15, c16, c17, hc56, h⟩ := k_b3_e h
          refine g_callMV_V (As := [.int p1, .int x14]) (rest := []) hC (mX3_strengthenFuses l dC dI cyI cyC cyO ob a1 a2 a3 c7 c8 v_settings v_tick c9 v_valuesPut p1 x14 hc56) q355 q356 q357 q9 q358 2 hdX3_strengthenFuses ⟨Nat.le_of_ble_eq_true rfl, Nat.le_of_ble_eq_true rfl⟩ ⟨Nat.le_of_ble_eq_true rfl, Nat.le_of_ble_eq_true rfl⟩ rfl rfl hl.1 (Nat.le_of_ble_eq_true rfl) hP hK hD (va_recv hK hP (ci := 2) (q0 := 0) rfl rfl) hS dX3_writeEntry_56 (fun H locs hPn hk hS => ?_)
          have hP : va_P (dC, dI) vwCl (wX3 cyI cyC ob a1 a2 a3 c15 c16 v_settings v_tick c17 v_valuesPut) H := hPn
          have hD : va_D (k_A (wX3 cyI cyC ob a1 a2 a3 v_ones v_twos v_settings v_tick v_energy v_valuesPut)) (wX3 cyI cyC ob a1 a2 a3 c15 c16 v_settings v_tick c17 v_valuesPut) := k_Dm hD rfl
          refine g_iinc (dv := 1) hx hb dX3_writeEntry_59 hl (j := 5) rfl (by decide) (by decide) h (fun x18 ls h hl => ?_)
          have hl : lv_has ls 6 [(5, .int x18), (0, .ref ob), (1, .int p1), (2, .int p2), (3, .int p3), (4, .int x1)] := hl
          refine lv_goto (tgt := 23) hx hb dX3_writeEntry_62 (by decide) ?_
          exact ih23 x18 c15 c16 c17 _ _ _ h hP hS (lv_sub hl [1, 2, 3, 4, 5, 0] rfl)
  exact L23 5000 1 c3 c4 c5 _ _ _ h hP hS (lv_sub hl [2, 3, 4, 5, 1, 0] rfl)
def fX3_markEntries_s6 (v_settings : Nat → Int32) (v_tick : Int32) (p2 : Int32) (p1 : Int32) (p3 : Int32) (rec6 : Int32 → Int32 → (Nat → Int32) → (Nat → Int32) → Int32 → Option (Int32 × (Nat → Int32) × (Nat → Int32) × Int32)) (x1 : Int32) (x2 : Int32) (c3 : Nat → Int32) (c4 : Nat → Int32) (c5 : Int32) : Option (Int32 × (Nat → Int32) × (Nat → Int32) × Int32) :=
  k_if (20 ≤ x2)
  (
    some (x1, c3, c4, c5))
  (
    k_b1 (fX3_read c3 c4 v_settings v_tick x2) fun (x6 : Int32) =>
    k_j4
    (fun (x7 : Int32) (c8 : Nat → Int32) (c9 : Nat → Int32) (c10 : Int32) =>
      k_let (x2 + 1) fun (x11 : Int32) =>
      rec6 x7 x11 c8 c9 c10)
    (fun K66 =>
    k_if (x2 = p2)
    (
      K66 x1 c3 c4 c5)
    (
      k_b1 (fX3_isLocked c3 c4 v_tick x2) fun (x12 : Int32) =>
      k_if (x12 = 0)
      (
        k_b1 (fX0_keyOf x6) fun (x13 : Int32) =>
        k_if (x13 = p1)
        (
          k_b1 (fX0_kindOf x6) fun (x14 : Int32) =>
          k_if (x14 = 4)
          (
            k_b3 (fX3_blowFuse c3 c4 c5 x2 14 p3) fun (c15 : Nat → Int32) (c16 : Nat → Int32) (c17 : Int32) =>
            k_let (x1 + 1) fun (x18 : Int32) =>
            K66 x18 c15 c16 c17)
          (
            K66 x1 c3 c4 c5))
        (
          K66 x1 c3 c4 c5))
      (
        K66 x1 c3 c4 c5))))
def fX3_markEntries (v_ones : Nat → Int32) (v_twos : Nat → Int32) (v_settings : Nat → Int32) (v_tick : Int32) (v_energy : Int32) (p1 : Int32) (p2 : Int32) (p3 : Int32) : Option (Int32 × (Nat → Int32) × (Nat → Int32) × Int32) :=
  k_l5 (fX3_markEntries_s6 v_settings v_tick p2 p1 p3) 5000 0 0 v_ones v_twos v_energy
theorem hdX3_markEntries : yX3_markEntries.cls = RX3 ∧ yX3_markEntries.cls ≠ "java/lang/invoke/MethodHandle" ∧ yX3_markEntries.cls ≠ "java/lang/invoke/VarHandle" ∧ (parseMethodDescriptor yX3_markEntries.desc).map (fun d => d.parameters.length) = some 3 := by decide +kernel
set_option maxRecDepth 100000 in
set_option maxHeartbeats 4000000 in
theorem mX3_markEntries (l : Launch) (dC : Nat → ClassId) (dI : Nat → Nat → Nat) (cyI cyC cyO : ClassId) (ob : Nat) (a1 : Nat) (a2 : Nat) (a3 : Nat) (v_ones : Nat → Int32) (v_twos : Nat → Int32) (v_settings : Nat → Int32) (v_tick : Int32) (v_energy : Int32) (v_valuesPut : Int32) (p1 : Int32) (p2 : Int32) (p3 : Int32) {r : Int32} {r_ones : Nat → Int32} {r_twos : Nat → Int32} {r_energy : Int32} (hf : fX3_markEntries v_ones v_twos v_settings v_tick v_energy p1 p2 p3 = some (r, r_ones, r_twos, r_energy)) : MetMI l yX3_markEntries cX3_markEntries 7 (some .int) 2 48 [.ref ob, .int p1, .int p2, .int p3] (dC, dI) (tyS cyI cyC cyO) (wX3 cyI cyC ob a1 a2 a3 v_ones v_twos v_settings v_tick v_energy v_valuesPut) (wX3 cyI cyC ob a1 a2 a3 r_ones r_twos v_settings v_tick r_energy v_valuesPut) r := by
  refine metMI_of (by decide) (Nat.le_of_ble_eq_true rfl) ?_
  intro p e s m below meth c ls hC hr hlk hP hK hD hl
  have hC : CallFix p m c cX3_markEntries 7 s [.ref ob, .int p1, .int p2, .int p3].toArray wA RX3 := hC
  obtain ⟨hx, hb, hml, hown, hts⟩ := id hC
  have hS : va_S (k_A (wX3 cyI cyC ob a1 a2 a3 v_ones v_twos v_settings v_tick v_energy v_valuesPut)) s.heap s.heap [] := va_S.rf
  have hl : lv_has ls 7 [(0, .ref ob), (1, .int p1), (2, .int p2), (3, .int p3)] := hl
  have h := hf
  unfold fX3_markEntries at h
  obtain ⟨H, hH⟩ : ∃ H, H = s.heap := ⟨_, rfl⟩
  obtain ⟨locs, hlo⟩ : ∃ locs : List Loc, locs = [] := ⟨_, rfl⟩
  rw [← hH] at hP
  rw [← hlo] at hS
  have hS : va_S (k_A (wX3 cyI cyC ob a1 a2 a3 v_ones v_twos v_settings v_tick v_energy v_valuesPut)) s.heap H locs := by rw [hH]; exact hS
  show W p l e (k_rm 2 48) s m [.ref ob, .int p1, .int p2, .int p3].toArray below meth c s.heap [] 0 0 _ _
  rw [← hlo, ← hH]
  refine lv_iconst (v := 0) hx hb dX3_markEntries_0 (by decide) ?_
  refine lv_istore (lv' := [(4, .int 0), (0, .ref ob), (1, .int p1), (2, .int p2), (3, .int p3)]) hx hb dX3_markEntries_1 hl (by decide) rfl (fun ls hl => ?_)
  refine lv_iconst (v := 0) hx hb dX3_markEntries_3 (by decide) ?_
  refine lv_istore (lv' := [(5, .int 0), (4, .int 0), (0, .ref ob), (1, .int p1), (2, .int p2), (3, .int p3)]) hx hb dX3_markEntries_4 hl (by decide) rfl (fun ls hl => ?_)
  obtain ⟨S6, hS6⟩ : ∃ z, z = (fX3_markEntries_s6 v_settings v_tick p2 p1 p3) := ⟨_, rfl⟩
  rw [← hS6] at h
  have L6 : ∀ (n : Nat) (x1 : Int32) (x2 : Int32) (c3 : Nat → Int32) (c4 : Nat → Int32) (c5 : Int32) (H : Heap) (locs : List Loc) (ls : Array Slot), k_l5 S6 n x1 x2 c3 c4 c5 = some (r, r_ones, r_twos, r_energy) → va_P (dC, dI) vwCl (wX3 cyI cyC ob a1 a2 a3 c3 c4 v_settings v_tick c5 v_valuesPut) H → va_S (k_A (wX3 cyI cyC ob a1 a2 a3 v_ones v_twos v_settings v_tick v_energy v_valuesPut)) s.heap H locs → lv_has ls 7 [(0, .ref ob), (1, .int p1), (2, .int p2), (3, .int p3), (4, .int x1), (5, .int x2)] → W p l e (k_rm 2 48) s m [.ref ob, .int p1, .int p2, .int p3].toArray below meth c H locs 0 0 (MQ below (qMI r (dC, dI) (wX3 cyI cyC ob a1 a2 a3 v_ones v_twos v_settings v_tick v_energy v_valuesPut) (wX3 cyI cyC ob a1 a2 a3 r_ones r_twos v_settings v_tick r_energy v_valuesPut)) [.ref ob, .int p1, .int p2, .int p3].toArray s 0 0 (k_A (wX3 cyI cyC ob a1 a2 a3 v_ones v_twos v_settings v_tick v_energy v_valuesPut))) (F0 m 6 ls []) := by
    intro n
    induction n with
    | zero =>
      intro x1 x2 c3 c4 c5 H locs ls h
      exact (k_l5_0 h).elim
    | succ n ih6 =>
      intro x1 x2 c3 c4 c5 H locs ls h hP hS hl
      have hD : va_D (k_A (wX3 cyI cyC ob a1 a2 a3 v_ones v_twos v_settings v_tick v_energy v_valuesPut)) (wX3 cyI cyC ob a1 a2 a3 c3 c4 v_settings v_tick c5 v_valuesPut) := k_Dm hD rfl
      have h := k_l5_s h
      have h := k_a6 hS6 h
      unfold fX3_markEntries_s6 at h
      refine lv_iload hx hb dX3_markEntries_6 (lv_at hl 5 rfl) ?_
      refine lv_bipush (v := 20) hx hb dX3_markEntries_8 (by decide) ?_
      refine g_icmp_ge (tgt := 72) hx hb dX3_markEntries_10 (by decide) h (fun h => ?_) (fun h => ?_)
      · refine lv_iload hx hb dX3_markEntries_72 (lv_at hl 4 rfl) ?_
        obtain ⟨e0, e1, e2, e3⟩ := k_t4 h
        exact g_retMI hx hb hr hlk hS e0 (by rw [← e1, ← e2, ← e3]; exact hP) dX3_markEntries_74
      · refine lv_aload_n hx hb dX3_markEntries_13 rfl (lv_at hl 0 rfl) ?_
        refine lv_iload hx hb dX3_markEntries_14 (lv_at hl 5 rfl) ?_
        obtain ⟨x6, hc16, h⟩ := k_b1_e h
        refine g_callRI_V (As := [.int x2]) (rest := []) hC (mX3_read l dC dI cyI cyC cyO ob a1 a2 a3 c3 c4 v_settings v_tick c5 v_valuesPut x2 hc16) q139 q140 q141 q9 q142 1 hdX3_read ⟨Nat.le_of_ble_eq_true rfl, Nat.le_of_ble_eq_true rfl⟩ ⟨Nat.le_of_ble_eq_true rfl, Nat.le_of_ble_eq_true rfl⟩ rfl rfl hl.1 (Nat.le_of_ble_eq_true rfl) hP hK (va_recv hK hP (ci := 2) (q0 := 0) rfl rfl) hS dX3_markEntries_16 (fun H locs hk hS => ?_)
        have hP := k_kept hP hk
        refine lv_istore (lv' := [(6, .int x6), (0, .ref ob), (1, .int p1), (2, .int p2), (3, .int p3), (4, .int x1), (5, .int x2)]) hx hb dX3_markEntries_19 hl (by decide) rfl (fun ls hl => ?_)
        refine lv_iload hx hb dX3_markEntries_21 (lv_at hl 6 rfl) ?_
        refine lv_iload_n hx hb dX3_markEntries_23 rfl (lv_at hl 3 rfl) ?_
        obtain ⟨K66, hK66, h⟩ := k_j4_e h
        have J66 : ∀ (x7 : Int32) (c8 : Nat → Int32) (c9 : Nat → Int32) (c10 : Int32) (H : Heap) (locs : List Loc) (ls : Array Slot), K66 x7 c8 c9 c10 = some (r, r_ones, r_twos, r_energy) → va_P (dC, dI) vwCl (wX3 cyI cyC ob a1 a2 a3 c8 c9 v_settings v_tick c10 v_valuesPut) H → va_S (k_A (wX3 cyI cyC ob a1 a2 a3 v_ones v_twos v_settings v_tick v_energy v_valuesPut)) s.heap H locs → lv_has ls 7 [(0, .ref ob), (1, .int p1), (2, .int p2), (3, .int p3), (4, .int x7), (5, .int x2)] → W p l e (k_rm 2 48) s m [.ref ob, .int p1, .int p2, .int p3].toArray below meth c H locs 0 0 (MQ below (qMI r (dC, dI) (wX3 cyI cyC ob a1 a2 a3 v_ones v_twos v_settings v_tick v_energy v_valuesPut) (wX3 cyI cyC ob a1 a2 a3 r_ones r_twos v_settings v_tick r_energy v_valuesPut)) [.ref ob, .int p1, .int p2, .int p3].toArray s 0 0 (k_A (wX3 cyI cyC ob a1 a2 a3 v_ones v_twos v_settings v_tick v_energy v_valuesPut))) (F0 m 66 ls []) := by
          intro x7 c8 c9 c10 H locs ls h hP hS hl
          have hD : va_D (k_A (wX3 cyI cyC ob a1 a2 a3 v_ones v_twos v_settings v_tick v_energy v_valuesPut)) (wX3 cyI cyC ob a1 a2 a3 c8 c9 v_settings v_tick c10 v_valuesPut) := k_Dm hD rfl
          have h := k_a4 hK66 h
          refine g_iinc (dv := 1) hx hb dX3_markEntries_66 hl (j := 5) rfl (by decide) (by decide) h (fun x11 ls h hl => ?_)
          have hl : lv_has ls 7 [(5, .int x11), (0, .ref ob), (1, .int p1), (2, .int p2), (3, .int p3), (4, .int x7)] := hl
          refine lv_goto (tgt := 6) hx hb dX3_markEntries_69 (by decide) ?_
          exact ih6 x7 x11 c8 c9 c10 _ _ _ h hP hS (lv_sub hl [1, 2, 3, 4, 5, 0] rfl)
        refine g_icmp_eq (tgt := 66) hx hb dX3_markEntries_24 (by decide) h (fun h => ?_) (fun h => ?_)
        · exact J66 x1 c3 c4 c5 _ _ _ h hP hS (lv_sub hl [1, 2, 3, 4, 5, 6] rfl)
        · refine lv_aload_n hx hb dX3_markEntries_27 rfl (lv_at hl 1 rfl) ?_
          refine lv_iload hx hb dX3_markEntries_28 (lv_at hl 6 rfl) ?_
          obtain ⟨x12, hc30, h⟩ := k_b1_e h
          refine g_callRI_V (As := [.int x2]) (rest := []) hC (mX3_isLocked l dC dI cyI cyC cyO ob a1 a2 a3 c3 c4 v_settings v_tick c5 v_valuesPut x2 hc30) q154 q155 q156 q9 q157 1 hdX3_isLocked ⟨Nat.le_of_ble_eq_true rfl, Nat.le_of_ble_eq_true rfl⟩ ⟨Nat.le_of_ble_eq_true rfl, Nat.le_of_ble_eq_true rfl⟩ rfl rfl hl.1 (Nat.le_of_ble_eq_true rfl) hP hK (va_recv hK hP (ci := 2) (q0 := 0) rfl rfl) hS dX3_markEntries_30 (fun H locs hk hS => ?_)
          have hP := k_kept hP hk
          refine g_if_ne (tgt := 66) hx hb dX3_markEntries_33 (by decide) h (fun h => ?_) (fun h => ?_)
          · exact J66 x1 c3 c4 c5 _ _ _ h hP hS (lv_sub hl [1, 2, 3, 4, 5, 6] rfl)
          · refine lv_iload hx hb dX3_markEntries_36 (lv_at hl 0 rfl) ?_
            obtain ⟨x13, hc38, h⟩ := k_b1_e h
            refine g_callRI_S (As := [.int x6]) (rest := []) hC (mX0_keyOf l dC dI cyI cyC cyO x6 hc38) q158 q159 q17 q160 1 hdX0_keyOf ⟨Nat.le_of_ble_eq_true rfl, Nat.le_of_ble_eq_true rfl⟩ ⟨Nat.le_of_ble_eq_true rfl, Nat.le_of_ble_eq_true rfl⟩ rfl rfl hl.1 (Nat.le_of_ble_eq_true rfl) va_P_nil hK hS dX3_markEntries_38 (fun H locs hk hS => ?_)
            have hP := k_kept hP hk
            refine lv_iload_n hx hb dX3_markEntries_41 rfl (lv_at hl 2 rfl) ?_
            refine g_icmp_ne (tgt := 66) hx hb dX3_markEntries_42 (by decide) h (fun h => ?_) (fun h => ?_)
            · exact J66 x1 c3 c4 c5 _ _ _ h hP hS (lv_sub hl [1, 2, 3, 4, 5, 6] rfl)
            · refine lv_iload hx hb dX3_markEntries_45 (lv_at hl 0 rfl) ?_
              obtain ⟨x14, hc47, h⟩ := k_b1_e h
              refine g_callRI_S (As := [.int x6]) (rest := []) hC (mX0_kindOf l dC dI cyI cyC cyO x6 hc47) q161 q162 q17 q163 1 hdX0_kindOf ⟨Nat.le_of_ble_eq_true rfl, Nat.le_of_ble_eq_true rfl⟩ ⟨Nat.le_of_ble_eq_true rfl, Nat.le_of_ble_eq_true rfl⟩ rfl rfl hl.1 (Nat.le_of_ble_eq_true rfl) va_P_nil hK hS dX3_markEntries_47 (fun H locs hk hS => ?_)
              have hP := k_kept hP hk
              refine lv_iconst (v := 4) hx hb dX3_markEntries_50 (by decide) ?_
              refine g_icmp_ne (tgt := 66) hx hb dX3_markEntries_51 (by decide) h (fun h => ?_) (fun h => ?_)
              · exact J66 x1 c3 c4 c5 _ _ _ h hP hS (lv_sub hl [1, 2, 3, 4, 5, 6] rfl)
              · refine lv_aload_n hx hb dX3_markEntries_54 rfl (lv_at hl 1 rfl) ?_
                refine lv_iload hx hb dX3_markEntries_55 (lv_at hl 6 rfl) ?_
                refine lv_bipush (v := 14) hx hb dX3_markEntries_57 (by decide) ?_
                refine lv_iload_n hx hb dX3_markEntries_59 rfl (lv_at hl 4 rfl) ?_
                obtain ⟨c15, c16, c17, hc60, h⟩ := k_b3_e h
                refine g_callMV_V (As := [.int x2, .int 14, .int p3]) (rest := []) hC (mX3_blowFuse l dC dI cyI cyC cyO ob a1 a2 a3 c3 c4 v_settings v_tick c5 v_valuesPut x2 14 p3 hc60) q173 q174 q175 q9 q176 3 hdX3_blowFuse ⟨Nat.le_of_ble_eq_true rfl, Nat.le_of_ble_eq_true rfl⟩ ⟨Nat.le_of_ble_eq_true rfl, Nat.le_of_ble_eq_true rfl⟩ rfl rfl hl.1 (Nat.le_of_ble_eq_true rfl) hP hK hD (va_recv hK hP (ci := 2) (q0 := 0) rfl rfl) hS dX3_markEntries_60 (fun H locs hPn hk hS => ?_)
                have hP : va_P (dC, dI) vwCl (wX3 cyI cyC ob a1 a2 a3 c15 c16 v_settings v_tick c17 v_valuesPut) H := hPn
                have hD : va_D (k_A (wX3 cyI cyC ob a1 a2 a3 v_ones v_twos v_settings v_tick v_energy v_valuesPut)) (wX3 cyI cyC ob a1 a2 a3 c15 c16 v_settings v_tick c17 v_valuesPut) := k_Dm hD rfl
                refine g_iinc (dv := 1) hx hb dX3_markEntries_63 hl (j := 5) rfl (by decide) (by decide) h (fun x18 ls h hl => ?_)
                have hl : lv_has ls 7 [(4, .int x18), (6, .int x6), (0, .ref ob), (1, .int p1), (2, .int p2), (3, .int p3), (5, .int x2)] := hl
                exact J66 x18 c15 c16 c17 _ _ _ h hP hS (lv_sub hl [2, 3, 4, 5, 0, 6] rfl)
  exact L6 5000 0 0 v_ones v_twos v_energy _ _ _ h hP hS (lv_sub hl [2, 3, 4, 5, 1, 0] rfl)
def fX3_markEarlier (v_ones : Nat → Int32) (v_twos : Nat → Int32) (v_settings : Nat → Int32) (v_tick : Int32) (v_energy : Int32) (p1 : Int32) (p2 : Int32) : Option (Int32 × (Nat → Int32) × (Nat → Int32) × Int32) :=
  k_ck (3 : Int32) 4 <| k_let (v_settings (3 : Int32).toNatClampNeg) fun (x1 : Int32) =>
  k_if (x1 = 1)
  (
    k_ck (1 : Int32) 4 <| k_let (v_settings (1 : Int32).toNatClampNeg) fun (x2 : Int32) =>
    k_b4 (fX3_markEntries v_ones v_twos v_settings v_tick v_energy p2 p1 x2) fun (x3 : Int32) (c4 : Nat → Int32) (c5 : Nat → Int32) (c6 : Int32) =>
    some (x3, c4, c5, c6))
  (
    some (0, v_ones, v_twos, v_energy))
theorem hdX3_markEarlier : yX3_markEarlier.cls = RX3 ∧ yX3_markEarlier.cls ≠ "java/lang/invoke/MethodHandle" ∧ yX3_markEarlier.cls ≠ "java/lang/invoke/VarHandle" ∧ (parseMethodDescriptor yX3_markEarlier.desc).map (fun d => d.parameters.length) = some 2 := by decide +kernel
set_option maxRecDepth 100000 in
set_option maxHeartbeats 4000000 in
theorem mX3_markEarlier (l : Launch) (dC : Nat → ClassId) (dI : Nat → Nat → Nat) (cyI cyC cyO : ClassId) (ob : Nat) (a1 : Nat) (a2 : Nat) (a3 : Nat) (v_ones : Nat → Int32) (v_twos : Nat → Int32) (v_settings : Nat → Int32) (v_tick : Int32) (v_energy : Int32) (v_valuesPut : Int32) (p1 : Int32) (p2 : Int32) {r : Int32} {r_ones : Nat → Int32} {r_twos : Nat → Int32} {r_energy : Int32} (hf : fX3_markEarlier v_ones v_twos v_settings v_tick v_energy p1 p2 = some (r, r_ones, r_twos, r_energy)) : MetMI l yX3_markEarlier cX3_markEarlier 3 (some .int) 3 74 [.ref ob, .int p1, .int p2] (dC, dI) (tyS cyI cyC cyO) (wX3 cyI cyC ob a1 a2 a3 v_ones v_twos v_settings v_tick v_energy v_valuesPut) (wX3 cyI cyC ob a1 a2 a3 r_ones r_twos v_settings v_tick r_energy v_valuesPut) r := by
  refine metMI_of (by decide) (Nat.le_of_ble_eq_true rfl) ?_
  intro p e s m below meth c ls hC hr hlk hP hK hD hl
  have hC : CallFix p m c cX3_markEarlier 3 s [.ref ob, .int p1, .int p2].toArray wA RX3 := hC
  obtain ⟨hx, hb, hml, hown, hts⟩ := id hC
  have hS : va_S (k_A (wX3 cyI cyC ob a1 a2 a3 v_ones v_twos v_settings v_tick v_energy v_valuesPut)) s.heap s.heap [] := va_S.rf
  have hl : lv_has ls 3 [(0, .ref ob), (1, .int p1), (2, .int p2)] := hl
  have h := hf
  unfold fX3_markEarlier at h
  obtain ⟨H, hH⟩ : ∃ H, H = s.heap := ⟨_, rfl⟩
  obtain ⟨locs, hlo⟩ : ∃ locs : List Loc, locs = [] := ⟨_, rfl⟩
  rw [← hH] at hP
  rw [← hlo] at hS
  have hS : va_S (k_A (wX3 cyI cyC ob a1 a2 a3 v_ones v_twos v_settings v_tick v_energy v_valuesPut)) s.heap H locs := by rw [hH]; exact hS
  show W p l e (k_rm 3 74) s m [.ref ob, .int p1, .int p2].toArray below meth c s.heap [] 0 0 _ _
  rw [← hlo, ← hH]
  refine lv_aload_n hx hb dX3_markEarlier_0 rfl (lv_at hl 0 rfl) ?_
  refine va_get (D := (dC, dI)) (ci := 2) (v := .ref a3) (C := RX3) (T := TX3) (N := 6) hx hb hts iaX3 hown hK hP 0 rfl rfl 2 (by decide) (hts _ q40) (fun _ h9 => h9) rfl dX3_markEarlier_1 ?_
  refine lv_iconst (v := 3) hx hb dX3_markEarlier_4 (by decide) ?_
  refine g_iald hx hb hK hP 3 0 rfl rfl dX3_markEarlier_5 h (fun x1 h => ?_)
  refine lv_iconst (v := 1) hx hb dX3_markEarlier_6 (by decide) ?_
  refine g_icmp_ne (tgt := 25) hx hb dX3_markEarlier_7 (by decide) h (fun h => ?_) (fun h => ?_)
  · refine lv_iconst (v := 0) hx hb dX3_markEarlier_25 (by decide) ?_
    obtain ⟨e0, e1, e2, e3⟩ := k_t4 h
    exact g_retMI hx hb hr hlk hS e0 (by rw [← e1, ← e2, ← e3]; exact hP) dX3_markEarlier_26
  · refine lv_aload_n hx hb dX3_markEarlier_10 rfl (lv_at hl 0 rfl) ?_
    refine lv_iload_n hx hb dX3_markEarlier_11 rfl (lv_at hl 2 rfl) ?_
    refine lv_iload_n hx hb dX3_markEarlier_12 rfl (lv_at hl 1 rfl) ?_
    refine lv_aload_n hx hb dX3_markEarlier_13 rfl (lv_at hl 0 rfl) ?_
    refine va_get (D := (dC, dI)) (ci := 2) (v := .ref a3) (C := RX3) (T := TX3) (N := 6) hx hb hts iaX3 hown hK hP 0 rfl rfl 2 (by decide) (hts _ q40) (fun _ h9 => h9) rfl dX3_markEarlier_14 ?_
    refine lv_iconst (v := 1) hx hb dX3_markEarlier_17 (by decide) ?_
    refine g_iald hx hb hK hP 3 0 rfl rfl dX3_markEarlier_18 h (fun x2 h => ?_)
    obtain ⟨x3, c4, c5, c6, hc19, h⟩ := k_b4_e h
    refine g_callMI_V (As := [.int p2, .int p1, .int x2]) (rest := []) hC (mX3_markEntries l dC dI cyI cyC cyO ob a1 a2 a3 v_ones v_twos v_settings v_tick v_energy v_valuesPut p2 p1 x2 hc19) q363 q136 q137 q9 q138 3 hdX3_markEntries ⟨Nat.le_of_ble_eq_true rfl, Nat.le_of_ble_eq_true rfl⟩ ⟨Nat.le_of_ble_eq_true rfl, Nat.le_of_ble_eq_true rfl⟩ rfl rfl hl.1 (Nat.le_of_ble_eq_true rfl) hP hK hD (va_recv hK hP (ci := 2) (q0 := 0) rfl rfl) hS dX3_markEarlier_19 (fun H locs hPn hk hS => ?_)
    have hP : va_P (dC, dI) vwCl (wX3 cyI cyC ob a1 a2 a3 c4 c5 v_settings v_tick c6 v_valuesPut) H := hPn
    have hD : va_D (k_A (wX3 cyI cyC ob a1 a2 a3 v_ones v_twos v_settings v_tick v_energy v_valuesPut)) (wX3 cyI cyC ob a1 a2 a3 c4 c5 v_settings v_tick c6 v_valuesPut) := k_Dm hD rfl
    refine lv_goto (tgt := 26) hx hb dX3_markEarlier_22 (by decide) ?_
    obtain ⟨e0, e1, e2, e3⟩ := k_t4 h
    exact g_retMI hx hb hr hlk hS e0 (by rw [← e1, ← e2, ← e3]; exact hP) dX3_markEarlier_26
def fX3_putNext (v_ones : Nat → Int32) (v_twos : Nat → Int32) (v_settings : Nat → Int32) (v_tick : Int32) (v_energy : Int32) (v_valuesPut : Int32) (p1 : Int32) (p2 : Int32) : Option (Int32 × (Nat → Int32) × (Nat → Int32) × Int32 × Int32) :=
  k_b1 (fX3_nextRow v_ones v_twos v_settings v_tick) fun (x1 : Int32) =>
  k_if (x1 = ((-1)))
  (
    some ((-1), v_ones, v_twos, v_energy, v_valuesPut))
  (
    k_b4 (fX3_writeEntry v_ones v_twos v_settings v_tick v_energy x1 p1 p2) fun (x2 : Int32) (c3 : Nat → Int32) (c4 : Nat → Int32) (c5 : Int32) =>
    k_b4 (fX3_markEarlier c3 c4 v_settings v_tick c5 x1 p1) fun (x6 : Int32) (c7 : Nat → Int32) (c8 : Nat → Int32) (c9 : Int32) =>
    k_let (v_valuesPut + 1) fun (x10 : Int32) =>
    some (x2, c7, c8, c9, x10))
theorem hdX3_putNext : yX3_putNext.cls = RX3 ∧ yX3_putNext.cls ≠ "java/lang/invoke/MethodHandle" ∧ yX3_putNext.cls ≠ "java/lang/invoke/VarHandle" ∧ (parseMethodDescriptor yX3_putNext.desc).map (fun d => d.parameters.length) = some 2 := by decide +kernel
set_option maxRecDepth 100000 in
set_option maxHeartbeats 4000000 in
theorem mX3_putNext (l : Launch) (dC : Nat → ClassId) (dI : Nat → Nat → Nat) (cyI cyC cyO : ClassId) (ob : Nat) (a1 : Nat) (a2 : Nat) (a3 : Nat) (v_ones : Nat → Int32) (v_twos : Nat → Int32) (v_settings : Nat → Int32) (v_tick : Int32) (v_energy : Int32) (v_valuesPut : Int32) (p1 : Int32) (p2 : Int32) {r : Int32} {r_ones : Nat → Int32} {r_twos : Nat → Int32} {r_energy : Int32} {r_valuesPut : Int32} (hf : fX3_putNext v_ones v_twos v_settings v_tick v_energy v_valuesPut p1 p2 = some (r, r_ones, r_twos, r_energy, r_valuesPut)) : MetMI l yX3_putNext cX3_putNext 5 (some .int) 4 97 [.ref ob, .int p1, .int p2] (dC, dI) (tyS cyI cyC cyO) (wX3 cyI cyC ob a1 a2 a3 v_ones v_twos v_settings v_tick v_energy v_valuesPut) (wX3 cyI cyC ob a1 a2 a3 r_ones r_twos v_settings v_tick r_energy r_valuesPut) r := by
  refine metMI_of (by decide) (Nat.le_of_ble_eq_true rfl) ?_
  intro p e s m below meth c ls hC hr hlk hP hK hD hl
  have hC : CallFix p m c cX3_putNext 5 s [.ref ob, .int p1, .int p2].toArray wA RX3 := hC
  obtain ⟨hx, hb, hml, hown, hts⟩ := id hC
  have hS : va_S (k_A (wX3 cyI cyC ob a1 a2 a3 v_ones v_twos v_settings v_tick v_energy v_valuesPut)) s.heap s.heap [] := va_S.rf
  have hl : lv_has ls 5 [(0, .ref ob), (1, .int p1), (2, .int p2)] := hl
  have h := hf
  unfold fX3_putNext at h
  obtain ⟨H, hH⟩ : ∃ H, H = s.heap := ⟨_, rfl⟩
  obtain ⟨locs, hlo⟩ : ∃ locs : List Loc, locs = [] := ⟨_, rfl⟩
  rw [← hH] at hP
  rw [← hlo] at hS
  have hS : va_S (k_A (wX3 cyI cyC ob a1 a2 a3 v_ones v_twos v_settings v_tick v_energy v_valuesPut)) s.heap H locs := by rw [hH]; exact hS
  show W p l e (k_rm 4 97) s m [.ref ob, .int p1, .int p2].toArray below meth c s.heap [] 0 0 _ _
  rw [← hlo, ← hH]
  refine lv_aload_n hx hb dX3_putNext_0 rfl (lv_at hl 0 rfl) ?_
  obtain ⟨x1, hc1, h⟩ := k_b1_e h
  refine g_callRI_V (As := []) (rest := []) hC (mX3_nextRow l dC dI cyI cyC cyO ob a1 a2 a3 v_ones v_twos v_settings v_tick v_energy v_valuesPut hc1) q402 q316 q317 q9 q318 0 hdX3_nextRow ⟨Nat.le_of_ble_eq_true rfl, Nat.le_of_ble_eq_true rfl⟩ ⟨Nat.le_of_ble_eq_true rfl, Nat.le_of_ble_eq_true rfl⟩ rfl rfl hl.1 (Nat.le_of_ble_eq_true rfl) hP hK (va_recv hK hP (ci := 2) (q0 := 0) rfl rfl) hS dX3_putNext_1 (fun H locs hk hS => ?_)
  have hP := k_kept hP hk
  refine lv_istore_n (lv' := [(3, .int x1), (0, .ref ob), (1, .int p1), (2, .int p2)]) hx hb dX3_putNext_4 rfl hl (by decide) rfl (fun ls hl => ?_)
  refine lv_iload_n hx hb dX3_putNext_5 rfl (lv_at hl 0 rfl) ?_
  refine lv_iconst (v := (-1)) hx hb dX3_putNext_6 (by decide) ?_
  refine g_icmp_ne (tgt := 12) hx hb dX3_putNext_7 (by decide) h (fun h => ?_) (fun h => ?_)
  · refine lv_aload_n hx hb dX3_putNext_12 rfl (lv_at hl 1 rfl) ?_
    refine lv_iload_n hx hb dX3_putNext_13 rfl (lv_at hl 0 rfl) ?_
    refine lv_iload_n hx hb dX3_putNext_14 rfl (lv_at hl 2 rfl) ?_
    refine lv_iload_n hx hb dX3_putNext_15 rfl (lv_at hl 3 rfl) ?_
    obtain ⟨x2, c3, c4, c5, hc16, h⟩ := k_b4_e h
    refine g_callMI_V (As := [.int x1, .int p1, .int p2]) (rest := []) hC (mX3_writeEntry l dC dI cyI cyC cyO ob a1 a2 a3 v_ones v_twos v_settings v_tick v_energy v_valuesPut x1 p1 p2 hc16) q403 q340 q341 q9 q342 3 hdX3_writeEntry ⟨Nat.le_of_ble_eq_true rfl, Nat.le_of_ble_eq_true rfl⟩ ⟨Nat.le_of_ble_eq_true rfl, Nat.le_of_ble_eq_true rfl⟩ rfl rfl hl.1 (Nat.le_of_ble_eq_true rfl) hP hK hD (va_recv hK hP (ci := 2) (q0 := 0) rfl rfl) hS dX3_putNext_16 (fun H locs hPn hk hS => ?_)
    have hP : va_P (dC, dI) vwCl (wX3 cyI cyC ob a1 a2 a3 c3 c4 v_settings v_tick c5 v_valuesPut) H := hPn
    have hD : va_D (k_A (wX3 cyI cyC ob a1 a2 a3 v_ones v_twos v_settings v_tick v_energy v_valuesPut)) (wX3 cyI cyC ob a1 a2 a3 c3 c4 v_settings v_tick c5 v_valuesPut) := k_Dm hD rfl
    refine lv_istore (lv' := [(4, .int x2), (3, .int x1), (0, .ref ob), (1, .int p1), (2, .int p2)]) hx hb dX3_putNext_19 hl (by decide) rfl (fun ls hl => ?_)
    refine lv_aload_n hx hb dX3_putNext_21 rfl (lv_at hl 2 rfl) ?_
    refine lv_iload_n hx hb dX3_putNext_22 rfl (lv_at hl 1 rfl) ?_
    refine lv_iload_n hx hb dX3_putNext_23 rfl (lv_at hl 3 rfl) ?_
    obtain ⟨x6, c7, c8, c9, hc24, h⟩ := k_b4_e h
    refine g_callMI_V (As := [.int x1, .int p1]) (rest := []) hC (mX3_markEarlier l dC dI cyI cyC cyO ob a1 a2 a3 c3 c4 v_settings v_tick c5 v_valuesPut x1 p1 hc24) q404 q360 q361 q9 q362 2 hdX3_markEarlier ⟨Nat.le_of_ble_eq_true rfl, Nat.le_of_ble_eq_true rfl⟩ ⟨Nat.le_of_ble_eq_true rfl, Nat.le_of_ble_eq_true rfl⟩ rfl rfl hl.1 (Nat.le_of_ble_eq_true rfl) hP hK hD (va_recv hK hP (ci := 2) (q0 := 0) rfl rfl) hS dX3_putNext_24 (fun H locs hPn hk hS => ?_)
    have hP : va_P (dC, dI) vwCl (wX3 cyI cyC ob a1 a2 a3 c7 c8 v_settings v_tick c9 v_valuesPut) H := hPn
    have hD : va_D (k_A (wX3 cyI cyC ob a1 a2 a3 v_ones v_twos v_settings v_tick v_energy v_valuesPut)) (wX3 cyI cyC ob a1 a2 a3 c7 c8 v_settings v_tick c9 v_valuesPut) := k_Dm hD rfl
    refine lv_pop hx hb dX3_putNext_27 rfl ?_
    refine lv_aload_n hx hb dX3_putNext_28 rfl (lv_at hl 2 rfl) ?_
    refine lv_dup hx hb dX3_putNext_29 rfl ?_
    refine va_get (D := (dC, dI)) (ci := 2) (v := .int v_valuesPut) (C := RX3) (T := TX3) (N := 6) hx hb hts iaX3 hown hK hP 0 rfl rfl 5 (by decide) (hts _ q46) (fun _ h9 => h9) rfl dX3_putNext_30 ?_
    refine lv_iconst (v := 1) hx hb dX3_putNext_33 (by decide) ?_
    refine g_iadd hx hb dX3_putNext_34 h (fun x10 h => ?_)
    refine va_put (D := (dC, dI)) (ci := 2) (v := .int x10) (ty := .int) (C := RX3) (T := TX3) (N := 6) hx hb hts iaX3 tyX3 tyX3_ok nmX3 hown hK hP hD hS 0 rfl rfl 5 (by decide) (hts _ q46) (fun _ h9 => h9) rfl (by decide +kernel) rfl rfl (Nat.le_of_ble_eq_true rfl) dX3_putNext_35 (fun H locs hP _ hS => ?_)
    have hP : va_P (dC, dI) vwCl (wX3 cyI cyC ob a1 a2 a3 c7 c8 v_settings v_tick c9 x10) H := hP
    have hD : va_D (k_A (wX3 cyI cyC ob a1 a2 a3 v_ones v_twos v_settings v_tick v_energy v_valuesPut)) (wX3 cyI cyC ob a1 a2 a3 c7 c8 v_settings v_tick c9 x10) := k_Dm hD rfl
    refine lv_iload hx hb dX3_putNext_38 (lv_at hl 0 rfl) ?_
    obtain ⟨e0, e1, e2, e3, e4⟩ := k_t5 h
    exact g_retMI hx hb hr hlk hS e0 (by rw [← e1, ← e2, ← e3, ← e4]; exact hP) dX3_putNext_40
  · refine lv_iconst (v := (-1)) hx hb dX3_putNext_10 (by decide) ?_
    obtain ⟨e0, e1, e2, e3, e4⟩ := k_t5 h
    exact g_retMI hx hb hr hlk hS e0 (by rw [← e1, ← e2, ← e3, ← e4]; exact hP) dX3_putNext_11
def fX3_refreshRow (v_ones : Nat → Int32) (v_twos : Nat → Int32) (v_tick : Int32) (v_energy : Int32) (p1 : Int32) : Option (Int32 × (Nat → Int32) × (Nat → Int32) × Int32) :=
  k_ck p1 20 <| k_let (v_twos p1.toNatClampNeg) fun (x1 : Int32) =>
  k_ck p1 20 <| k_let (v_ones p1.toNatClampNeg) fun (x2 : Int32) =>
  k_let (x2 ^^^ ((-1))) fun (x3 : Int32) =>
  k_let (x1 &&& x3) fun (x4 : Int32) =>
  k_b1 (fJ6_bitCount_0f7a4 x4) fun (x5 : Int32) =>
  k_b1 (fX3_readAt v_ones v_twos p1 v_tick 1) fun (x6 : Int32) =>
  k_b3 (fX3_blowFuses v_ones v_twos v_energy p1 x6 3) fun (c7 : Nat → Int32) (c8 : Nat → Int32) (c9 : Int32) =>
  some (x5, c7, c8, c9)
theorem hdX3_refreshRow : yX3_refreshRow.cls = RX3 ∧ yX3_refreshRow.cls ≠ "java/lang/invoke/MethodHandle" ∧ yX3_refreshRow.cls ≠ "java/lang/invoke/VarHandle" ∧ (parseMethodDescriptor yX3_refreshRow.desc).map (fun d => d.parameters.length) = some 1 := by decide +kernel
set_option maxRecDepth 100000 in
set_option maxHeartbeats 4000000 in
theorem mX3_refreshRow (l : Launch) (dC : Nat → ClassId) (dI : Nat → Nat → Nat) (cyI cyC cyO : ClassId) (ob : Nat) (a1 : Nat) (a2 : Nat) (a3 : Nat) (v_ones : Nat → Int32) (v_twos : Nat → Int32) (v_settings : Nat → Int32) (v_tick : Int32) (v_energy : Int32) (v_valuesPut : Int32) (p1 : Int32) {r : Int32} {r_ones : Nat → Int32} {r_twos : Nat → Int32} {r_energy : Int32} (hf : fX3_refreshRow v_ones v_twos v_tick v_energy p1 = some (r, r_ones, r_twos, r_energy)) : MetMI l yX3_refreshRow cX3_refreshRow 3 (some .int) 3 70 [.ref ob, .int p1] (dC, dI) (tyS cyI cyC cyO) (wX3 cyI cyC ob a1 a2 a3 v_ones v_twos v_settings v_tick v_energy v_valuesPut) (wX3 cyI cyC ob a1 a2 a3 r_ones r_twos v_settings v_tick r_energy v_valuesPut) r := by
  refine metMI_of (by decide) (Nat.le_of_ble_eq_true rfl) ?_
  intro p e s m below meth c ls hC hr hlk hP hK hD hl
  have hC : CallFix p m c cX3_refreshRow 3 s [.ref ob, .int p1].toArray wA RX3 := hC
  obtain ⟨hx, hb, hml, hown, hts⟩ := id hC
  have hS : va_S (k_A (wX3 cyI cyC ob a1 a2 a3 v_ones v_twos v_settings v_tick v_energy v_valuesPut)) s.heap s.heap [] := va_S.rf
  have hl : lv_has ls 3 [(0, .ref ob), (1, .int p1)] := hl
  have h := hf
  unfold fX3_refreshRow at h
  obtain ⟨H, hH⟩ : ∃ H, H = s.heap := ⟨_, rfl⟩
  obtain ⟨locs, hlo⟩ : ∃ locs : List Loc, locs = [] := ⟨_, rfl⟩
  rw [← hH] at hP
  rw [← hlo] at hS
  have hS : va_S (k_A (wX3 cyI cyC ob a1 a2 a3 v_ones v_twos v_settings v_tick v_energy v_valuesPut)) s.heap H locs := by rw [hH]; exact hS
  show W p l e (k_rm 3 70) s m [.ref ob, .int p1].toArray below meth c s.heap [] 0 0 _ _
  rw [← hlo, ← hH]
  refine lv_aload_n hx hb dX3_refreshRow_0 rfl (lv_at hl 0 rfl) ?_
  refine va_get (D := (dC, dI)) (ci := 2) (v := .ref a2) (C := RX3) (T := TX3) (N := 6) hx hb hts iaX3 hown hK hP 0 rfl rfl 1 (by decide) (hts _ q38) (fun _ h9 => h9) rfl dX3_refreshRow_1 ?_
  refine lv_iload_n hx hb dX3_refreshRow_4 rfl (lv_at hl 1 rfl) ?_
  refine g_iald hx hb hK hP 2 0 rfl rfl dX3_refreshRow_5 h (fun x1 h => ?_)
  refine lv_aload_n hx hb dX3_refreshRow_6 rfl (lv_at hl 0 rfl) ?_
  refine va_get (D := (dC, dI)) (ci := 2) (v := .ref a1) (C := RX3) (T := TX3) (N := 6) hx hb hts iaX3 hown hK hP 0 rfl rfl 0 (by decide) (hts _ q36) (fun _ h9 => h9) rfl dX3_refreshRow_7 ?_
  refine lv_iload_n hx hb dX3_refreshRow_10 rfl (lv_at hl 1 rfl) ?_
  refine g_iald hx hb hK hP 1 0 rfl rfl dX3_refreshRow_11 h (fun x2 h => ?_)
  refine lv_iconst (v := (-1)) hx hb dX3_refreshRow_12 (by decide) ?_
  refine g_ixor hx hb dX3_refreshRow_13 h (fun x3 h => ?_)
  refine g_iand hx hb dX3_refreshRow_14 h (fun x4 h => ?_)
  obtain ⟨x5, hc15, h⟩ := k_b1_e h
  refine g_callRI_S (As := [.int x4]) (rest := []) hC (mJ6_bitCount_0f7a4 l dC dI cyI cyC cyO x4 hc15) q252 q165 q12 q166 1 hdJ6_bitCount_0f7a4 ⟨Nat.le_of_ble_eq_true rfl, Nat.le_of_ble_eq_true rfl⟩ ⟨Nat.le_of_ble_eq_true rfl, Nat.le_of_ble_eq_true rfl⟩ rfl rfl hl.1 (Nat.le_of_ble_eq_true rfl) va_P_nil hK hS dX3_refreshRow_15 (fun H locs hk hS => ?_)
  have hP := k_kept hP hk
  refine lv_istore_n (lv' := [(2, .int x5), (0, .ref ob), (1, .int p1)]) hx hb dX3_refreshRow_18 rfl hl (by decide) rfl (fun ls hl => ?_)
  refine lv_aload_n hx hb dX3_refreshRow_19 rfl (lv_at hl 1 rfl) ?_
  refine lv_iload_n hx hb dX3_refreshRow_20 rfl (lv_at hl 2 rfl) ?_
  refine lv_aload_n hx hb dX3_refreshRow_21 rfl (lv_at hl 1 rfl) ?_
  refine lv_iload_n hx hb dX3_refreshRow_22 rfl (lv_at hl 2 rfl) ?_
  refine lv_aload_n hx hb dX3_refreshRow_23 rfl (lv_at hl 1 rfl) ?_
  refine va_get (D := (dC, dI)) (ci := 2) (v := .int v_tick) (C := RX3) (T := TX3) (N := 6) hx hb hts iaX3 hown hK hP 0 rfl rfl 3 (by decide) (hts _ q42) (fun _ h9 => h9) rfl dX3_refreshRow_24 ?_
  refine lv_iconst (v := 1) hx hb dX3_refreshRow_27 (by decide) ?_
  obtain ⟨x6, hc28, h⟩ := k_b1_e h
  refine g_callRI_V (As := [.int p1, .int v_tick, .int 1]) (rest := [.int p1, .ref ob]) hC (mX3_readAt l dC dI cyI cyC cyO ob a1 a2 a3 v_ones v_twos v_settings v_tick v_energy v_valuesPut p1 v_tick 1 hc28) q147 q148 q149 q9 q150 3 hdX3_readAt ⟨Nat.le_of_ble_eq_true rfl, Nat.le_of_ble_eq_true rfl⟩ ⟨Nat.le_of_ble_eq_true rfl, Nat.le_of_ble_eq_true rfl⟩ rfl rfl hl.1 (Nat.le_of_ble_eq_true rfl) hP hK (va_recv hK hP (ci := 2) (q0 := 0) rfl rfl) hS dX3_refreshRow_28 (fun H locs hk hS => ?_)
  have hP := k_kept hP hk
  refine lv_iconst (v := 3) hx hb dX3_refreshRow_31 (by decide) ?_
  obtain ⟨c7, c8, c9, hc32, h⟩ := k_b3_e h
  refine g_callMV_V (As := [.int p1, .int x6, .int 3]) (rest := []) hC (mX3_blowFuses l dC dI cyI cyC cyO ob a1 a2 a3 v_ones v_twos v_settings v_tick v_energy v_valuesPut p1 x6 3 hc32) q347 q348 q349 q9 q350 3 hdX3_blowFuses ⟨Nat.le_of_ble_eq_true rfl, Nat.le_of_ble_eq_true rfl⟩ ⟨Nat.le_of_ble_eq_true rfl, Nat.le_of_ble_eq_true rfl⟩ rfl rfl hl.1 (Nat.le_of_ble_eq_true rfl) hP hK hD (va_recv hK hP (ci := 2) (q0 := 0) rfl rfl) hS dX3_refreshRow_32 (fun H locs hPn hk hS => ?_)
  have hP : va_P (dC, dI) vwCl (wX3 cyI cyC ob a1 a2 a3 c7 c8 v_settings v_tick c9 v_valuesPut) H := hPn
  have hD : va_D (k_A (wX3 cyI cyC ob a1 a2 a3 v_ones v_twos v_settings v_tick v_energy v_valuesPut)) (wX3 cyI cyC ob a1 a2 a3 c7 c8 v_settings v_tick c9 v_valuesPut) := k_Dm hD rfl
  refine lv_iload_n hx hb dX3_refreshRow_35 rfl (lv_at hl 0 rfl) ?_
  obtain ⟨e0, e1, e2, e3⟩ := k_t4 h
  exact g_retMI hx hb hr hlk hS e0 (by rw [← e1, ← e2, ← e3]; exact hP) dX3_refreshRow_36
def fX3_heatRows_s4 (p1 : Int32) (rec4 : Int32 → Int32 → (Nat → Int32) → (Nat → Int32) → Option (Int32 × (Nat → Int32) × (Nat → Int32))) (x1 : Int32) (x2 : Int32) (c3 : Nat → Int32) (c4 : Nat → Int32) : Option (Int32 × (Nat → Int32) × (Nat → Int32)) :=
  k_if (20 ≤ x2)
  (
    some (x1, c3, c4))
  (
    k_j1
    (fun (x5 : Int32) =>
      k_j1
      (fun (x6 : Int32) =>
        k_ck x2 20 <| k_let (c3 x2.toNatClampNeg) fun (x7 : Int32) =>
        k_let (x5 ^^^ ((-1))) fun (x8 : Int32) =>
        k_let (x7 &&& x8) fun (x9 : Int32) =>
        k_let (x9 ||| x6) fun (x10 : Int32) =>
        k_ck x2 20 <| k_let (upd c3 x2.toNatClampNeg x10) fun (c11 : Nat → Int32) =>
        k_ck x2 20 <| k_let (c4 x2.toNatClampNeg) fun (x12 : Int32) =>
        k_let (x6 ^^^ ((-1))) fun (x13 : Int32) =>
        k_let (x12 &&& x13) fun (x14 : Int32) =>
        k_ck x2 20 <| k_let (upd c4 x2.toNatClampNeg x14) fun (c15 : Nat → Int32) =>
        k_b1 (fJ6_bitCount_0f7a4 x5) fun (x16 : Int32) =>
        k_b1 (fJ6_bitCount_0f7a4 x6) fun (x17 : Int32) =>
        k_let (x16 + x17) fun (x18 : Int32) =>
        k_let (x1 + x18) fun (x19 : Int32) =>
        k_let (x2 + 1) fun (x20 : Int32) =>
        rec4 x19 x20 c11 c15)
      (fun K61 =>
      k_if (p1 < 6)
      (
        K61 0)
      (
        k_ck x2 20 <| k_let (c4 x2.toNatClampNeg) fun (x21 : Int32) =>
        k_ck x2 20 <| k_let (c3 x2.toNatClampNeg) fun (x22 : Int32) =>
        k_let (x22 ^^^ ((-1))) fun (x23 : Int32) =>
        k_let (x21 &&& x23) fun (x24 : Int32) =>
        K61 x24)))
    (fun K34 =>
    k_if (p1 < 3)
    (
      K34 0)
    (
      k_ck x2 20 <| k_let (c3 x2.toNatClampNeg) fun (x25 : Int32) =>
      k_ck x2 20 <| k_let (c4 x2.toNatClampNeg) fun (x26 : Int32) =>
      k_let (x26 ^^^ ((-1))) fun (x27 : Int32) =>
      k_let (x25 &&& x27) fun (x28 : Int32) =>
      K34 x28)))
def fX3_heatRows (v_ones : Nat → Int32) (v_twos : Nat → Int32) (p1 : Int32) : Option (Int32 × (Nat → Int32) × (Nat → Int32)) :=
  k_l4 (fX3_heatRows_s4 p1) 5000 0 0 v_ones v_twos
theorem hdX3_heatRows : yX3_heatRows.cls = RX3 ∧ yX3_heatRows.cls ≠ "java/lang/invoke/MethodHandle" ∧ yX3_heatRows.cls ≠ "java/lang/invoke/VarHandle" ∧ (parseMethodDescriptor yX3_heatRows.desc).map (fun d => d.parameters.length) = some 1 := by decide +kernel
set_option maxRecDepth 100000 in
set_option maxHeartbeats 4000000 in
theorem mX3_heatRows (l : Launch) (dC : Nat → ClassId) (dI : Nat → Nat → Nat) (cyI cyC cyO : ClassId) (ob : Nat) (a1 : Nat) (a2 : Nat) (a3 : Nat) (v_ones : Nat → Int32) (v_twos : Nat → Int32) (v_settings : Nat → Int32) (v_tick : Int32) (v_energy : Int32) (v_valuesPut : Int32) (p1 : Int32) {r : Int32} {r_ones : Nat → Int32} {r_twos : Nat → Int32} (hf : fX3_heatRows v_ones v_twos p1 = some (r, r_ones, r_twos)) : MetMI l yX3_heatRows cX3_heatRows 6 (some .int) 1 20 [.ref ob, .int p1] (dC, dI) (tyS cyI cyC cyO) (wX3 cyI cyC ob a1 a2 a3 v_ones v_twos v_settings v_tick v_energy v_valuesPut) (wX3 cyI cyC ob a1 a2 a3 r_ones r_twos v_settings v_tick v_energy v_valuesPut) r := by
  refine metMI_of (by decide) (Nat.le_of_ble_eq_true rfl) ?_
  intro p e s m below meth c ls hC hr hlk hP hK hD hl
  have hC : CallFix p m c cX3_heatRows 6 s [.ref ob, .int p1].toArray wA RX3 := hC
  obtain ⟨hx, hb, hml, hown, hts⟩ := id hC
  have hS : va_S (k_A (wX3 cyI cyC ob a1 a2 a3 v_ones v_twos v_settings v_tick v_energy v_valuesPut)) s.heap s.heap [] := va_S.rf
  have hl : lv_has ls 6 [(0, .ref ob), (1, .int p1)] := hl
  have h := hf
  unfold fX3_heatRows at h
  obtain ⟨H, hH⟩ : ∃ H, H = s.heap := ⟨_, rfl⟩
  obtain ⟨locs, hlo⟩ : ∃ locs : List Loc, locs = [] := ⟨_, rfl⟩
  rw [← hH] at hP
  rw [← hlo] at hS
  have hS : va_S (k_A (wX3 cyI cyC ob a1 a2 a3 v_ones v_twos v_settings v_tick v_energy v_valuesPut)) s.heap H locs := by rw [hH]; exact hS
  show W p l e (k_rm 1 20) s m [.ref ob, .int p1].toArray below meth c s.heap [] 0 0 _ _
  rw [← hlo, ← hH]
  refine lv_iconst (v := 0) hx hb dX3_heatRows_0 (by decide) ?_
  refine lv_istore_n (lv' := [(2, .int 0), (0, .ref ob), (1, .int p1)]) hx hb dX3_heatRows_1 rfl hl (by decide) rfl (fun ls hl => ?_)
  refine lv_iconst (v := 0) hx hb dX3_heatRows_2 (by decide) ?_
  refine lv_istore_n (lv' := [(3, .int 0), (2, .int 0), (0, .ref ob), (1, .int p1)]) hx hb dX3_heatRows_3 rfl hl (by decide) rfl (fun ls hl => ?_)
  obtain ⟨S4, hS4⟩ : ∃ z, z = (fX3_heatRows_s4 p1) := ⟨_, rfl⟩
  rw [← hS4] at h
  have L4 : ∀ (n : Nat) (x1 : Int32) (x2 : Int32) (c3 : Nat → Int32) (c4 : Nat → Int32) (H : Heap) (locs : List Loc) (ls : Array Slot), k_l4 S4 n x1 x2 c3 c4 = some (r, r_ones, r_twos) → va_P (dC, dI) vwCl (wX3 cyI cyC ob a1 a2 a3 c3 c4 v_settings v_tick v_energy v_valuesPut) H → va_S (k_A (wX3 cyI cyC ob a1 a2 a3 v_ones v_twos v_settings v_tick v_energy v_valuesPut)) s.heap H locs → lv_has ls 6 [(0, .ref ob), (1, .int p1), (2, .int x1), (3, .int x2)] → W p l e (k_rm 1 20) s m [.ref ob, .int p1].toArray below meth c H locs 0 0 (MQ below (qMI r (dC, dI) (wX3 cyI cyC ob a1 a2 a3 v_ones v_twos v_settings v_tick v_energy v_valuesPut) (wX3 cyI cyC ob a1 a2 a3 r_ones r_twos v_settings v_tick v_energy v_valuesPut)) [.ref ob, .int p1].toArray s 0 0 (k_A (wX3 cyI cyC ob a1 a2 a3 v_ones v_twos v_settings v_tick v_energy v_valuesPut))) (F0 m 4 ls []) := by
    intro n
    induction n with
    | zero =>
      intro x1 x2 c3 c4 H locs ls h
      exact (k_l4_0 h).elim
    | succ n ih4 =>
      intro x1 x2 c3 c4 H locs ls h hP hS hl
      have hD : va_D (k_A (wX3 cyI cyC ob a1 a2 a3 v_ones v_twos v_settings v_tick v_energy v_valuesPut)) (wX3 cyI cyC ob a1 a2 a3 c3 c4 v_settings v_tick v_energy v_valuesPut) := k_Dm hD rfl
      have h := k_l4_s h
      have h := k_a5 hS4 h
      unfold fX3_heatRows_s4 at h
      refine lv_iload_n hx hb dX3_heatRows_4 rfl (lv_at hl 3 rfl) ?_
      refine lv_bipush (v := 20) hx hb dX3_heatRows_5 (by decide) ?_
      refine g_icmp_ge (tgt := 120) hx hb dX3_heatRows_7 (by decide) h (fun h => ?_) (fun h => ?_)
      · refine lv_iload_n hx hb dX3_heatRows_120 rfl (lv_at hl 2 rfl) ?_
        obtain ⟨e0, e1, e2⟩ := k_t3 h
        exact g_retMI hx hb hr hlk hS e0 (by rw [← e1, ← e2]; exact hP) dX3_heatRows_121
      · refine lv_iload_n hx hb dX3_heatRows_10 rfl (lv_at hl 1 rfl) ?_
        refine lv_iconst (v := 3) hx hb dX3_heatRows_11 (by decide) ?_
        obtain ⟨K34, hK34, h⟩ := k_j1_e h
        have J34 : ∀ (x5 : Int32) (H : Heap) (locs : List Loc) (ls : Array Slot), K34 x5 = some (r, r_ones, r_twos) → va_P (dC, dI) vwCl (wX3 cyI cyC ob a1 a2 a3 c3 c4 v_settings v_tick v_energy v_valuesPut) H → va_S (k_A (wX3 cyI cyC ob a1 a2 a3 v_ones v_twos v_settings v_tick v_energy v_valuesPut)) s.heap H locs → lv_has ls 6 [(0, .ref ob), (1, .int p1), (2, .int x1), (3, .int x2)] → W p l e (k_rm 1 20) s m [.ref ob, .int p1].toArray below meth c H locs 0 0 (MQ below (qMI r (dC, dI) (wX3 cyI cyC ob a1 a2 a3 v_ones v_twos v_settings v_tick v_energy v_valuesPut) (wX3 cyI cyC ob a1 a2 a3 r_ones r_twos v_settings v_tick v_energy v_valuesPut)) [.ref ob, .int p1].toArray s 0 0 (k_A (wX3 cyI cyC ob a1 a2 a3 v_ones v_twos v_settings v_tick v_energy v_valuesPut))) (F0 m 34 ls [.int x5]) := by
          intro x5 H locs ls h hP hS hl
          have h := k_a1 hK34 h
          refine lv_istore (lv' := [(4, .int x5), (0, .ref ob), (1, .int p1), (2, .int x1), (3, .int x2)]) hx hb dX3_heatRows_34 hl (by decide) rfl (fun ls hl => ?_)
          refine lv_iload_n hx hb dX3_heatRows_36 rfl (lv_at hl 2 rfl) ?_
          refine lv_bipush (v := 6) hx hb dX3_heatRows_37 (by decide) ?_
          obtain ⟨K61, hK61, h⟩ := k_j1_e h
          have J61 : ∀ (x6 : Int32) (H : Heap) (locs : List Loc) (ls : Array Slot), K61 x6 = some (r, r_ones, r_twos) → va_P (dC, dI) vwCl (wX3 cyI cyC ob a1 a2 a3 c3 c4 v_settings v_tick v_energy v_valuesPut) H → va_S (k_A (wX3 cyI cyC ob a1 a2 a3 v_ones v_twos v_settings v_tick v_energy v_valuesPut)) s.heap H locs → lv_has ls 6 [(0, .ref ob), (1, .int p1), (2, .int x1), (3, .int x2), (4, .int x5)] → W p l e (k_rm 1 20) s m [.ref ob, .int p1].toArray below meth c H locs 0 0 (MQ below (qMI r (dC, dI) (wX3 cyI cyC ob a1 a2 a3 v_ones v_twos v_settings v_tick v_energy v_valuesPut) (wX3 cyI cyC ob a1 a2 a3 r_ones r_twos v_settings v_tick v_energy v_valuesPut)) [.ref ob, .int p1].toArray s 0 0 (k_A (wX3 cyI cyC ob a1 a2 a3 v_ones v_twos v_settings v_tick v_energy v_valuesPut))) (F0 m 61 ls [.int x6]) := by
            intro x6 H locs ls h hP hS hl
            have h := k_a1 hK61 h
            refine lv_istore (lv' := [(5, .int x6), (0, .ref ob), (1, .int p1), (2, .int x1), (3, .int x2), (4, .int x5)]) hx hb dX3_heatRows_61 hl (by decide) rfl (fun ls hl => ?_)
            refine lv_aload_n hx hb dX3_heatRows_63 rfl (lv_at hl 1 rfl) ?_
            refine va_get (D := (dC, dI)) (ci := 2) (v := .ref a1) (C := RX3) (T := TX3) (N := 6) hx hb hts iaX3 hown hK hP 0 rfl rfl 0 (by decide) (hts _ q36) (fun _ h9 => h9) rfl dX3_heatRows_64 ?_
            refine lv_iload_n hx hb dX3_heatRows_67 rfl (lv_at hl 4 rfl) ?_
            refine lv_aload_n hx hb dX3_heatRows_68 rfl (lv_at hl 1 rfl) ?_
            refine va_get (D := (dC, dI)) (ci := 2) (v := .ref a1) (C := RX3) (T := TX3) (N := 6) hx hb hts iaX3 hown hK hP 0 rfl rfl 0 (by decide) (hts _ q36) (fun _ h9 => h9) rfl dX3_heatRows_69 ?_
            refine lv_iload_n hx hb dX3_heatRows_72 rfl (lv_at hl 4 rfl) ?_
            refine g_iald hx hb hK hP 1 0 rfl rfl dX3_heatRows_73 h (fun x7 h => ?_)
            refine lv_iload hx hb dX3_heatRows_74 (lv_at hl 5 rfl) ?_
            refine lv_iconst (v := (-1)) hx hb dX3_heatRows_76 (by decide) ?_
            refine g_ixor hx hb dX3_heatRows_77 h (fun x8 h => ?_)
            refine g_iand hx hb dX3_heatRows_78 h (fun x9 h => ?_)
            refine lv_iload hx hb dX3_heatRows_79 (lv_at hl 0 rfl) ?_
            refine g_ior hx hb dX3_heatRows_81 h (fun x10 h => ?_)
            refine g_iast hx hb hK hP hD hS 1 0 rfl rfl dX3_heatRows_82 h (fun c11 H locs h hP hS => ?_)
            have hP : va_P (dC, dI) vwCl (wX3 cyI cyC ob a1 a2 a3 c11 c4 v_settings v_tick v_energy v_valuesPut) H := hP
            have hD : va_D (k_A (wX3 cyI cyC ob a1 a2 a3 v_ones v_twos v_settings v_tick v_energy v_valuesPut)) (wX3 cyI cyC ob a1 a2 a3 c11 c4 v_settings v_tick v_energy v_valuesPut) := k_Dm hD rfl
            refine lv_aload_n hx hb dX3_heatRows_83 rfl (lv_at hl 1 rfl) ?_
            refine va_get (D := (dC, dI)) (ci := 2) (v := .ref a2) (C := RX3) (T := TX3) (N := 6) hx hb hts iaX3 hown hK hP 0 rfl rfl 1 (by decide) (hts _ q38) (fun _ h9 => h9) rfl dX3_heatRows_84 ?_
            refine lv_iload_n hx hb dX3_heatRows_87 rfl (lv_at hl 4 rfl) ?_
            refine lv_aload_n hx hb dX3_heatRows_88 rfl (lv_at hl 1 rfl) ?_
            refine va_get (D := (dC, dI)) (ci := 2) (v := .ref a2) (C := RX3) (T := TX3) (N := 6) hx hb hts iaX3 hown hK hP 0 rfl rfl 1 (by decide) (hts _ q38) (fun _ h9 => h9) rfl dX3_heatRows_89 ?_
            refine lv_iload_n hx hb dX3_heatRows_92 rfl (lv_at hl 4 rfl) ?_
            refine g_iald hx hb hK hP 2 0 rfl rfl dX3_heatRows_93 h (fun x12 h => ?_)
            refine lv_iload hx hb dX3_heatRows_94 (lv_at hl 0 rfl) ?_
            refine lv_iconst (v := (-1)) hx hb dX3_heatRows_96 (by decide) ?_
            refine g_ixor hx hb dX3_heatRows_97 h (fun x13 h => ?_)
            refine g_iand hx hb dX3_heatRows_98 h (fun x14 h => ?_)
            refine g_iast hx hb hK hP hD hS 2 0 rfl rfl dX3_heatRows_99 h (fun c15 H locs h hP hS => ?_)
            have hP : va_P (dC, dI) vwCl (wX3 cyI cyC ob a1 a2 a3 c11 c15 v_settings v_tick v_energy v_valuesPut) H := hP
            have hD : va_D (k_A (wX3 cyI cyC ob a1 a2 a3 v_ones v_twos v_settings v_tick v_energy v_valuesPut)) (wX3 cyI cyC ob a1 a2 a3 c11 c15 v_settings v_tick v_energy v_valuesPut) := k_Dm hD rfl
            refine lv_iload_n hx hb dX3_heatRows_100 rfl (lv_at hl 3 rfl) ?_
            refine lv_iload hx hb dX3_heatRows_101 (lv_at hl 5 rfl) ?_
            obtain ⟨x16, hc103, h⟩ := k_b1_e h
            refine g_callRI_S (As := [.int x5]) (rest := [.int x1]) hC (mJ6_bitCount_0f7a4 l dC dI cyI cyC cyO x5 hc103) q252 q165 q12 q166 1 hdJ6_bitCount_0f7a4 ⟨Nat.le_of_ble_eq_true rfl, Nat.le_of_ble_eq_true rfl⟩ ⟨Nat.le_of_ble_eq_true rfl, Nat.le_of_ble_eq_true rfl⟩ rfl rfl hl.1 (Nat.le_of_ble_eq_true rfl) va_P_nil hK hS dX3_heatRows_103 (fun H locs hk hS => ?_)
            have hP := k_kept hP hk
            refine lv_iload hx hb dX3_heatRows_106 (lv_at hl 0 rfl) ?_
            obtain ⟨x17, hc108, h⟩ := k_b1_e h
            refine g_callRI_S (As := [.int x6]) (rest := [.int x16, .int x1]) hC (mJ6_bitCount_0f7a4 l dC dI cyI cyC cyO x6 hc108) q252 q165 q12 q166 1 hdJ6_bitCount_0f7a4 ⟨Nat.le_of_ble_eq_true rfl, Nat.le_of_ble_eq_true rfl⟩ ⟨Nat.le_of_ble_eq_true rfl, Nat.le_of_ble_eq_true rfl⟩ rfl rfl hl.1 (Nat.le_of_ble_eq_true rfl) va_P_nil hK hS dX3_heatRows_108 (fun H locs hk hS => ?_)
            have hP := k_kept hP hk
            refine g_iadd hx hb dX3_heatRows_111 h (fun x18 h => ?_)
            refine g_iadd hx hb dX3_heatRows_112 h (fun x19 h => ?_)
            refine lv_istore_n (lv' := [(2, .int x19), (5, .int x6), (0, .ref ob), (1, .int p1), (3, .int x2), (4, .int x5)]) hx hb dX3_heatRows_113 rfl hl (by decide) rfl (fun ls hl => ?_)
            refine g_iinc (dv := 1) hx hb dX3_heatRows_114 hl (j := 4) rfl (by decide) (by decide) h (fun x20 ls h hl => ?_)
            have hl : lv_has ls 6 [(3, .int x20), (2, .int x19), (5, .int x6), (0, .ref ob), (1, .int p1), (4, .int x5)] := hl
            refine lv_goto (tgt := 4) hx hb dX3_heatRows_117 (by decide) ?_
            exact ih4 x19 x20 c11 c15 _ _ _ h hP hS (lv_sub hl [3, 4, 1, 0] rfl)
          refine g_icmp_lt (tgt := 60) hx hb dX3_heatRows_39 (by decide) h (fun h => ?_) (fun h => ?_)
          · refine lv_iconst (v := 0) hx hb dX3_heatRows_60 (by decide) ?_
            exact J61 0 _ _ _ h hP hS (lv_sub hl [1, 2, 3, 4, 0] rfl)
          · refine lv_aload_n hx hb dX3_heatRows_42 rfl (lv_at hl 1 rfl) ?_
            refine va_get (D := (dC, dI)) (ci := 2) (v := .ref a2) (C := RX3) (T := TX3) (N := 6) hx hb hts iaX3 hown hK hP 0 rfl rfl 1 (by decide) (hts _ q38) (fun _ h9 => h9) rfl dX3_heatRows_43 ?_
            refine lv_iload_n hx hb dX3_heatRows_46 rfl (lv_at hl 4 rfl) ?_
            refine g_iald hx hb hK hP 2 0 rfl rfl dX3_heatRows_47 h (fun x21 h => ?_)
            refine lv_aload_n hx hb dX3_heatRows_48 rfl (lv_at hl 1 rfl) ?_
            refine va_get (D := (dC, dI)) (ci := 2) (v := .ref a1) (C := RX3) (T := TX3) (N := 6) hx hb hts iaX3 hown hK hP 0 rfl rfl 0 (by decide) (hts _ q36) (fun _ h9 => h9) rfl dX3_heatRows_49 ?_
            refine lv_iload_n hx hb dX3_heatRows_52 rfl (lv_at hl 4 rfl) ?_
            refine g_iald hx hb hK hP 1 0 rfl rfl dX3_heatRows_53 h (fun x22 h => ?_)
            refine lv_iconst (v := (-1)) hx hb dX3_heatRows_54 (by decide) ?_
            refine g_ixor hx hb dX3_heatRows_55 h (fun x23 h => ?_)
            refine g_iand hx hb dX3_heatRows_56 h (fun x24 h => ?_)
            refine lv_goto (tgt := 61) hx hb dX3_heatRows_57 (by decide) ?_
            exact J61 x24 _ _ _ h hP hS (lv_sub hl [1, 2, 3, 4, 0] rfl)
        refine g_icmp_lt (tgt := 33) hx hb dX3_heatRows_12 (by decide) h (fun h => ?_) (fun h => ?_)
        · refine lv_iconst (v := 0) hx hb dX3_heatRows_33 (by decide) ?_
          exact J34 0 _ _ _ h hP hS (lv_sub hl [0, 1, 2, 3] rfl)
        · refine lv_aload_n hx hb dX3_heatRows_15 rfl (lv_at hl 0 rfl) ?_
          refine va_get (D := (dC, dI)) (ci := 2) (v := .ref a1) (C := RX3) (T := TX3) (N := 6) hx hb hts iaX3 hown hK hP 0 rfl rfl 0 (by decide) (hts _ q36) (fun _ h9 => h9) rfl dX3_heatRows_16 ?_
          refine lv_iload_n hx hb dX3_heatRows_19 rfl (lv_at hl 3 rfl) ?_
          refine g_iald hx hb hK hP 1 0 rfl rfl dX3_heatRows_20 h (fun x25 h => ?_)
          refine lv_aload_n hx hb dX3_heatRows_21 rfl (lv_at hl 0 rfl) ?_
          refine va_get (D := (dC, dI)) (ci := 2) (v := .ref a2) (C := RX3) (T := TX3) (N := 6) hx hb hts iaX3 hown hK hP 0 rfl rfl 1 (by decide) (hts _ q38) (fun _ h9 => h9) rfl dX3_heatRows_22 ?_
          refine lv_iload_n hx hb dX3_heatRows_25 rfl (lv_at hl 3 rfl) ?_
          refine g_iald hx hb hK hP 2 0 rfl rfl dX3_heatRows_26 h (fun x26 h => ?_)
          refine lv_iconst (v := (-1)) hx hb dX3_heatRows_27 (by decide) ?_
          refine g_ixor hx hb dX3_heatRows_28 h (fun x27 h => ?_)
          refine g_iand hx hb dX3_heatRows_29 h (fun x28 h => ?_)
          refine lv_goto (tgt := 34) hx hb dX3_heatRows_30 (by decide) ?_
          exact J34 x28 _ _ _ h hP hS (lv_sub hl [0, 1, 2, 3] rfl)
  exact L4 5000 0 0 v_ones v_twos _ _ _ h hP hS (lv_sub hl [2, 3, 1, 0] rfl)
