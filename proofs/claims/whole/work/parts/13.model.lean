def fX5_kindAt (v_buffer : Nat → Int32) (v_typed : Int32) (v_spot : Int32) (v_wrong : Int32) (v_isShort : Int32) : Option (Int32 × Int32 × Int32 × Int32) :=
  k_b1 (fX5_letter v_buffer v_typed v_spot) fun (x1 : Int32) =>
  k_let (v_spot + 1) fun (x2 : Int32) =>
  k_if (x1 = 112)
  (
    k_b1 (fX5_letter v_buffer v_typed x2) fun (x6 : Int32) =>
    k_let (x2 + 1) fun (x7 : Int32) =>
    k_j2
    (fun (c8 : Int32) (c9 : Int32) =>
      k_if (x6 = 117)
      (
        some (0, x7, c8, c9))
      (
        some (3, x7, c8, c9)))
    (fun K71 =>
    k_if (x6 = ((-1)))
    (
      K71 v_wrong 1)
    (
      k_if (x6 = 117)
      (
        K71 v_wrong v_isShort)
      (
        k_if (x6 = 97)
        (
          K71 v_wrong v_isShort)
        (
          k_let (x7 - 1) fun (x10 : Int32) =>
          K71 x10 v_isShort)))))
  (
    k_j2
    (fun (c3 : Int32) (c4 : Int32) =>
      k_if (x1 = 108)
      (
        some (1, x2, c3, c4))
      (
        k_if (x1 = 104)
        (
          some (2, x2, c3, c4))
        (
          some (4, x2, c3, c4))))
    (fun K124 =>
    k_if (x1 = ((-1)))
    (
      K124 v_wrong 1)
    (
      k_if (x1 = 108)
      (
        K124 v_wrong v_isShort)
      (
        k_if (x1 = 104)
        (
          K124 v_wrong v_isShort)
        (
          k_if (x1 = 102)
          (
            K124 v_wrong v_isShort)
          (
            k_let (x2 - 1) fun (x5 : Int32) =>
            K124 x5 v_isShort))))))
theorem hdX5_kindAt : yX5_kindAt.cls = RX5 ∧ yX5_kindAt.cls ≠ "java/lang/invoke/MethodHandle" ∧ yX5_kindAt.cls ≠ "java/lang/invoke/VarHandle" ∧ (parseMethodDescriptor yX5_kindAt.desc).map (fun d => d.parameters.length) = some 0 := by decide +kernel
set_option maxRecDepth 100000 in
set_option maxHeartbeats 4000000 in
theorem mX5_kindAt (l : Launch) (dC : Nat → ClassId) (dI : Nat → Nat → Nat) (cyI cyC cyO : ClassId) (ob a1 a2 a3 a4 a5 a6 a7 a8 : Nat) (v_thrown : Int32) (v_z : Nat → Int32) (v_saved : Nat → Int32) (v_savedMany : Int32) (v_spare : Nat → Int32) (v_buffer : Nat → Int32) (v_typed : Int32) (v_marksBlown : Int32) (v_rests : Nat → Int32) (v_begins : Nat → Int32) (v_orders : Nat → Int32) (v_orderMany : Int32) (v_spot : Int32) (v_wrong : Int32) (v_isShort : Int32) (v_before : Nat → Int32) (v_hash : Int64)  {r : Int32} {r_spot : Int32} {r_wrong : Int32} {r_isShort : Int32} (hf : fX5_kindAt v_buffer v_typed v_spot v_wrong v_isShort = some (r, r_spot, r_wrong, r_isShort)) : MetMI l yX5_kindAt cX5_kindAt 3 (some .int) 1 20 [.ref ob] (dC, dI) (tyS cyI cyC cyO) (wX5 cyI cyC ob a1 a2 a3 a4 a5 a6 a7 a8 v_thrown v_z v_saved v_savedMany v_spare v_buffer v_typed v_marksBlown v_rests v_begins v_orders v_orderMany v_spot v_wrong v_isShort v_before v_hash) (wX5 cyI cyC ob a1 a2 a3 a4 a5 a6 a7 a8 v_thrown v_z v_saved v_savedMany v_spare v_buffer v_typed v_marksBlown v_rests v_begins v_orders v_orderMany r_spot r_wrong r_isShort v_before v_hash) r := by
  refine metMI_of (by decide) (Nat.le_of_ble_eq_true rfl) ?_
  intro p e s m below meth c ls hC hr hlk hP hK hD hl
  have hC : CallFix p m c cX5_kindAt 3 s [.ref ob].toArray wA RX5 := hC
  obtain ⟨hx, hb, hml, hown, hts⟩ := id hC
  have hS : va_S (k_A (wX5 cyI cyC ob a1 a2 a3 a4 a5 a6 a7 a8 v_thrown v_z v_saved v_savedMany v_spare v_buffer v_typed v_marksBlown v_rests v_begins v_orders v_orderMany v_spot v_wrong v_isShort v_before v_hash)) s.heap s.heap [] := va_S.rf
  have hl : lv_has ls 3 [(0, .ref ob)] := hl
  have h := hf
  unfold fX5_kindAt at h
  obtain ⟨H, hH⟩ : ∃ H, H = s.heap := ⟨_, rfl⟩
  obtain ⟨locs, hlo⟩ : ∃ locs : List Loc, locs = [] := ⟨_, rfl⟩
  rw [← hH] at hP
  rw [← hlo] at hS
  have hS : va_S (k_A (wX5 cyI cyC ob a1 a2 a3 a4 a5 a6 a7 a8 v_thrown v_z v_saved v_savedMany v_spare v_buffer v_typed v_marksBlown v_rests v_begins v_orders v_orderMany v_spot v_wrong v_isShort v_before v_hash)) s.heap H locs := by rw [hH]; exact hS
  show W p l e (k_rm 1 20) s m [.ref ob].toArray below meth c s.heap [] 0 0 _ _
  rw [← hlo, ← hH]
  refine lv_aload_n hx hb dX5_kindAt_0 rfl (lv_at hl 0 rfl) ?_
  obtain ⟨x1, hc1, h⟩ := k_b1_e h
  refine g_callRI_V (As := []) (rest := []) hC (mX5_letter l dC dI cyI cyC cyO ob a1 a2 a3 a4 a5 a6 a7 a8 v_thrown v_z v_saved v_savedMany v_spare v_buffer v_typed v_marksBlown v_rests v_begins v_orders v_orderMany v_spot v_wrong v_isShort v_before v_hash hc1) q881 q882 q36 q75 q883 0 hdX5_letter ⟨Nat.le_of_ble_eq_true rfl, Nat.le_of_ble_eq_true rfl⟩ ⟨Nat.le_of_ble_eq_true rfl, Nat.le_of_ble_eq_true rfl⟩ rfl rfl hl.1 (Nat.le_of_ble_eq_true rfl) hP hK (va_recv hK hP (ci := 4) (q0 := 0) rfl rfl) hS dX5_kindAt_1 (fun H locs hk hS => ?_)
  have hP := k_kept hP hk
  refine lv_istore_n (lv' := [(1, .int x1), (0, .ref ob)]) hx hb dX5_kindAt_4 rfl hl (by decide) rfl (fun ls hl => ?_)
  refine lv_aload_n hx hb dX5_kindAt_5 rfl (lv_at hl 1 rfl) ?_
  refine lv_dup hx hb dX5_kindAt_6 rfl ?_
  refine va_get (D := (dC, dI)) (ci := 4) (v := .int v_spot) (C := RX5) (T := TX5) (N := 17) hx hb hts iaX5 hown hK hP 0 rfl rfl 12 (by decide) (hts _ q728) (fun _ h9 => h9) rfl dX5_kindAt_7 ?_
  refine lv_iconst (v := 1) hx hb dX5_kindAt_10 (by decide) ?_
  refine g_iadd hx hb dX5_kindAt_11 h (fun x2 h => ?_)
  refine va_put (D := (dC, dI)) (ci := 4) (v := .int x2) (ty := .int) (C := RX5) (T := TX5) (N := 17) hx hb hts iaX5 tyX5 tyX5_ok nmX5 hown hK hP hD hS 0 rfl rfl 12 (by decide) (hts _ q728) (fun _ h9 => h9) rfl (by decide +kernel) rfl rfl (Nat.le_of_ble_eq_true rfl) dX5_kindAt_12 (fun H locs hP _ hS => ?_)
  have hP : va_P (dC, dI) vwCl (wX5 cyI cyC ob a1 a2 a3 a4 a5 a6 a7 a8 v_thrown v_z v_saved v_savedMany v_spare v_buffer v_typed v_marksBlown v_rests v_begins v_orders v_orderMany x2 v_wrong v_isShort v_before v_hash) H := hP
  have hD : va_D (k_A (wX5 cyI cyC ob a1 a2 a3 a4 a5 a6 a7 a8 v_thrown v_z v_saved v_savedMany v_spare v_buffer v_typed v_marksBlown v_rests v_begins v_orders v_orderMany v_spot v_wrong v_isShort v_before v_hash)) (wX5 cyI cyC ob a1 a2 a3 a4 a5 a6 a7 a8 v_thrown v_z v_saved v_savedMany v_spare v_buffer v_typed v_marksBlown v_rests v_begins v_orders v_orderMany x2 v_wrong v_isShort v_before v_hash) := k_Dm hD rfl
  refine lv_iload_n hx hb dX5_kindAt_15 rfl (lv_at hl 0 rfl) ?_
  refine lv_bipush (v := 112) hx hb dX5_kindAt_16 (by decide) ?_
  refine g_icmp_ne (tgt := 83) hx hb dX5_kindAt_18 (by decide) h (fun h => ?_) (fun h => ?_)
  · refine lv_iload_n hx hb dX5_kindAt_83 rfl (lv_at hl 0 rfl) ?_
    refine lv_iconst (v := (-1)) hx hb dX5_kindAt_84 (by decide) ?_
    obtain ⟨K124, hK124, h⟩ := k_j2_e h
    have J124 : ∀ (c3 : Int32) (c4 : Int32) (H : Heap) (locs : List Loc) (ls : Array Slot), K124 c3 c4 = some (r, r_spot, r_wrong, r_isShort) → va_P (dC, dI) vwCl (wX5 cyI cyC ob a1 a2 a3 a4 a5 a6 a7 a8 v_thrown v_z v_saved v_savedMany v_spare v_buffer v_typed v_marksBlown v_rests v_begins v_orders v_orderMany x2 c3 c4 v_before v_hash) H → va_S (k_A (wX5 cyI cyC ob a1 a2 a3 a4 a5 a6 a7 a8 v_thrown v_z v_saved v_savedMany v_spare v_buffer v_typed v_marksBlown v_rests v_begins v_orders v_orderMany v_spot v_wrong v_isShort v_before v_hash)) s.heap H locs → lv_has ls 3 [(1, .int x1)] → W p l e (k_rm 1 20) s m [.ref ob].toArray below meth c H locs 0 0 (MQ below (qMI r (dC, dI) (wX5 cyI cyC ob a1 a2 a3 a4 a5 a6 a7 a8 v_thrown v_z v_saved v_savedMany v_spare v_buffer v_typed v_marksBlown v_rests v_begins v_orders v_orderMany v_spot v_wrong v_isShort v_before v_hash) (wX5 cyI cyC ob a1 a2 a3 a4 a5 a6 a7 a8 v_thrown v_z v_saved v_savedMany v_spare v_buffer v_typed v_marksBlown v_rests v_begins v_orders v_orderMany r_spot r_wrong r_isShort v_before v_hash)) [.ref ob].toArray s 0 0 (k_A (wX5 cyI cyC ob a1 a2 a3 a4 a5 a6 a7 a8 v_thrown v_z v_saved v_savedMany v_spare v_buffer v_typed v_marksBlown v_rests v_begins v_orders v_orderMany v_spot v_wrong v_isShort v_before v_hash))) (F0 m 124 ls []) := by
      intro c3 c4 H locs ls h hP hS hl
      have hD : va_D (k_A (wX5 cyI cyC ob a1 a2 a3 a4 a5 a6 a7 a8 v_thrown v_z v_saved v_savedMany v_spare v_buffer v_typed v_marksBlown v_rests v_begins v_orders v_orderMany v_spot v_wrong v_isShort v_before v_hash)) (wX5 cyI cyC ob a1 a2 a3 a4 a5 a6 a7 a8 v_thrown v_z v_saved v_savedMany v_spare v_buffer v_typed v_marksBlown v_rests v_begins v_orders v_orderMany x2 c3 c4 v_before v_hash) := k_Dm hD rfl
      have h := k_a2 hK124 h
      refine lv_iload_n hx hb dX5_kindAt_124 rfl (lv_at hl 0 rfl) ?_
      refine lv_bipush (v := 108) hx hb dX5_kindAt_125 (by decide) ?_
      refine g_icmp_ne (tgt := 134) hx hb dX5_kindAt_127 (by decide) h (fun h => ?_) (fun h => ?_)
      · refine lv_iload_n hx hb dX5_kindAt_134 rfl (lv_at hl 0 rfl) ?_
        refine lv_bipush (v := 104) hx hb dX5_kindAt_135 (by decide) ?_
        refine g_icmp_ne (tgt := 144) hx hb dX5_kindAt_137 (by decide) h (fun h => ?_) (fun h => ?_)
        · refine lv_iconst (v := 4) hx hb dX5_kindAt_144 (by decide) ?_
          obtain ⟨e0, e1, e2, e3⟩ := k_t4 h
          exact g_retMI hx hb hr hlk hS e0 (by rw [← e1, ← e2, ← e3]; exact hP) dX5_kindAt_145
        · refine lv_iconst (v := 2) hx hb dX5_kindAt_140 (by decide) ?_
          refine lv_goto (tgt := 145) hx hb dX5_kindAt_141 (by decide) ?_
          obtain ⟨e0, e1, e2, e3⟩ := k_t4 h
          exact g_retMI hx hb hr hlk hS e0 (by rw [← e1, ← e2, ← e3]; exact hP) dX5_kindAt_145
      · refine lv_iconst (v := 1) hx hb dX5_kindAt_130 (by decide) ?_
        refine lv_goto (tgt := 145) hx hb dX5_kindAt_131 (by decide) ?_
        obtain ⟨e0, e1, e2, e3⟩ := k_t4 h
        exact g_retMI hx hb hr hlk hS e0 (by rw [← e1, ← e2, ← e3]; exact hP) dX5_kindAt_145
    refine g_icmp_ne (tgt := 96) hx hb dX5_kindAt_85 (by decide) h (fun h => ?_) (fun h => ?_)
    · refine lv_iload_n hx hb dX5_kindAt_96 rfl (lv_at hl 0 rfl) ?_
      refine lv_bipush (v := 108) hx hb dX5_kindAt_97 (by decide) ?_
      refine g_icmp_eq (tgt := 124) hx hb dX5_kindAt_99 (by decide) h (fun h => ?_) (fun h => ?_)
      · exact J124 v_wrong v_isShort _ _ _ h hP hS (lv_sub hl [0] rfl)
      · refine lv_iload_n hx hb dX5_kindAt_102 rfl (lv_at hl 0 rfl) ?_
        refine lv_bipush (v := 104) hx hb dX5_kindAt_103 (by decide) ?_
        refine g_icmp_eq (tgt := 124) hx hb dX5_kindAt_105 (by decide) h (fun h => ?_) (fun h => ?_)
        · exact J124 v_wrong v_isShort _ _ _ h hP hS (lv_sub hl [0] rfl)
        · refine lv_iload_n hx hb dX5_kindAt_108 rfl (lv_at hl 0 rfl) ?_
          refine lv_bipush (v := 102) hx hb dX5_kindAt_109 (by decide) ?_
          refine g_icmp_eq (tgt := 124) hx hb dX5_kindAt_111 (by decide) h (fun h => ?_) (fun h => ?_)
          · exact J124 v_wrong v_isShort _ _ _ h hP hS (lv_sub hl [0] rfl)
          · refine lv_aload_n hx hb dX5_kindAt_114 rfl (lv_at hl 1 rfl) ?_
            refine lv_aload_n hx hb dX5_kindAt_115 rfl (lv_at hl 1 rfl) ?_
            refine va_get (D := (dC, dI)) (ci := 4) (v := .int x2) (C := RX5) (T := TX5) (N := 17) hx hb hts iaX5 hown hK hP 0 rfl rfl 12 (by decide) (hts _ q728) (fun _ h9 => h9) rfl dX5_kindAt_116 ?_
            refine lv_iconst (v := 1) hx hb dX5_kindAt_119 (by decide) ?_
            refine g_isub hx hb dX5_kindAt_120 h (fun x5 h => ?_)
            refine va_put (D := (dC, dI)) (ci := 4) (v := .int x5) (ty := .int) (C := RX5) (T := TX5) (N := 17) hx hb hts iaX5 tyX5 tyX5_ok nmX5 hown hK hP hD hS 0 rfl rfl 13 (by decide) (hts _ q729) (fun _ h9 => h9) rfl (by decide +kernel) rfl rfl (Nat.le_of_ble_eq_true rfl) dX5_kindAt_121 (fun H locs hP _ hS => ?_)
            have hP : va_P (dC, dI) vwCl (wX5 cyI cyC ob a1 a2 a3 a4 a5 a6 a7 a8 v_thrown v_z v_saved v_savedMany v_spare v_buffer v_typed v_marksBlown v_rests v_begins v_orders v_orderMany x2 x5 v_isShort v_before v_hash) H := hP
            have hD : va_D (k_A (wX5 cyI cyC ob a1 a2 a3 a4 a5 a6 a7 a8 v_thrown v_z v_saved v_savedMany v_spare v_buffer v_typed v_marksBlown v_rests v_begins v_orders v_orderMany v_spot v_wrong v_isShort v_before v_hash)) (wX5 cyI cyC ob a1 a2 a3 a4 a5 a6 a7 a8 v_thrown v_z v_saved v_savedMany v_spare v_buffer v_typed v_marksBlown v_rests v_begins v_orders v_orderMany x2 x5 v_isShort v_before v_hash) := k_Dm hD rfl
            exact J124 x5 v_isShort _ _ _ h hP hS (lv_sub hl [0] rfl)
    · refine lv_aload_n hx hb dX5_kindAt_88 rfl (lv_at hl 1 rfl) ?_
      refine lv_iconst (v := 1) hx hb dX5_kindAt_89 (by decide) ?_
      refine va_put (D := (dC, dI)) (ci := 4) (v := .int 1) (ty := .boolean) (C := RX5) (T := TX5) (N := 17) hx hb hts iaX5 tyX5 tyX5_ok nmX5 hown hK hP hD hS 0 rfl rfl 14 (by decide) (hts _ q730) (fun _ h9 => h9) rfl (by decide +kernel) (by decide +kernel) (by decide +kernel) (Nat.le_of_ble_eq_true rfl) dX5_kindAt_90 (fun H locs hP _ hS => ?_)
      have hP : va_P (dC, dI) vwCl (wX5 cyI cyC ob a1 a2 a3 a4 a5 a6 a7 a8 v_thrown v_z v_saved v_savedMany v_spare v_buffer v_typed v_marksBlown v_rests v_begins v_orders v_orderMany x2 v_wrong 1 v_before v_hash) H := hP
      have hD : va_D (k_A (wX5 cyI cyC ob a1 a2 a3 a4 a5 a6 a7 a8 v_thrown v_z v_saved v_savedMany v_spare v_buffer v_typed v_marksBlown v_rests v_begins v_orders v_orderMany v_spot v_wrong v_isShort v_before v_hash)) (wX5 cyI cyC ob a1 a2 a3 a4 a5 a6 a7 a8 v_thrown v_z v_saved v_savedMany v_spare v_buffer v_typed v_marksBlown v_rests v_begins v_orders v_orderMany x2 v_wrong 1 v_before v_hash) := k_Dm hD rfl
      refine lv_goto (tgt := 124) hx hb dX5_kindAt_93 (by decide) ?_
      exact J124 v_wrong 1 _ _ _ h hP hS (lv_sub hl [0] rfl)
  · refine lv_aload_n hx hb dX5_kindAt_21 rfl (lv_at hl 1 rfl) ?_
    obtain ⟨x6, hc22, h⟩ := k_b1_e h
    refine g_callRI_V (As := []) (rest := []) hC (mX5_letter l dC dI cyI cyC cyO ob a1 a2 a3 a4 a5 a6 a7 a8 v_thrown v_z v_saved v_savedMany v_spare v_buffer v_typed v_marksBlown v_rests v_begins v_orders v_orderMany x2 v_wrong v_isShort v_before v_hash hc22) q881 q882 q36 q75 q883 0 hdX5_letter ⟨Nat.le_of_ble_eq_true rfl, Nat.le_of_ble_eq_true rfl⟩ ⟨Nat.le_of_ble_eq_true rfl, Nat.le_of_ble_eq_true rfl⟩ rfl rfl hl.1 (Nat.le_of_ble_eq_true rfl) hP hK (va_recv hK hP (ci := 4) (q0 := 0) rfl rfl) hS dX5_kindAt_22 (fun H locs hk hS => ?_)
    have hP := k_kept hP hk
    refine lv_istore_n (lv' := [(2, .int x6), (1, .int x1), (0, .ref ob)]) hx hb dX5_kindAt_25 rfl hl (by decide) rfl (fun ls hl => ?_)
    refine lv_aload_n hx hb dX5_kindAt_26 rfl (lv_at hl 2 rfl) ?_
    refine lv_dup hx hb dX5_kindAt_27 rfl ?_
    refine va_get (D := (dC, dI)) (ci := 4) (v := .int x2) (C := RX5) (T := TX5) (N := 17) hx hb hts iaX5 hown hK hP 0 rfl rfl 12 (by decide) (hts _ q728) (fun _ h9 => h9) rfl dX5_kindAt_28 ?_
    refine lv_iconst (v := 1) hx hb dX5_kindAt_31 (by decide) ?_
    refine g_iadd hx hb dX5_kindAt_32 h (fun x7 h => ?_)
    refine va_put (D := (dC, dI)) (ci := 4) (v := .int x7) (ty := .int) (C := RX5) (T := TX5) (N := 17) hx hb hts iaX5 tyX5 tyX5_ok nmX5 hown hK hP hD hS 0 rfl rfl 12 (by decide) (hts _ q728) (fun _ h9 => h9) rfl (by decide +kernel) rfl rfl (Nat.le_of_ble_eq_true rfl) dX5_kindAt_33 (fun H locs hP _ hS => ?_)
    have hP : va_P (dC, dI) vwCl (wX5 cyI cyC ob a1 a2 a3 a4 a5 a6 a7 a8 v_thrown v_z v_saved v_savedMany v_spare v_buffer v_typed v_marksBlown v_rests v_begins v_orders v_orderMany x7 v_wrong v_isShort v_before v_hash) H := hP
    have hD : va_D (k_A (wX5 cyI cyC ob a1 a2 a3 a4 a5 a6 a7 a8 v_thrown v_z v_saved v_savedMany v_spare v_buffer v_typed v_marksBlown v_rests v_begins v_orders v_orderMany v_spot v_wrong v_isShort v_before v_hash)) (wX5 cyI cyC ob a1 a2 a3 a4 a5 a6 a7 a8 v_thrown v_z v_saved v_savedMany v_spare v_buffer v_typed v_marksBlown v_rests v_begins v_orders v_orderMany x7 v_wrong v_isShort v_before v_hash) := k_Dm hD rfl
    refine lv_iload_n hx hb dX5_kindAt_36 rfl (lv_at hl 0 rfl) ?_
    refine lv_iconst (v := (-1)) hx hb dX5_kindAt_37 (by decide) ?_
    obtain ⟨K71, hK71, h⟩ := k_j2_e h
    have J71 : ∀ (c8 : Int32) (c9 : Int32) (H : Heap) (locs : List Loc) (ls : Array Slot), K71 c8 c9 = some (r, r_spot, r_wrong, r_isShort) → va_P (dC, dI) vwCl (wX5 cyI cyC ob a1 a2 a3 a4 a5 a6 a7 a8 v_thrown v_z v_saved v_savedMany v_spare v_buffer v_typed v_marksBlown v_rests v_begins v_orders v_orderMany x7 c8 c9 v_before v_hash) H → va_S (k_A (wX5 cyI cyC ob a1 a2 a3 a4 a5 a6 a7 a8 v_thrown v_z v_saved v_savedMany v_spare v_buffer v_typed v_marksBlown v_rests v_begins v_orders v_orderMany v_spot v_wrong v_isShort v_before v_hash)) s.heap H locs → lv_has ls 3 [(2, .int x6)] → W p l e (k_rm 1 20) s m [.ref ob].toArray below meth c H locs 0 0 (MQ below (qMI r (dC, dI) (wX5 cyI cyC ob a1 a2 a3 a4 a5 a6 a7 a8 v_thrown v_z v_saved v_savedMany v_spare v_buffer v_typed v_marksBlown v_rests v_begins v_orders v_orderMany v_spot v_wrong v_isShort v_before v_hash) (wX5 cyI cyC ob a1 a2 a3 a4 a5 a6 a7 a8 v_thrown v_z v_saved v_savedMany v_spare v_buffer v_typed v_marksBlown v_rests v_begins v_orders v_orderMany r_spot r_wrong r_isShort v_before v_hash)) [.ref ob].toArray s 0 0 (k_A (wX5 cyI cyC ob a1 a2 a3 a4 a5 a6 a7 a8 v_thrown v_z v_saved v_savedMany v_spare v_buffer v_typed v_marksBlown v_rests v_begins v_orders v_orderMany v_spot v_wrong v_isShort v_before v_hash))) (F0 m 71 ls []) := by
      intro c8 c9 H locs ls h hP hS hl
      have hD : va_D (k_A (wX5 cyI cyC ob a1 a2 a3 a4 a5 a6 a7 a8 v_thrown v_z v_saved v_savedMany v_spare v_buffer v_typed v_marksBlown v_rests v_begins v_orders v_orderMany v_spot v_wrong v_isShort v_before v_hash)) (wX5 cyI cyC ob a1 a2 a3 a4 a5 a6 a7 a8 v_thrown v_z v_saved v_savedMany v_spare v_buffer v_typed v_marksBlown v_rests v_begins v_orders v_orderMany x7 c8 c9 v_before v_hash) := k_Dm hD rfl
      have h := k_a2 hK71 h
      refine lv_iload_n hx hb dX5_kindAt_71 rfl (lv_at hl 0 rfl) ?_
      refine lv_bipush (v := 117) hx hb dX5_kindAt_72 (by decide) ?_
      refine g_icmp_ne (tgt := 81) hx hb dX5_kindAt_74 (by decide) h (fun h => ?_) (fun h => ?_)
      · refine lv_iconst (v := 3) hx hb dX5_kindAt_81 (by decide) ?_
        obtain ⟨e0, e1, e2, e3⟩ := k_t4 h
        exact g_retMI hx hb hr hlk hS e0 (by rw [← e1, ← e2, ← e3]; exact hP) dX5_kindAt_82
      · refine lv_iconst (v := 0) hx hb dX5_kindAt_77 (by decide) ?_
        refine lv_goto (tgt := 82) hx hb dX5_kindAt_78 (by decide) ?_
        obtain ⟨e0, e1, e2, e3⟩ := k_t4 h
        exact g_retMI hx hb hr hlk hS e0 (by rw [← e1, ← e2, ← e3]; exact hP) dX5_kindAt_82
    refine g_icmp_ne (tgt := 49) hx hb dX5_kindAt_38 (by decide) h (fun h => ?_) (fun h => ?_)
    · refine lv_iload_n hx hb dX5_kindAt_49 rfl (lv_at hl 0 rfl) ?_
      refine lv_bipush (v := 117) hx hb dX5_kindAt_50 (by decide) ?_
      refine g_icmp_eq (tgt := 71) hx hb dX5_kindAt_52 (by decide) h (fun h => ?_) (fun h => ?_)
      · exact J71 v_wrong v_isShort _ _ _ h hP hS (lv_sub hl [0] rfl)
      · refine lv_iload_n hx hb dX5_kindAt_55 rfl (lv_at hl 0 rfl) ?_
        refine lv_bipush (v := 97) hx hb dX5_kindAt_56 (by decide) ?_
        refine g_icmp_eq (tgt := 71) hx hb dX5_kindAt_58 (by decide) h (fun h => ?_) (fun h => ?_)
        · exact J71 v_wrong v_isShort _ _ _ h hP hS (lv_sub hl [0] rfl)
        · refine lv_aload_n hx hb dX5_kindAt_61 rfl (lv_at hl 2 rfl) ?_
          refine lv_aload_n hx hb dX5_kindAt_62 rfl (lv_at hl 2 rfl) ?_
          refine va_get (D := (dC, dI)) (ci := 4) (v := .int x7) (C := RX5) (T := TX5) (N := 17) hx hb hts iaX5 hown hK hP 0 rfl rfl 12 (by decide) (hts _ q728) (fun _ h9 => h9) rfl dX5_kindAt_63 ?_
          refine lv_iconst (v := 1) hx hb dX5_kindAt_66 (by decide) ?_
          refine g_isub hx hb dX5_kindAt_67 h (fun x10 h => ?_)
          refine va_put (D := (dC, dI)) (ci := 4) (v := .int x10) (ty := .int) (C := RX5) (T := TX5) (N := 17) hx hb hts iaX5 tyX5 tyX5_ok nmX5 hown hK hP hD hS 0 rfl rfl 13 (by decide) (hts _ q729) (fun _ h9 => h9) rfl (by decide +kernel) rfl rfl (Nat.le_of_ble_eq_true rfl) dX5_kindAt_68 (fun H locs hP _ hS => ?_)
          have hP : va_P (dC, dI) vwCl (wX5 cyI cyC ob a1 a2 a3 a4 a5 a6 a7 a8 v_thrown v_z v_saved v_savedMany v_spare v_buffer v_typed v_marksBlown v_rests v_begins v_orders v_orderMany x7 x10 v_isShort v_before v_hash) H := hP
          have hD : va_D (k_A (wX5 cyI cyC ob a1 a2 a3 a4 a5 a6 a7 a8 v_thrown v_z v_saved v_savedMany v_spare v_buffer v_typed v_marksBlown v_rests v_begins v_orders v_orderMany v_spot v_wrong v_isShort v_before v_hash)) (wX5 cyI cyC ob a1 a2 a3 a4 a5 a6 a7 a8 v_thrown v_z v_saved v_savedMany v_spare v_buffer v_typed v_marksBlown v_rests v_begins v_orders v_orderMany x7 x10 v_isShort v_before v_hash) := k_Dm hD rfl
          exact J71 x10 v_isShort _ _ _ h hP hS (lv_sub hl [0] rfl)
    · refine lv_aload_n hx hb dX5_kindAt_41 rfl (lv_at hl 2 rfl) ?_
      refine lv_iconst (v := 1) hx hb dX5_kindAt_42 (by decide) ?_
      refine va_put (D := (dC, dI)) (ci := 4) (v := .int 1) (ty := .boolean) (C := RX5) (T := TX5) (N := 17) hx hb hts iaX5 tyX5 tyX5_ok nmX5 hown hK hP hD hS 0 rfl rfl 14 (by decide) (hts _ q730) (fun _ h9 => h9) rfl (by decide +kernel) (by decide +kernel) (by decide +kernel) (Nat.le_of_ble_eq_true rfl) dX5_kindAt_43 (fun H locs hP _ hS => ?_)
      have hP : va_P (dC, dI) vwCl (wX5 cyI cyC ob a1 a2 a3 a4 a5 a6 a7 a8 v_thrown v_z v_saved v_savedMany v_spare v_buffer v_typed v_marksBlown v_rests v_begins v_orders v_orderMany x7 v_wrong 1 v_before v_hash) H := hP
      have hD : va_D (k_A (wX5 cyI cyC ob a1 a2 a3 a4 a5 a6 a7 a8 v_thrown v_z v_saved v_savedMany v_spare v_buffer v_typed v_marksBlown v_rests v_begins v_orders v_orderMany v_spot v_wrong v_isShort v_before v_hash)) (wX5 cyI cyC ob a1 a2 a3 a4 a5 a6 a7 a8 v_thrown v_z v_saved v_savedMany v_spare v_buffer v_typed v_marksBlown v_rests v_begins v_orders v_orderMany x7 v_wrong 1 v_before v_hash) := k_Dm hD rfl
      refine lv_goto (tgt := 71) hx hb dX5_kindAt_46 (by decide) ?_
      exact J71 v_wrong 1 _ _ _ h hP hS (lv_sub hl [0] rfl)
def fX5_order (v_buffer : Nat → Int32) (v_typed : Int32) (v_rests : Nat → Int32) (v_begins : Nat → Int32) (v_orders : Nat → Int32) (v_orderMany : Int32) (v_spot : Int32) (v_wrong : Int32) (v_isShort : Int32) : Option ((Nat → Int32) × Int32 × Int32 × Int32 × Int32) :=
  k_let (3 * v_orderMany) fun (x1 : Int32) =>
  k_b4 (fX5_kindAt v_buffer v_typed v_spot v_wrong v_isShort) fun (x2 : Int32) (c3 : Int32) (c4 : Int32) (c5 : Int32) =>
  k_b3 (fX5_word v_buffer v_typed v_rests v_begins c3 c4 c5 x2) fun (c6 : Int32) (c7 : Int32) (c8 : Int32) =>
  k_ck x1 48 <| k_let (upd v_orders x1.toNatClampNeg x2) fun (c9 : Nat → Int32) =>
  k_let (x1 + 1) fun (x10 : Int32) =>
  k_j4
  (fun (x11 : Int32) (c12 : Int32) (c13 : Int32) (c14 : Int32) =>
    k_ck x10 48 <| k_let (upd c9 x10.toNatClampNeg x11) fun (c15 : Nat → Int32) =>
    k_j4
    (fun (c16 : Nat → Int32) (c17 : Int32) (c18 : Int32) (c19 : Int32) =>
      k_let (v_orderMany + 1) fun (x20 : Int32) =>
      some (c16, x20, c17, c18, c19))
    (fun K108 =>
    k_if (x2 = 0)
    (
      k_b3 (fX5_takes v_buffer v_typed c12 c13 c14 58) fun (c21 : Int32) (c22 : Int32) (c23 : Int32) =>
      k_let (x1 + 2) fun (x24 : Int32) =>
      k_b4 (fX5_number v_buffer v_typed c21 c22 c23 0 63) fun (x25 : Int32) (c26 : Int32) (c27 : Int32) (c28 : Int32) =>
      k_ck x24 48 <| k_let (upd c15 x24.toNatClampNeg x25) fun (c29 : Nat → Int32) =>
      K108 c29 c26 c27 c28)
    (
      K108 c15 c12 c13 c14)))
  (fun K82 =>
  k_if (x2 = 0)
  (
    k_b4 (fX5_number v_buffer v_typed c6 c7 c8 0 15) fun (x42 : Int32) (c43 : Int32) (c44 : Int32) (c45 : Int32) =>
    K82 x42 c43 c44 c45)
  (
    k_if (x2 = 2)
    (
      k_b4 (fX5_number v_buffer v_typed c6 c7 c8 1 9) fun (x38 : Int32) (c39 : Int32) (c40 : Int32) (c41 : Int32) =>
      K82 x38 c39 c40 c41)
    (
      k_if (x2 = 3)
      (
        k_b4 (fX5_number v_buffer v_typed c6 c7 c8 1 99) fun (x34 : Int32) (c35 : Int32) (c36 : Int32) (c37 : Int32) =>
        K82 x34 c35 c36 c37)
      (
        k_b4 (fX5_number v_buffer v_typed c6 c7 c8 0 19) fun (x30 : Int32) (c31 : Int32) (c32 : Int32) (c33 : Int32) =>
        K82 x30 c31 c32 c33))))
theorem hdX5_order : yX5_order.cls = RX5 ∧ yX5_order.cls ≠ "java/lang/invoke/MethodHandle" ∧ yX5_order.cls ≠ "java/lang/invoke/VarHandle" ∧ (parseMethodDescriptor yX5_order.desc).map (fun d => d.parameters.length) = some 0 := by decide +kernel
set_option maxRecDepth 100000 in
set_option maxHeartbeats 4000000 in
theorem mX5_order (l : Launch) (dC : Nat → ClassId) (dI : Nat → Nat → Nat) (cyI cyC cyO : ClassId) (ob a1 a2 a3 a4 a5 a6 a7 a8 : Nat) (v_thrown : Int32) (v_z : Nat → Int32) (v_saved : Nat → Int32) (v_savedMany : Int32) (v_spare : Nat → Int32) (v_buffer : Nat → Int32) (v_typed : Int32) (v_marksBlown : Int32) (v_rests : Nat → Int32) (v_begins : Nat → Int32) (v_orders : Nat → Int32) (v_orderMany : Int32) (v_spot : Int32) (v_wrong : Int32) (v_isShort : Int32) (v_before : Nat → Int32) (v_hash : Int64)  {r_orders : Nat → Int32} {r_orderMany : Int32} {r_spot : Int32} {r_wrong : Int32} {r_isShort : Int32} (hf : fX5_order v_buffer v_typed v_rests v_begins v_orders v_orderMany v_spot v_wrong v_isShort = some (r_orders, r_orderMany, r_spot, r_wrong, r_isShort)) : MetMV l yX5_order cX5_order 3 none 3 63 [.ref ob] (dC, dI) (tyS cyI cyC cyO) (wX5 cyI cyC ob a1 a2 a3 a4 a5 a6 a7 a8 v_thrown v_z v_saved v_savedMany v_spare v_buffer v_typed v_marksBlown v_rests v_begins v_orders v_orderMany v_spot v_wrong v_isShort v_before v_hash) (wX5 cyI cyC ob a1 a2 a3 a4 a5 a6 a7 a8 v_thrown v_z v_saved v_savedMany v_spare v_buffer v_typed v_marksBlown v_rests v_begins r_orders r_orderMany r_spot r_wrong r_isShort v_before v_hash) := by
  refine metMV_of (by decide) (Nat.le_of_ble_eq_true rfl) ?_
  intro p e s m below meth c ls hC hr hlk hP hK hD hl
  have hC : CallFix p m c cX5_order 3 s [.ref ob].toArray wA RX5 := hC
  obtain ⟨hx, hb, hml, hown, hts⟩ := id hC
  have hS : va_S (k_A (wX5 cyI cyC ob a1 a2 a3 a4 a5 a6 a7 a8 v_thrown v_z v_saved v_savedMany v_spare v_buffer v_typed v_marksBlown v_rests v_begins v_orders v_orderMany v_spot v_wrong v_isShort v_before v_hash)) s.heap s.heap [] := va_S.rf
  have hl : lv_has ls 3 [(0, .ref ob)] := hl
  have h := hf
  unfold fX5_order at h
  obtain ⟨H, hH⟩ : ∃ H, H = s.heap := ⟨_, rfl⟩
  obtain ⟨locs, hlo⟩ : ∃ locs : List Loc, locs = [] := ⟨_, rfl⟩
  rw [← hH] at hP
  rw [← hlo] at hS
  have hS : va_S (k_A (wX5 cyI cyC ob a1 a2 a3 a4 a5 a6 a7 a8 v_thrown v_z v_saved v_savedMany v_spare v_buffer v_typed v_marksBlown v_rests v_begins v_orders v_orderMany v_spot v_wrong v_isShort v_before v_hash)) s.heap H locs := by rw [hH]; exact hS
  show W p l e (k_rm 3 63) s m [.ref ob].toArray below meth c s.heap [] 0 0 _ _
  rw [← hlo, ← hH]
  refine lv_iconst (v := 3) hx hb dX5_order_0 (by decide) ?_
  refine lv_aload_n hx hb dX5_order_1 rfl (lv_at hl 0 rfl) ?_
  refine va_get (D := (dC, dI)) (ci := 4) (v := .int v_orderMany) (C := RX5) (T := TX5) (N := 17) hx hb hts iaX5 hown hK hP 0 rfl rfl 11 (by decide) (hts _ q727) (fun _ h9 => h9) rfl dX5_order_2 ?_
  refine g_imul hx hb dX5_order_5 h (fun x1 h => ?_)
  refine lv_istore_n (lv' := [(1, .int x1), (0, .ref ob)]) hx hb dX5_order_6 rfl hl (by decide) rfl (fun ls hl => ?_)
  refine lv_aload_n hx hb dX5_order_7 rfl (lv_at hl 1 rfl) ?_
  obtain ⟨x2, c3, c4, c5, hc8, h⟩ := k_b4_e h
  refine g_callMI_V (As := []) (rest := []) hC (mX5_kindAt l dC dI cyI cyC cyO ob a1 a2 a3 a4 a5 a6 a7 a8 v_thrown v_z v_saved v_savedMany v_spare v_buffer v_typed v_marksBlown v_rests v_begins v_orders v_orderMany v_spot v_wrong v_isShort v_before v_hash hc8) q878 q879 q35 q75 q880 0 hdX5_kindAt ⟨Nat.le_of_ble_eq_true rfl, Nat.le_of_ble_eq_true rfl⟩ ⟨Nat.le_of_ble_eq_true rfl, Nat.le_of_ble_eq_true rfl⟩ rfl rfl hl.1 (Nat.le_of_ble_eq_true rfl) hP hK hD (va_recv hK hP (ci := 4) (q0 := 0) rfl rfl) hS dX5_order_8 (fun H locs hPn hk hS => ?_)
  have hP : va_P (dC, dI) vwCl (wX5 cyI cyC ob a1 a2 a3 a4 a5 a6 a7 a8 v_thrown v_z v_saved v_savedMany v_spare v_buffer v_typed v_marksBlown v_rests v_begins v_orders v_orderMany c3 c4 c5 v_before v_hash) H := hPn
  have hD : va_D (k_A (wX5 cyI cyC ob a1 a2 a3 a4 a5 a6 a7 a8 v_thrown v_z v_saved v_savedMany v_spare v_buffer v_typed v_marksBlown v_rests v_begins v_orders v_orderMany v_spot v_wrong v_isShort v_before v_hash)) (wX5 cyI cyC ob a1 a2 a3 a4 a5 a6 a7 a8 v_thrown v_z v_saved v_savedMany v_spare v_buffer v_typed v_marksBlown v_rests v_begins v_orders v_orderMany c3 c4 c5 v_before v_hash) := k_Dm hD rfl
  refine lv_istore_n (lv' := [(2, .int x2), (1, .int x1), (0, .ref ob)]) hx hb dX5_order_11 rfl hl (by decide) rfl (fun ls hl => ?_)
  refine lv_aload_n hx hb dX5_order_12 rfl (lv_at hl 2 rfl) ?_
  refine lv_iload_n hx hb dX5_order_13 rfl (lv_at hl 0 rfl) ?_
  obtain ⟨c6, c7, c8, hc14, h⟩ := k_b3_e h
  refine g_callMV_V (As := [.int x2]) (rest := []) hC (mX5_word l dC dI cyI cyC cyO ob a1 a2 a3 a4 a5 a6 a7 a8 v_thrown v_z v_saved v_savedMany v_spare v_buffer v_typed v_marksBlown v_rests v_begins v_orders v_orderMany c3 c4 c5 v_before v_hash x2 hc14) q884 q885 q37 q75 q886 1 hdX5_word ⟨Nat.le_of_ble_eq_true rfl, Nat.le_of_ble_eq_true rfl⟩ ⟨Nat.le_of_ble_eq_true rfl, Nat.le_of_ble_eq_true rfl⟩ rfl rfl hl.1 (Nat.le_of_ble_eq_true rfl) hP hK hD (va_recv hK hP (ci := 4) (q0 := 0) rfl rfl) hS dX5_order_14 (fun H locs hPn hk hS => ?_)
  have hP : va_P (dC, dI) vwCl (wX5 cyI cyC ob a1 a2 a3 a4 a5 a6 a7 a8 v_thrown v_z v_saved v_savedMany v_spare v_buffer v_typed v_marksBlown v_rests v_begins v_orders v_orderMany c6 c7 c8 v_before v_hash) H := hPn
  have hD : va_D (k_A (wX5 cyI cyC ob a1 a2 a3 a4 a5 a6 a7 a8 v_thrown v_z v_saved v_savedMany v_spare v_buffer v_typed v_marksBlown v_rests v_begins v_orders v_orderMany v_spot v_wrong v_isShort v_before v_hash)) (wX5 cyI cyC ob a1 a2 a3 a4 a5 a6 a7 a8 v_thrown v_z v_saved v_savedMany v_spare v_buffer v_typed v_marksBlown v_rests v_begins v_orders v_orderMany c6 c7 c8 v_before v_hash) := k_Dm hD rfl
  refine lv_aload_n hx hb dX5_order_17 rfl (lv_at hl 2 rfl) ?_
  refine va_get (D := (dC, dI)) (ci := 4) (v := .ref a7) (C := RX5) (T := TX5) (N := 17) hx hb hts iaX5 hown hK hP 0 rfl rfl 10 (by decide) (hts _ q726) (fun _ h9 => h9) rfl dX5_order_18 ?_
  refine lv_iload_n hx hb dX5_order_21 rfl (lv_at hl 1 rfl) ?_
  refine lv_iload_n hx hb dX5_order_22 rfl (lv_at hl 0 rfl) ?_
  refine g_iast hx hb hK hP hD hS 7 0 rfl rfl dX5_order_23 h (fun c9 H locs h hP hS => ?_)
  have hP : va_P (dC, dI) vwCl (wX5 cyI cyC ob a1 a2 a3 a4 a5 a6 a7 a8 v_thrown v_z v_saved v_savedMany v_spare v_buffer v_typed v_marksBlown v_rests v_begins c9 v_orderMany c6 c7 c8 v_before v_hash) H := hP
  have hD : va_D (k_A (wX5 cyI cyC ob a1 a2 a3 a4 a5 a6 a7 a8 v_thrown v_z v_saved v_savedMany v_spare v_buffer v_typed v_marksBlown v_rests v_begins v_orders v_orderMany v_spot v_wrong v_isShort v_before v_hash)) (wX5 cyI cyC ob a1 a2 a3 a4 a5 a6 a7 a8 v_thrown v_z v_saved v_savedMany v_spare v_buffer v_typed v_marksBlown v_rests v_begins c9 v_orderMany c6 c7 c8 v_before v_hash) := k_Dm hD rfl
  refine lv_aload_n hx hb dX5_order_24 rfl (lv_at hl 2 rfl) ?_
  refine va_get (D := (dC, dI)) (ci := 4) (v := .ref a7) (C := RX5) (T := TX5) (N := 17) hx hb hts iaX5 hown hK hP 0 rfl rfl 10 (by decide) (hts _ q726) (fun _ h9 => h9) rfl dX5_order_25 ?_
  refine lv_iload_n hx hb dX5_order_28 rfl (lv_at hl 1 rfl) ?_
  refine lv_iconst (v := 1) hx hb dX5_order_29 (by decide) ?_
  refine g_iadd hx hb dX5_order_30 h (fun x10 h => ?_)
  refine lv_iload_n hx hb dX5_order_31 rfl (lv_at hl 0 rfl) ?_
  obtain ⟨K82, hK82, h⟩ := k_j4_e h
  have J82 : ∀ (x11 : Int32) (c12 : Int32) (c13 : Int32) (c14 : Int32) (H : Heap) (locs : List Loc) (ls : Array Slot), K82 x11 c12 c13 c14 = some (r_orders, r_orderMany, r_spot, r_wrong, r_isShort) → va_P (dC, dI) vwCl (wX5 cyI cyC ob a1 a2 a3 a4 a5 a6 a7 a8 v_thrown v_z v_saved v_savedMany v_spare v_buffer v_typed v_marksBlown v_rests v_begins c9 v_orderMany c12 c13 c14 v_before v_hash) H → va_S (k_A (wX5 cyI cyC ob a1 a2 a3 a4 a5 a6 a7 a8 v_thrown v_z v_saved v_savedMany v_spare v_buffer v_typed v_marksBlown v_rests v_begins v_orders v_orderMany v_spot v_wrong v_isShort v_before v_hash)) s.heap H locs → lv_has ls 3 [(0, .ref ob), (1, .int x1), (2, .int x2)] → W p l e (k_rm 3 63) s m [.ref ob].toArray below meth c H locs 0 0 (MQ below (qMV (dC, dI) (wX5 cyI cyC ob a1 a2 a3 a4 a5 a6 a7 a8 v_thrown v_z v_saved v_savedMany v_spare v_buffer v_typed v_marksBlown v_rests v_begins v_orders v_orderMany v_spot v_wrong v_isShort v_before v_hash) (wX5 cyI cyC ob a1 a2 a3 a4 a5 a6 a7 a8 v_thrown v_z v_saved v_savedMany v_spare v_buffer v_typed v_marksBlown v_rests v_begins r_orders r_orderMany r_spot r_wrong r_isShort v_before v_hash)) [.ref ob].toArray s 0 0 (k_A (wX5 cyI cyC ob a1 a2 a3 a4 a5 a6 a7 a8 v_thrown v_z v_saved v_savedMany v_spare v_buffer v_typed v_marksBlown v_rests v_begins v_orders v_orderMany v_spot v_wrong v_isShort v_before v_hash))) (F0 m 82 ls [.int x11, .int x10, .ref a7]) := by
    intro x11 c12 c13 c14 H locs ls h hP hS hl
    have hD : va_D (k_A (wX5 cyI cyC ob a1 a2 a3 a4 a5 a6 a7 a8 v_thrown v_z v_saved v_savedMany v_spare v_buffer v_typed v_marksBlown v_rests v_begins v_orders v_orderMany v_spot v_wrong v_isShort v_before v_hash)) (wX5 cyI cyC ob a1 a2 a3 a4 a5 a6 a7 a8 v_thrown v_z v_saved v_savedMany v_spare v_buffer v_typed v_marksBlown v_rests v_begins c9 v_orderMany c12 c13 c14 v_before v_hash) := k_Dm hD rfl
    have h := k_a4 hK82 h
    refine g_iast hx hb hK hP hD hS 7 0 rfl rfl dX5_order_82 h (fun c15 H locs h hP hS => ?_)
    have hP : va_P (dC, dI) vwCl (wX5 cyI cyC ob a1 a2 a3 a4 a5 a6 a7 a8 v_thrown v_z v_saved v_savedMany v_spare v_buffer v_typed v_marksBlown v_rests v_begins c15 v_orderMany c12 c13 c14 v_before v_hash) H := hP
    have hD : va_D (k_A (wX5 cyI cyC ob a1 a2 a3 a4 a5 a6 a7 a8 v_thrown v_z v_saved v_savedMany v_spare v_buffer v_typed v_marksBlown v_rests v_begins v_orders v_orderMany v_spot v_wrong v_isShort v_before v_hash)) (wX5 cyI cyC ob a1 a2 a3 a4 a5 a6 a7 a8 v_thrown v_z v_saved v_savedMany v_spare v_buffer v_typed v_marksBlown v_rests v_begins c15 v_orderMany c12 c13 c14 v_before v_hash) := k_Dm hD rfl
    refine lv_iload_n hx hb dX5_order_83 rfl (lv_at hl 2 rfl) ?_
    obtain ⟨K108, hK108, h⟩ := k_j4_e h
    have J108 : ∀ (c16 : Nat → Int32) (c17 : Int32) (c18 : Int32) (c19 : Int32) (H : Heap) (locs : List Loc) (ls : Array Slot), K108 c16 c17 c18 c19 = some (r_orders, r_orderMany, r_spot, r_wrong, r_isShort) → va_P (dC, dI) vwCl (wX5 cyI cyC ob a1 a2 a3 a4 a5 a6 a7 a8 v_thrown v_z v_saved v_savedMany v_spare v_buffer v_typed v_marksBlown v_rests v_begins c16 v_orderMany c17 c18 c19 v_before v_hash) H → va_S (k_A (wX5 cyI cyC ob a1 a2 a3 a4 a5 a6 a7 a8 v_thrown v_z v_saved v_savedMany v_spare v_buffer v_typed v_marksBlown v_rests v_begins v_orders v_orderMany v_spot v_wrong v_isShort v_before v_hash)) s.heap H locs → lv_has ls 3 [(0, .ref ob)] → W p l e (k_rm 3 63) s m [.ref ob].toArray below meth c H locs 0 0 (MQ below (qMV (dC, dI) (wX5 cyI cyC ob a1 a2 a3 a4 a5 a6 a7 a8 v_thrown v_z v_saved v_savedMany v_spare v_buffer v_typed v_marksBlown v_rests v_begins v_orders v_orderMany v_spot v_wrong v_isShort v_before v_hash) (wX5 cyI cyC ob a1 a2 a3 a4 a5 a6 a7 a8 v_thrown v_z v_saved v_savedMany v_spare v_buffer v_typed v_marksBlown v_rests v_begins r_orders r_orderMany r_spot r_wrong r_isShort v_before v_hash)) [.ref ob].toArray s 0 0 (k_A (wX5 cyI cyC ob a1 a2 a3 a4 a5 a6 a7 a8 v_thrown v_z v_saved v_savedMany v_spare v_buffer v_typed v_marksBlown v_rests v_begins v_orders v_orderMany v_spot v_wrong v_isShort v_before v_hash))) (F0 m 108 ls []) := by
      intro c16 c17 c18 c19 H locs ls h hP hS hl
      have hD : va_D (k_A (wX5 cyI cyC ob a1 a2 a3 a4 a5 a6 a7 a8 v_thrown v_z v_saved v_savedMany v_spare v_buffer v_typed v_marksBlown v_rests v_begins v_orders v_orderMany v_spot v_wrong v_isShort v_before v_hash)) (wX5 cyI cyC ob a1 a2 a3 a4 a5 a6 a7 a8 v_thrown v_z v_saved v_savedMany v_spare v_buffer v_typed v_marksBlown v_rests v_begins c16 v_orderMany c17 c18 c19 v_before v_hash) := k_Dm hD rfl
      have h := k_a4 hK108 h
      refine lv_aload_n hx hb dX5_order_108 rfl (lv_at hl 0 rfl) ?_
      refine lv_dup hx hb dX5_order_109 rfl ?_
      refine va_get (D := (dC, dI)) (ci := 4) (v := .int v_orderMany) (C := RX5) (T := TX5) (N := 17) hx hb hts iaX5 hown hK hP 0 rfl rfl 11 (by decide) (hts _ q727) (fun _ h9 => h9) rfl dX5_order_110 ?_
      refine lv_iconst (v := 1) hx hb dX5_order_113 (by decide) ?_
      refine g_iadd hx hb dX5_order_114 h (fun x20 h => ?_)
      refine va_put (D := (dC, dI)) (ci := 4) (v := .int x20) (ty := .int) (C := RX5) (T := TX5) (N := 17) hx hb hts iaX5 tyX5 tyX5_ok nmX5 hown hK hP hD hS 0 rfl rfl 11 (by decide) (hts _ q727) (fun _ h9 => h9) rfl (by decide +kernel) rfl rfl (Nat.le_of_ble_eq_true rfl) dX5_order_115 (fun H locs hP _ hS => ?_)
      have hP : va_P (dC, dI) vwCl (wX5 cyI cyC ob a1 a2 a3 a4 a5 a6 a7 a8 v_thrown v_z v_saved v_savedMany v_spare v_buffer v_typed v_marksBlown v_rests v_begins c16 x20 c17 c18 c19 v_before v_hash) H := hP
      have hD : va_D (k_A (wX5 cyI cyC ob a1 a2 a3 a4 a5 a6 a7 a8 v_thrown v_z v_saved v_savedMany v_spare v_buffer v_typed v_marksBlown v_rests v_begins v_orders v_orderMany v_spot v_wrong v_isShort v_before v_hash)) (wX5 cyI cyC ob a1 a2 a3 a4 a5 a6 a7 a8 v_thrown v_z v_saved v_savedMany v_spare v_buffer v_typed v_marksBlown v_rests v_begins c16 x20 c17 c18 c19 v_before v_hash) := k_Dm hD rfl
      obtain ⟨e0, e1, e2, e3, e4⟩ := k_t5 h
      exact g_retMV hx hb hr hlk hS (by rw [← e0, ← e1, ← e2, ← e3, ← e4]; exact hP) dX5_order_118
    refine g_if_ne (tgt := 108) hx hb dX5_order_84 (by decide) h (fun h => ?_) (fun h => ?_)
    · exact J108 c15 c12 c13 c14 _ _ _ h hP hS (lv_sub hl [0] rfl)
    · refine lv_aload_n hx hb dX5_order_87 rfl (lv_at hl 0 rfl) ?_
      refine lv_bipush (v := 58) hx hb dX5_order_88 (by decide) ?_
      obtain ⟨c21, c22, c23, hc90, h⟩ := k_b3_e h
      refine g_callMV_V (As := [.int 58]) (rest := []) hC (mX5_takes l dC dI cyI cyC cyO ob a1 a2 a3 a4 a5 a6 a7 a8 v_thrown v_z v_saved v_savedMany v_spare v_buffer v_typed v_marksBlown v_rests v_begins c15 v_orderMany c12 c13 c14 v_before v_hash 58 hc90) q887 q888 q38 q75 q889 1 hdX5_takes ⟨Nat.le_of_ble_eq_true rfl, Nat.le_of_ble_eq_true rfl⟩ ⟨Nat.le_of_ble_eq_true rfl, Nat.le_of_ble_eq_true rfl⟩ rfl rfl hl.1 (Nat.le_of_ble_eq_true rfl) hP hK hD (va_recv hK hP (ci := 4) (q0 := 0) rfl rfl) hS dX5_order_90 (fun H locs hPn hk hS => ?_)
      have hP : va_P (dC, dI) vwCl (wX5 cyI cyC ob a1 a2 a3 a4 a5 a6 a7 a8 v_thrown v_z v_saved v_savedMany v_spare v_buffer v_typed v_marksBlown v_rests v_begins c15 v_orderMany c21 c22 c23 v_before v_hash) H := hPn
      have hD : va_D (k_A (wX5 cyI cyC ob a1 a2 a3 a4 a5 a6 a7 a8 v_thrown v_z v_saved v_savedMany v_spare v_buffer v_typed v_marksBlown v_rests v_begins v_orders v_orderMany v_spot v_wrong v_isShort v_before v_hash)) (wX5 cyI cyC ob a1 a2 a3 a4 a5 a6 a7 a8 v_thrown v_z v_saved v_savedMany v_spare v_buffer v_typed v_marksBlown v_rests v_begins c15 v_orderMany c21 c22 c23 v_before v_hash) := k_Dm hD rfl
      refine lv_aload_n hx hb dX5_order_93 rfl (lv_at hl 0 rfl) ?_
      refine va_get (D := (dC, dI)) (ci := 4) (v := .ref a7) (C := RX5) (T := TX5) (N := 17) hx hb hts iaX5 hown hK hP 0 rfl rfl 10 (by decide) (hts _ q726) (fun _ h9 => h9) rfl dX5_order_94 ?_
      refine lv_iload_n hx hb dX5_order_97 rfl (lv_at hl 1 rfl) ?_
      refine lv_iconst (v := 2) hx hb dX5_order_98 (by decide) ?_
      refine g_iadd hx hb dX5_order_99 h (fun x24 h => ?_)
      refine lv_aload_n hx hb dX5_order_100 rfl (lv_at hl 0 rfl) ?_
      refine lv_iconst (v := 0) hx hb dX5_order_101 (by decide) ?_
      refine lv_bipush (v := 63) hx hb dX5_order_102 (by decide) ?_
      obtain ⟨x25, c26, c27, c28, hc104, h⟩ := k_b4_e h
      refine g_callMI_V (As := [.int 0, .int 63]) (rest := [.int x24, .ref a7]) hC (mX5_number l dC dI cyI cyC cyO ob a1 a2 a3 a4 a5 a6 a7 a8 v_thrown v_z v_saved v_savedMany v_spare v_buffer v_typed v_marksBlown v_rests v_begins c15 v_orderMany c21 c22 c23 v_before v_hash 0 63 hc104) q893 q894 q40 q75 q895 2 hdX5_number ⟨Nat.le_of_ble_eq_true rfl, Nat.le_of_ble_eq_true rfl⟩ ⟨Nat.le_of_ble_eq_true rfl, Nat.le_of_ble_eq_true rfl⟩ rfl rfl hl.1 (Nat.le_of_ble_eq_true rfl) hP hK hD (va_recv hK hP (ci := 4) (q0 := 0) rfl rfl) hS dX5_order_104 (fun H locs hPn hk hS => ?_)
      have hP : va_P (dC, dI) vwCl (wX5 cyI cyC ob a1 a2 a3 a4 a5 a6 a7 a8 v_thrown v_z v_saved v_savedMany v_spare v_buffer v_typed v_marksBlown v_rests v_begins c15 v_orderMany c26 c27 c28 v_before v_hash) H := hPn
      have hD : va_D (k_A (wX5 cyI cyC ob a1 a2 a3 a4 a5 a6 a7 a8 v_thrown v_z v_saved v_savedMany v_spare v_buffer v_typed v_marksBlown v_rests v_begins v_orders v_orderMany v_spot v_wrong v_isShort v_before v_hash)) (wX5 cyI cyC ob a1 a2 a3 a4 a5 a6 a7 a8 v_thrown v_z v_saved v_savedMany v_spare v_buffer v_typed v_marksBlown v_rests v_begins c15 v_orderMany c26 c27 c28 v_before v_hash) := k_Dm hD rfl
      refine g_iast hx hb hK hP hD hS 7 0 rfl rfl dX5_order_107 h (fun c29 H locs h hP hS => ?_)
      have hP : va_P (dC, dI) vwCl (wX5 cyI cyC ob a1 a2 a3 a4 a5 a6 a7 a8 v_thrown v_z v_saved v_savedMany v_spare v_buffer v_typed v_marksBlown v_rests v_begins c29 v_orderMany c26 c27 c28 v_before v_hash) H := hP
      have hD : va_D (k_A (wX5 cyI cyC ob a1 a2 a3 a4 a5 a6 a7 a8 v_thrown v_z v_saved v_savedMany v_spare v_buffer v_typed v_marksBlown v_rests v_begins v_orders v_orderMany v_spot v_wrong v_isShort v_before v_hash)) (wX5 cyI cyC ob a1 a2 a3 a4 a5 a6 a7 a8 v_thrown v_z v_saved v_savedMany v_spare v_buffer v_typed v_marksBlown v_rests v_begins c29 v_orderMany c26 c27 c28 v_before v_hash) := k_Dm hD rfl
      exact J108 c29 c26 c27 c28 _ _ _ h hP hS (lv_sub hl [0] rfl)
  refine g_if_ne (tgt := 45) hx hb dX5_order_32 (by decide) h (fun h => ?_) (fun h => ?_)
  · refine lv_iload_n hx hb dX5_order_45 rfl (lv_at hl 0 rfl) ?_
    refine lv_iconst (v := 2) hx hb dX5_order_46 (by decide) ?_
    refine g_icmp_ne (tgt := 60) hx hb dX5_order_47 (by decide) h (fun h => ?_) (fun h => ?_)
    · refine lv_iload_n hx hb dX5_order_60 rfl (lv_at hl 0 rfl) ?_
      refine lv_iconst (v := 3) hx hb dX5_order_61 (by decide) ?_
      refine g_icmp_ne (tgt := 75) hx hb dX5_order_62 (by decide) h (fun h => ?_) (fun h => ?_)
      · refine lv_aload_n hx hb dX5_order_75 rfl (lv_at hl 2 rfl) ?_
        refine lv_iconst (v := 0) hx hb dX5_order_76 (by decide) ?_
        refine lv_bipush (v := 19) hx hb dX5_order_77 (by decide) ?_
        obtain ⟨x30, c31, c32, c33, hc79, h⟩ := k_b4_e h
        refine g_callMI_V (As := [.int 0, .int 19]) (rest := [.int x10, .ref a7]) hC (mX5_number l dC dI cyI cyC cyO ob a1 a2 a3 a4 a5 a6 a7 a8 v_thrown v_z v_saved v_savedMany v_spare v_buffer v_typed v_marksBlown v_rests v_begins c9 v_orderMany c6 c7 c8 v_before v_hash 0 19 hc79) q893 q894 q40 q75 q895 2 hdX5_number ⟨Nat.le_of_ble_eq_true rfl, Nat.le_of_ble_eq_true rfl⟩ ⟨Nat.le_of_ble_eq_true rfl, Nat.le_of_ble_eq_true rfl⟩ rfl rfl hl.1 (Nat.le_of_ble_eq_true rfl) hP hK hD (va_recv hK hP (ci := 4) (q0 := 0) rfl rfl) hS dX5_order_79 (fun H locs hPn hk hS => ?_)
        have hP : va_P (dC, dI) vwCl (wX5 cyI cyC ob a1 a2 a3 a4 a5 a6 a7 a8 v_thrown v_z v_saved v_savedMany v_spare v_buffer v_typed v_marksBlown v_rests v_begins c9 v_orderMany c31 c32 c33 v_before v_hash) H := hPn
        have hD : va_D (k_A (wX5 cyI cyC ob a1 a2 a3 a4 a5 a6 a7 a8 v_thrown v_z v_saved v_savedMany v_spare v_buffer v_typed v_marksBlown v_rests v_begins v_orders v_orderMany v_spot v_wrong v_isShort v_before v_hash)) (wX5 cyI cyC ob a1 a2 a3 a4 a5 a6 a7 a8 v_thrown v_z v_saved v_savedMany v_spare v_buffer v_typed v_marksBlown v_rests v_begins c9 v_orderMany c31 c32 c33 v_before v_hash) := k_Dm hD rfl
        exact J82 x30 c31 c32 c33 _ _ _ h hP hS (lv_sub hl [2, 1, 0] rfl)
      · refine lv_aload_n hx hb dX5_order_65 rfl (lv_at hl 2 rfl) ?_
        refine lv_iconst (v := 1) hx hb dX5_order_66 (by decide) ?_
        refine lv_bipush (v := 99) hx hb dX5_order_67 (by decide) ?_
        obtain ⟨x34, c35, c36, c37, hc69, h⟩ := k_b4_e h
        refine g_callMI_V (As := [.int 1, .int 99]) (rest := [.int x10, .ref a7]) hC (mX5_number l dC dI cyI cyC cyO ob a1 a2 a3 a4 a5 a6 a7 a8 v_thrown v_z v_saved v_savedMany v_spare v_buffer v_typed v_marksBlown v_rests v_begins c9 v_orderMany c6 c7 c8 v_before v_hash 1 99 hc69) q893 q894 q40 q75 q895 2 hdX5_number ⟨Nat.le_of_ble_eq_true rfl, Nat.le_of_ble_eq_true rfl⟩ ⟨Nat.le_of_ble_eq_true rfl, Nat.le_of_ble_eq_true rfl⟩ rfl rfl hl.1 (Nat.le_of_ble_eq_true rfl) hP hK hD (va_recv hK hP (ci := 4) (q0 := 0) rfl rfl) hS dX5_order_69 (fun H locs hPn hk hS => ?_)
        have hP : va_P (dC, dI) vwCl (wX5 cyI cyC ob a1 a2 a3 a4 a5 a6 a7 a8 v_thrown v_z v_saved v_savedMany v_spare v_buffer v_typed v_marksBlown v_rests v_begins c9 v_orderMany c35 c36 c37 v_before v_hash) H := hPn
        have hD : va_D (k_A (wX5 cyI cyC ob a1 a2 a3 a4 a5 a6 a7 a8 v_thrown v_z v_saved v_savedMany v_spare v_buffer v_typed v_marksBlown v_rests v_begins v_orders v_orderMany v_spot v_wrong v_isShort v_before v_hash)) (wX5 cyI cyC ob a1 a2 a3 a4 a5 a6 a7 a8 v_thrown v_z v_saved v_savedMany v_spare v_buffer v_typed v_marksBlown v_rests v_begins c9 v_orderMany c35 c36 c37 v_before v_hash) := k_Dm hD rfl
        refine lv_goto (tgt := 82) hx hb dX5_order_72 (by decide) ?_
        exact J82 x34 c35 c36 c37 _ _ _ h hP hS (lv_sub hl [2, 1, 0] rfl)
    · refine lv_aload_n hx hb dX5_order_50 rfl (lv_at hl 2 rfl) ?_
      refine lv_iconst (v := 1) hx hb dX5_order_51 (by decide) ?_
      refine lv_bipush (v := 9) hx hb dX5_order_52 (by decide) ?_
      obtain ⟨x38, c39, c40, c41, hc54, h⟩ := k_b4_e h
      refine g_callMI_V (As := [.int 1, .int 9]) (rest := [.int x10, .ref a7]) hC (mX5_number l dC dI cyI cyC cyO ob a1 a2 a3 a4 a5 a6 a7 a8 v_thrown v_z v_saved v_savedMany v_spare v_buffer v_typed v_marksBlown v_rests v_begins c9 v_orderMany c6 c7 c8 v_before v_hash 1 9 hc54) q893 q894 q40 q75 q895 2 hdX5_number ⟨Nat.le_of_ble_eq_true rfl, Nat.le_of_ble_eq_true rfl⟩ ⟨Nat.le_of_ble_eq_true rfl, Nat.le_of_ble_eq_true rfl⟩ rfl rfl hl.1 (Nat.le_of_ble_eq_true rfl) hP hK hD (va_recv hK hP (ci := 4) (q0 := 0) rfl rfl) hS dX5_order_54 (fun H locs hPn hk hS => ?_)
      have hP : va_P (dC, dI) vwCl (wX5 cyI cyC ob a1 a2 a3 a4 a5 a6 a7 a8 v_thrown v_z v_saved v_savedMany v_spare v_buffer v_typed v_marksBlown v_rests v_begins c9 v_orderMany c39 c40 c41 v_before v_hash) H := hPn
      have hD : va_D (k_A (wX5 cyI cyC ob a1 a2 a3 a4 a5 a6 a7 a8 v_thrown v_z v_saved v_savedMany v_spare v_buffer v_typed v_marksBlown v_rests v_begins v_orders v_orderMany v_spot v_wrong v_isShort v_before v_hash)) (wX5 cyI cyC ob a1 a2 a3 a4 a5 a6 a7 a8 v_thrown v_z v_saved v_savedMany v_spare v_buffer v_typed v_marksBlown v_rests v_begins c9 v_orderMany c39 c40 c41 v_before v_hash) := k_Dm hD rfl
      refine lv_goto (tgt := 82) hx hb dX5_order_57 (by decide) ?_
      exact J82 x38 c39 c40 c41 _ _ _ h hP hS (lv_sub hl [2, 1, 0] rfl)
  · refine lv_aload_n hx hb dX5_order_35 rfl (lv_at hl 2 rfl) ?_
    refine lv_iconst (v := 0) hx hb dX5_order_36 (by decide) ?_
    refine lv_bipush (v := 15) hx hb dX5_order_37 (by decide) ?_
    obtain ⟨x42, c43, c44, c45, hc39, h⟩ := k_b4_e h
    refine g_callMI_V (As := [.int 0, .int 15]) (rest := [.int x10, .ref a7]) hC (mX5_number l dC dI cyI cyC cyO ob a1 a2 a3 a4 a5 a6 a7 a8 v_thrown v_z v_saved v_savedMany v_spare v_buffer v_typed v_marksBlown v_rests v_begins c9 v_orderMany c6 c7 c8 v_before v_hash 0 15 hc39) q893 q894 q40 q75 q895 2 hdX5_number ⟨Nat.le_of_ble_eq_true rfl, Nat.le_of_ble_eq_true rfl⟩ ⟨Nat.le_of_ble_eq_true rfl, Nat.le_of_ble_eq_true rfl⟩ rfl rfl hl.1 (Nat.le_of_ble_eq_true rfl) hP hK hD (va_recv hK hP (ci := 4) (q0 := 0) rfl rfl) hS dX5_order_39 (fun H locs hPn hk hS => ?_)
    have hP : va_P (dC, dI) vwCl (wX5 cyI cyC ob a1 a2 a3 a4 a5 a6 a7 a8 v_thrown v_z v_saved v_savedMany v_spare v_buffer v_typed v_marksBlown v_rests v_begins c9 v_orderMany c43 c44 c45 v_before v_hash) H := hPn
    have hD : va_D (k_A (wX5 cyI cyC ob a1 a2 a3 a4 a5 a6 a7 a8 v_thrown v_z v_saved v_savedMany v_spare v_buffer v_typed v_marksBlown v_rests v_begins v_orders v_orderMany v_spot v_wrong v_isShort v_before v_hash)) (wX5 cyI cyC ob a1 a2 a3 a4 a5 a6 a7 a8 v_thrown v_z v_saved v_savedMany v_spare v_buffer v_typed v_marksBlown v_rests v_begins c9 v_orderMany c43 c44 c45 v_before v_hash) := k_Dm hD rfl
    refine lv_goto (tgt := 82) hx hb dX5_order_42 (by decide) ?_
    exact J82 x42 c43 c44 c45 _ _ _ h hP hS (lv_sub hl [2, 1, 0] rfl)
def fX5_readBuffer_s22 (v_buffer : Nat → Int32) (v_typed : Int32) (v_rests : Nat → Int32) (v_begins : Nat → Int32) (rec22 : Int32 → (Nat → Int32) → Int32 → Int32 → Int32 → Int32 → Option ((Nat → Int32) × Int32 × Int32 × Int32 × Int32)) (x1 : Int32) (c2 : Nat → Int32) (c3 : Int32) (c4 : Int32) (c5 : Int32) (c6 : Int32) : Option ((Nat → Int32) × Int32 × Int32 × Int32 × Int32) :=
  k_if (x1 = 0)
  (
    some (c2, c3, c4, c5, c6))
  (
    k_b5 (fX5_order v_buffer v_typed v_rests v_begins c2 c3 c4 c5 c6) fun (c7 : Nat → Int32) (c8 : Int32) (c9 : Int32) (c10 : Int32) (c11 : Int32) =>
    k_b1 (fX5_isFine c10 c11) fun (x12 : Int32) =>
    k_j1
    (fun (x13 : Int32) =>
      k_if (x13 = 0)
      (
        rec22 x13 c7 c8 c9 c10 c11)
      (
        k_b3 (fX5_takes v_buffer v_typed c9 c10 c11 59) fun (c14 : Int32) (c15 : Int32) (c16 : Int32) =>
        k_b1 (fX5_isFine c15 c16) fun (x17 : Int32) =>
        rec22 x17 c7 c8 c14 c15 c16))
    (fun K53 =>
    k_if (x12 = 0)
    (
      K53 0)
    (
      k_if (v_typed ≤ c9)
      (
        K53 0)
      (
        K53 1))))
def fX5_readBuffer (v_buffer : Nat → Int32) (v_typed : Int32) (v_rests : Nat → Int32) (v_begins : Nat → Int32) (v_orders : Nat → Int32) (v_orderMany : Int32) (v_spot : Int32) (v_wrong : Int32) (v_isShort : Int32) : Option ((Nat → Int32) × Int32 × Int32 × Int32 × Int32) :=
  k_l6 (fX5_readBuffer_s22 v_buffer v_typed v_rests v_begins) 5000 1 v_orders 0 0 (((-1))) 0
theorem hdX5_readBuffer : yX5_readBuffer.cls = RX5 ∧ yX5_readBuffer.cls ≠ "java/lang/invoke/MethodHandle" ∧ yX5_readBuffer.cls ≠ "java/lang/invoke/VarHandle" ∧ (parseMethodDescriptor yX5_readBuffer.desc).map (fun d => d.parameters.length) = some 0 := by decide +kernel
set_option maxRecDepth 100000 in
set_option maxHeartbeats 4000000 in
theorem mX5_readBuffer (l : Launch) (dC : Nat → ClassId) (dI : Nat → Nat → Nat) (cyI cyC cyO : ClassId) (ob a1 a2 a3 a4 a5 a6 a7 a8 : Nat) (v_thrown : Int32) (v_z : Nat → Int32) (v_saved : Nat → Int32) (v_savedMany : Int32) (v_spare : Nat → Int32) (v_buffer : Nat → Int32) (v_typed : Int32) (v_marksBlown : Int32) (v_rests : Nat → Int32) (v_begins : Nat → Int32) (v_orders : Nat → Int32) (v_orderMany : Int32) (v_spot : Int32) (v_wrong : Int32) (v_isShort : Int32) (v_before : Nat → Int32) (v_hash : Int64)  {r_orders : Nat → Int32} {r_orderMany : Int32} {r_spot : Int32} {r_wrong : Int32} {r_isShort : Int32} (hf : fX5_readBuffer v_buffer v_typed v_rests v_begins v_orders v_orderMany v_spot v_wrong v_isShort = some (r_orders, r_orderMany, r_spot, r_wrong, r_isShort)) : MetMV l yX5_readBuffer cX5_readBuffer 2 none 4 85 [.ref ob] (dC, dI) (tyS cyI cyC cyO) (wX5 cyI cyC ob a1 a2 a3 a4 a5 a6 a7 a8 v_thrown v_z v_saved v_savedMany v_spare v_buffer v_typed v_marksBlown v_rests v_begins v_orders v_orderMany v_spot v_wrong v_isShort v_before v_hash) (wX5 cyI cyC ob a1 a2 a3 a4 a5 a6 a7 a8 v_thrown v_z v_saved v_savedMany v_spare v_buffer v_typed v_marksBlown v_rests v_begins r_orders r_orderMany r_spot r_wrong r_isShort v_before v_hash) := by
  refine metMV_of (by decide) (Nat.le_of_ble_eq_true rfl) ?_
  intro p e s m below meth c ls hC hr hlk hP hK hD hl
  have hC : CallFix p m c cX5_readBuffer 2 s [.ref ob].toArray wA RX5 := hC
  obtain ⟨hx, hb, hml, hown, hts⟩ := id hC
  have hS : va_S (k_A (wX5 cyI cyC ob a1 a2 a3 a4 a5 a6 a7 a8 v_thrown v_z v_saved v_savedMany v_spare v_buffer v_typed v_marksBlown v_rests v_begins v_orders v_orderMany v_spot v_wrong v_isShort v_before v_hash)) s.heap s.heap [] := va_S.rf
  have hl : lv_has ls 2 [(0, .ref ob)] := hl
  have h := hf
  unfold fX5_readBuffer at h
  obtain ⟨H, hH⟩ : ∃ H, H = s.heap := ⟨_, rfl⟩
  obtain ⟨locs, hlo⟩ : ∃ locs : List Loc, locs = [] := ⟨_, rfl⟩
  rw [← hH] at hP
  rw [← hlo] at hS
  have hS : va_S (k_A (wX5 cyI cyC ob a1 a2 a3 a4 a5 a6 a7 a8 v_thrown v_z v_saved v_savedMany v_spare v_buffer v_typed v_marksBlown v_rests v_begins v_orders v_orderMany v_spot v_wrong v_isShort v_before v_hash)) s.heap H locs := by rw [hH]; exact hS
  show W p l e (k_rm 4 85) s m [.ref ob].toArray below meth c s.heap [] 0 0 _ _
  rw [← hlo, ← hH]
  refine lv_aload_n hx hb dX5_readBuffer_0 rfl (lv_at hl 0 rfl) ?_
  refine lv_iconst (v := 0) hx hb dX5_readBuffer_1 (by decide) ?_
  refine va_put (D := (dC, dI)) (ci := 4) (v := .int 0) (ty := .int) (C := RX5) (T := TX5) (N := 17) hx hb hts iaX5 tyX5 tyX5_ok nmX5 hown hK hP hD hS 0 rfl rfl 11 (by decide) (hts _ q727) (fun _ h9 => h9) rfl (by decide +kernel) rfl rfl (Nat.le_of_ble_eq_true rfl) dX5_readBuffer_2 (fun H locs hP _ hS => ?_)
  have hP : va_P (dC, dI) vwCl (wX5 cyI cyC ob a1 a2 a3 a4 a5 a6 a7 a8 v_thrown v_z v_saved v_savedMany v_spare v_buffer v_typed v_marksBlown v_rests v_begins v_orders 0 v_spot v_wrong v_isShort v_before v_hash) H := hP
  have hD : va_D (k_A (wX5 cyI cyC ob a1 a2 a3 a4 a5 a6 a7 a8 v_thrown v_z v_saved v_savedMany v_spare v_buffer v_typed v_marksBlown v_rests v_begins v_orders v_orderMany v_spot v_wrong v_isShort v_before v_hash)) (wX5 cyI cyC ob a1 a2 a3 a4 a5 a6 a7 a8 v_thrown v_z v_saved v_savedMany v_spare v_buffer v_typed v_marksBlown v_rests v_begins v_orders 0 v_spot v_wrong v_isShort v_before v_hash) := k_Dm hD rfl
  refine lv_aload_n hx hb dX5_readBuffer_5 rfl (lv_at hl 0 rfl) ?_
  refine lv_iconst (v := 0) hx hb dX5_readBuffer_6 (by decide) ?_
  refine va_put (D := (dC, dI)) (ci := 4) (v := .int 0) (ty := .int) (C := RX5) (T := TX5) (N := 17) hx hb hts iaX5 tyX5 tyX5_ok nmX5 hown hK hP hD hS 0 rfl rfl 12 (by decide) (hts _ q728) (fun _ h9 => h9) rfl (by decide +kernel) rfl rfl (Nat.le_of_ble_eq_true rfl) dX5_readBuffer_7 (fun H locs hP _ hS => ?_)
  have hP : va_P (dC, dI) vwCl (wX5 cyI cyC ob a1 a2 a3 a4 a5 a6 a7 a8 v_thrown v_z v_saved v_savedMany v_spare v_buffer v_typed v_marksBlown v_rests v_begins v_orders 0 0 v_wrong v_isShort v_before v_hash) H := hP
  have hD : va_D (k_A (wX5 cyI cyC ob a1 a2 a3 a4 a5 a6 a7 a8 v_thrown v_z v_saved v_savedMany v_spare v_buffer v_typed v_marksBlown v_rests v_begins v_orders v_orderMany v_spot v_wrong v_isShort v_before v_hash)) (wX5 cyI cyC ob a1 a2 a3 a4 a5 a6 a7 a8 v_thrown v_z v_saved v_savedMany v_spare v_buffer v_typed v_marksBlown v_rests v_begins v_orders 0 0 v_wrong v_isShort v_before v_hash) := k_Dm hD rfl
  refine lv_aload_n hx hb dX5_readBuffer_10 rfl (lv_at hl 0 rfl) ?_
  refine lv_iconst (v := (-1)) hx hb dX5_readBuffer_11 (by decide) ?_
  refine va_put (D := (dC, dI)) (ci := 4) (v := .int ((-1))) (ty := .int) (C := RX5) (T := TX5) (N := 17) hx hb hts iaX5 tyX5 tyX5_ok nmX5 hown hK hP hD hS 0 rfl rfl 13 (by decide) (hts _ q729) (fun _ h9 => h9) rfl (by decide +kernel) rfl rfl (Nat.le_of_ble_eq_true rfl) dX5_readBuffer_12 (fun H locs hP _ hS => ?_)
  have hP : va_P (dC, dI) vwCl (wX5 cyI cyC ob a1 a2 a3 a4 a5 a6 a7 a8 v_thrown v_z v_saved v_savedMany v_spare v_buffer v_typed v_marksBlown v_rests v_begins v_orders 0 0 ((-1)) v_isShort v_before v_hash) H := hP
  have hD : va_D (k_A (wX5 cyI cyC ob a1 a2 a3 a4 a5 a6 a7 a8 v_thrown v_z v_saved v_savedMany v_spare v_buffer v_typed v_marksBlown v_rests v_begins v_orders v_orderMany v_spot v_wrong v_isShort v_before v_hash)) (wX5 cyI cyC ob a1 a2 a3 a4 a5 a6 a7 a8 v_thrown v_z v_saved v_savedMany v_spare v_buffer v_typed v_marksBlown v_rests v_begins v_orders 0 0 ((-1)) v_isShort v_before v_hash) := k_Dm hD rfl
  refine lv_aload_n hx hb dX5_readBuffer_15 rfl (lv_at hl 0 rfl) ?_
  refine lv_iconst (v := 0) hx hb dX5_readBuffer_16 (by decide) ?_
  refine va_put (D := (dC, dI)) (ci := 4) (v := .int 0) (ty := .boolean) (C := RX5) (T := TX5) (N := 17) hx hb hts iaX5 tyX5 tyX5_ok nmX5 hown hK hP hD hS 0 rfl rfl 14 (by decide) (hts _ q730) (fun _ h9 => h9) rfl (by decide +kernel) (by decide +kernel) (by decide +kernel) (Nat.le_of_ble_eq_true rfl) dX5_readBuffer_17 (fun H locs hP _ hS => ?_)
  have hP : va_P (dC, dI) vwCl (wX5 cyI cyC ob a1 a2 a3 a4 a5 a6 a7 a8 v_thrown v_z v_saved v_savedMany v_spare v_buffer v_typed v_marksBlown v_rests v_begins v_orders 0 0 ((-1)) 0 v_before v_hash) H := hP
  have hD : va_D (k_A (wX5 cyI cyC ob a1 a2 a3 a4 a5 a6 a7 a8 v_thrown v_z v_saved v_savedMany v_spare v_buffer v_typed v_marksBlown v_rests v_begins v_orders v_orderMany v_spot v_wrong v_isShort v_before v_hash)) (wX5 cyI cyC ob a1 a2 a3 a4 a5 a6 a7 a8 v_thrown v_z v_saved v_savedMany v_spare v_buffer v_typed v_marksBlown v_rests v_begins v_orders 0 0 ((-1)) 0 v_before v_hash) := k_Dm hD rfl
  refine lv_iconst (v := 1) hx hb dX5_readBuffer_20 (by decide) ?_
  refine lv_istore_n (lv' := [(1, .int 1), (0, .ref ob)]) hx hb dX5_readBuffer_21 rfl hl (by decide) rfl (fun ls hl => ?_)
  obtain ⟨S22, hS22⟩ : ∃ z, z = (fX5_readBuffer_s22 v_buffer v_typed v_rests v_begins) := ⟨_, rfl⟩
  rw [← hS22] at h
  have L22 : ∀ (n : Nat) (x1 : Int32) (c2 : Nat → Int32) (c3 : Int32) (c4 : Int32) (c5 : Int32) (c6 : Int32) (H : Heap) (locs : List Loc) (ls : Array Slot), k_l6 S22 n x1 c2 c3 c4 c5 c6 = some (r_orders, r_orderMany, r_spot, r_wrong, r_isShort) → va_P (dC, dI) vwCl (wX5 cyI cyC ob a1 a2 a3 a4 a5 a6 a7 a8 v_thrown v_z v_saved v_savedMany v_spare v_buffer v_typed v_marksBlown v_rests v_begins c2 c3 c4 c5 c6 v_before v_hash) H → va_S (k_A (wX5 cyI cyC ob a1 a2 a3 a4 a5 a6 a7 a8 v_thrown v_z v_saved v_savedMany v_spare v_buffer v_typed v_marksBlown v_rests v_begins v_orders v_orderMany v_spot v_wrong v_isShort v_before v_hash)) s.heap H locs → lv_has ls 2 [(0, .ref ob), (1, .int x1)] → W p l e (k_rm 4 85) s m [.ref ob].toArray below meth c H locs 0 0 (MQ below (qMV (dC, dI) (wX5 cyI cyC ob a1 a2 a3 a4 a5 a6 a7 a8 v_thrown v_z v_saved v_savedMany v_spare v_buffer v_typed v_marksBlown v_rests v_begins v_orders v_orderMany v_spot v_wrong v_isShort v_before v_hash) (wX5 cyI cyC ob a1 a2 a3 a4 a5 a6 a7 a8 v_thrown v_z v_saved v_savedMany v_spare v_buffer v_typed v_marksBlown v_rests v_begins r_orders r_orderMany r_spot r_wrong r_isShort v_before v_hash)) [.ref ob].toArray s 0 0 (k_A (wX5 cyI cyC ob a1 a2 a3 a4 a5 a6 a7 a8 v_thrown v_z v_saved v_savedMany v_spare v_buffer v_typed v_marksBlown v_rests v_begins v_orders v_orderMany v_spot v_wrong v_isShort v_before v_hash))) (F0 m 22 ls []) := by
    intro n
    induction n with
    | zero =>
      intro x1 c2 c3 c4 c5 c6 H locs ls h
      exact (k_l6_0 h).elim
    | succ n ih22 =>
      intro x1 c2 c3 c4 c5 c6 H locs ls h hP hS hl
      have hD : va_D (k_A (wX5 cyI cyC ob a1 a2 a3 a4 a5 a6 a7 a8 v_thrown v_z v_saved v_savedMany v_spare v_buffer v_typed v_marksBlown v_rests v_begins v_orders v_orderMany v_spot v_wrong v_isShort v_before v_hash)) (wX5 cyI cyC ob a1 a2 a3 a4 a5 a6 a7 a8 v_thrown v_z v_saved v_savedMany v_spare v_buffer v_typed v_marksBlown v_rests v_begins c2 c3 c4 c5 c6 v_before v_hash) := k_Dm hD rfl
      have h := k_l6_s h
      have h := k_a7 hS22 h
      unfold fX5_readBuffer_s22 at h
      refine lv_iload_n hx hb dX5_readBuffer_22 rfl (lv_at hl 1 rfl) ?_
      refine g_if_eq (tgt := 72) hx hb dX5_readBuffer_23 (by decide) h (fun h => ?_) (fun h => ?_)
      · obtain ⟨e0, e1, e2, e3, e4⟩ := k_t5 h
        exact g_retMV hx hb hr hlk hS (by rw [← e0, ← e1, ← e2, ← e3, ← e4]; exact hP) dX5_readBuffer_72
      · refine lv_aload_n hx hb dX5_readBuffer_26 rfl (lv_at hl 0 rfl) ?_
        obtain ⟨c7, c8, c9, c10, c11, hc27, h⟩ := k_b5_e h
        refine g_callMV_V (As := []) (rest := []) hC (mX5_order l dC dI cyI cyC cyO ob a1 a2 a3 a4 a5 a6 a7 a8 v_thrown v_z v_saved v_savedMany v_spare v_buffer v_typed v_marksBlown v_rests v_begins c2 c3 c4 c5 c6 v_before v_hash hc27) q875 q876 q34 q75 q877 0 hdX5_order ⟨Nat.le_of_ble_eq_true rfl, Nat.le_of_ble_eq_true rfl⟩ ⟨Nat.le_of_ble_eq_true rfl, Nat.le_of_ble_eq_true rfl⟩ rfl rfl hl.1 (Nat.le_of_ble_eq_true rfl) hP hK hD (va_recv hK hP (ci := 4) (q0 := 0) rfl rfl) hS dX5_readBuffer_27 (fun H locs hPn hk hS => ?_)
        have hP : va_P (dC, dI) vwCl (wX5 cyI cyC ob a1 a2 a3 a4 a5 a6 a7 a8 v_thrown v_z v_saved v_savedMany v_spare v_buffer v_typed v_marksBlown v_rests v_begins c7 c8 c9 c10 c11 v_before v_hash) H := hPn
        have hD : va_D (k_A (wX5 cyI cyC ob a1 a2 a3 a4 a5 a6 a7 a8 v_thrown v_z v_saved v_savedMany v_spare v_buffer v_typed v_marksBlown v_rests v_begins v_orders v_orderMany v_spot v_wrong v_isShort v_before v_hash)) (wX5 cyI cyC ob a1 a2 a3 a4 a5 a6 a7 a8 v_thrown v_z v_saved v_savedMany v_spare v_buffer v_typed v_marksBlown v_rests v_begins c7 c8 c9 c10 c11 v_before v_hash) := k_Dm hD rfl
        refine lv_aload_n hx hb dX5_readBuffer_30 rfl (lv_at hl 0 rfl) ?_
        obtain ⟨x12, hc31, h⟩ := k_b1_e h
        refine g_callRI_V (As := []) (rest := []) hC (mX5_isFine l dC dI cyI cyC cyO ob a1 a2 a3 a4 a5 a6 a7 a8 v_thrown v_z v_saved v_savedMany v_spare v_buffer v_typed v_marksBlown v_rests v_begins c7 c8 c9 c10 c11 v_before v_hash hc31) q890 q891 q39 q75 q892 0 hdX5_isFine ⟨Nat.le_of_ble_eq_true rfl, Nat.le_of_ble_eq_true rfl⟩ ⟨Nat.le_of_ble_eq_true rfl, Nat.le_of_ble_eq_true rfl⟩ rfl rfl hl.1 (Nat.le_of_ble_eq_true rfl) hP hK (va_recv hK hP (ci := 4) (q0 := 0) rfl rfl) hS dX5_readBuffer_31 (fun H locs hk hS => ?_)
        have hP := k_kept hP hk
        obtain ⟨K53, hK53, h⟩ := k_j1_e h
        have J53 : ∀ (x13 : Int32) (H : Heap) (locs : List Loc) (ls : Array Slot), K53 x13 = some (r_orders, r_orderMany, r_spot, r_wrong, r_isShort) → va_P (dC, dI) vwCl (wX5 cyI cyC ob a1 a2 a3 a4 a5 a6 a7 a8 v_thrown v_z v_saved v_savedMany v_spare v_buffer v_typed v_marksBlown v_rests v_begins c7 c8 c9 c10 c11 v_before v_hash) H → va_S (k_A (wX5 cyI cyC ob a1 a2 a3 a4 a5 a6 a7 a8 v_thrown v_z v_saved v_savedMany v_spare v_buffer v_typed v_marksBlown v_rests v_begins v_orders v_orderMany v_spot v_wrong v_isShort v_before v_hash)) s.heap H locs → lv_has ls 2 [(0, .ref ob)] → W p l e (k_rm 4 85) s m [.ref ob].toArray below meth c H locs 0 0 (MQ below (qMV (dC, dI) (wX5 cyI cyC ob a1 a2 a3 a4 a5 a6 a7 a8 v_thrown v_z v_saved v_savedMany v_spare v_buffer v_typed v_marksBlown v_rests v_begins v_orders v_orderMany v_spot v_wrong v_isShort v_before v_hash) (wX5 cyI cyC ob a1 a2 a3 a4 a5 a6 a7 a8 v_thrown v_z v_saved v_savedMany v_spare v_buffer v_typed v_marksBlown v_rests v_begins r_orders r_orderMany r_spot r_wrong r_isShort v_before v_hash)) [.ref ob].toArray s 0 0 (k_A (wX5 cyI cyC ob a1 a2 a3 a4 a5 a6 a7 a8 v_thrown v_z v_saved v_savedMany v_spare v_buffer v_typed v_marksBlown v_rests v_begins v_orders v_orderMany v_spot v_wrong v_isShort v_before v_hash))) (F0 m 53 ls [.int x13]) := by
          intro x13 H locs ls h hP hS hl
          have h := k_a1 hK53 h
          refine lv_istore_n (lv' := [(1, .int x13), (0, .ref ob)]) hx hb dX5_readBuffer_53 rfl hl (by decide) rfl (fun ls hl => ?_)
          refine lv_iload_n hx hb dX5_readBuffer_54 rfl (lv_at hl 0 rfl) ?_
          refine g_if_eq (tgt := 22) hx hb dX5_readBuffer_55 (by decide) h (fun h => ?_) (fun h => ?_)
          · exact ih22 x13 c7 c8 c9 c10 c11 _ _ _ h hP hS (lv_sub hl [1, 0] rfl)
          · refine lv_aload_n hx hb dX5_readBuffer_58 rfl (lv_at hl 1 rfl) ?_
            refine lv_bipush (v := 59) hx hb dX5_readBuffer_59 (by decide) ?_
            obtain ⟨c14, c15, c16, hc61, h⟩ := k_b3_e h
            refine g_callMV_V (As := [.int 59]) (rest := []) hC (mX5_takes l dC dI cyI cyC cyO ob a1 a2 a3 a4 a5 a6 a7 a8 v_thrown v_z v_saved v_savedMany v_spare v_buffer v_typed v_marksBlown v_rests v_begins c7 c8 c9 c10 c11 v_before v_hash 59 hc61) q887 q888 q38 q75 q889 1 hdX5_takes ⟨Nat.le_of_ble_eq_true rfl, Nat.le_of_ble_eq_true rfl⟩ ⟨Nat.le_of_ble_eq_true rfl, Nat.le_of_ble_eq_true rfl⟩ rfl rfl hl.1 (Nat.le_of_ble_eq_true rfl) hP hK hD (va_recv hK hP (ci := 4) (q0 := 0) rfl rfl) hS dX5_readBuffer_61 (fun H locs hPn hk hS => ?_)
            have hP : va_P (dC, dI) vwCl (wX5 cyI cyC ob a1 a2 a3 a4 a5 a6 a7 a8 v_thrown v_z v_saved v_savedMany v_spare v_buffer v_typed v_marksBlown v_rests v_begins c7 c8 c14 c15 c16 v_before v_hash) H := hPn
            have hD : va_D (k_A (wX5 cyI cyC ob a1 a2 a3 a4 a5 a6 a7 a8 v_thrown v_z v_saved v_savedMany v_spare v_buffer v_typed v_marksBlown v_rests v_begins v_orders v_orderMany v_spot v_wrong v_isShort v_before v_hash)) (wX5 cyI cyC ob a1 a2 a3 a4 a5 a6 a7 a8 v_thrown v_z v_saved v_savedMany v_spare v_buffer v_typed v_marksBlown v_rests v_begins c7 c8 c14 c15 c16 v_before v_hash) := k_Dm hD rfl
            refine lv_aload_n hx hb dX5_readBuffer_64 rfl (lv_at hl 1 rfl) ?_
            obtain ⟨x17, hc65, h⟩ := k_b1_e h
            refine g_callRI_V (As := []) (rest := []) hC (mX5_isFine l dC dI cyI cyC cyO ob a1 a2 a3 a4 a5 a6 a7 a8 v_thrown v_z v_saved v_savedMany v_spare v_buffer v_typed v_marksBlown v_rests v_begins c7 c8 c14 c15 c16 v_before v_hash hc65) q890 q891 q39 q75 q892 0 hdX5_isFine ⟨Nat.le_of_ble_eq_true rfl, Nat.le_of_ble_eq_true rfl⟩ ⟨Nat.le_of_ble_eq_true rfl, Nat.le_of_ble_eq_true rfl⟩ rfl rfl hl.1 (Nat.le_of_ble_eq_true rfl) hP hK (va_recv hK hP (ci := 4) (q0 := 0) rfl rfl) hS dX5_readBuffer_65 (fun H locs hk hS => ?_)
            have hP := k_kept hP hk
            refine lv_istore_n (lv' := [(1, .int x17), (0, .ref ob)]) hx hb dX5_readBuffer_68 rfl hl (by decide) rfl (fun ls hl => ?_)
            refine lv_goto (tgt := 22) hx hb dX5_readBuffer_69 (by decide) ?_
            exact ih22 x17 c7 c8 c14 c15 c16 _ _ _ h hP hS (lv_sub hl [1, 0] rfl)
        refine g_if_eq (tgt := 52) hx hb dX5_readBuffer_34 (by decide) h (fun h => ?_) (fun h => ?_)
        · refine lv_iconst (v := 0) hx hb dX5_readBuffer_52 (by decide) ?_
          exact J53 0 _ _ _ h hP hS (lv_sub hl [0] rfl)
        · refine lv_aload_n hx hb dX5_readBuffer_37 rfl (lv_at hl 0 rfl) ?_
          refine va_get (D := (dC, dI)) (ci := 4) (v := .int c9) (C := RX5) (T := TX5) (N := 17) hx hb hts iaX5 hown hK hP 0 rfl rfl 12 (by decide) (hts _ q728) (fun _ h9 => h9) rfl dX5_readBuffer_38 ?_
          refine lv_aload_n hx hb dX5_readBuffer_41 rfl (lv_at hl 0 rfl) ?_
          refine va_get (D := (dC, dI)) (ci := 4) (v := .int v_typed) (C := RX5) (T := TX5) (N := 17) hx hb hts iaX5 hown hK hP 0 rfl rfl 6 (by decide) (hts _ q722) (fun _ h9 => h9) rfl dX5_readBuffer_42 ?_
          refine g_icmp_ge (tgt := 52) hx hb dX5_readBuffer_45 (by decide) h (fun h => ?_) (fun h => ?_)
          · refine lv_iconst (v := 0) hx hb dX5_readBuffer_52 (by decide) ?_
            exact J53 0 _ _ _ h hP hS (lv_sub hl [0] rfl)
          · refine lv_iconst (v := 1) hx hb dX5_readBuffer_48 (by decide) ?_
            refine lv_goto (tgt := 53) hx hb dX5_readBuffer_49 (by decide) ?_
            exact J53 1 _ _ _ h hP hS (lv_sub hl [0] rfl)
  exact L22 5000 1 v_orders 0 0 (((-1))) 0 _ _ _ h hP hS (lv_sub hl [1, 0] rfl)
def fX5_firstError (v_thrown : Int32) (v_buffer : Nat → Int32) (v_typed : Int32) (v_rests : Nat → Int32) (v_begins : Nat → Int32) (v_orders : Nat → Int32) (v_orderMany : Int32) (v_spot : Int32) (v_wrong : Int32) (v_isShort : Int32) : Option (Int32 × Int32 × (Nat → Int32) × Int32 × Int32 × Int32 × Int32) :=
  k_b5 (fX5_readBuffer v_buffer v_typed v_rests v_begins v_orders v_orderMany v_spot v_wrong v_isShort) fun (c1 : Nat → Int32) (c2 : Int32) (c3 : Int32) (c4 : Int32) (c5 : Int32) =>
  k_if (c4 = ((-1)))
  (
    some (v_typed, 0, c1, c2, c3, c4, c5))
  (
    some (c4, 0, c1, c2, c3, c4, c5))
theorem hdX5_firstError : yX5_firstError.cls = RX5 ∧ yX5_firstError.cls ≠ "java/lang/invoke/MethodHandle" ∧ yX5_firstError.cls ≠ "java/lang/invoke/VarHandle" ∧ (parseMethodDescriptor yX5_firstError.desc).map (fun d => d.parameters.length) = some 0 := by decide +kernel
set_option maxRecDepth 100000 in
set_option maxHeartbeats 4000000 in
theorem mX5_firstError (l : Launch) (dC : Nat → ClassId) (dI : Nat → Nat → Nat) (cyI cyC cyO : ClassId) (ob a1 a2 a3 a4 a5 a6 a7 a8 : Nat) (v_thrown : Int32) (v_z : Nat → Int32) (v_saved : Nat → Int32) (v_savedMany : Int32) (v_spare : Nat → Int32) (v_buffer : Nat → Int32) (v_typed : Int32) (v_marksBlown : Int32) (v_rests : Nat → Int32) (v_begins : Nat → Int32) (v_orders : Nat → Int32) (v_orderMany : Int32) (v_spot : Int32) (v_wrong : Int32) (v_isShort : Int32) (v_before : Nat → Int32) (v_hash : Int64)  {r : Int32} {r_thrown : Int32} {r_orders : Nat → Int32} {r_orderMany : Int32} {r_spot : Int32} {r_wrong : Int32} {r_isShort : Int32} (hf : fX5_firstError v_thrown v_buffer v_typed v_rests v_begins v_orders v_orderMany v_spot v_wrong v_isShort = some (r, r_thrown, r_orders, r_orderMany, r_spot, r_wrong, r_isShort)) : MetMI l yX5_firstError cX5_firstError 1 (some .int) 5 106 [.ref ob] (dC, dI) (tyS cyI cyC cyO) (wX5 cyI cyC ob a1 a2 a3 a4 a5 a6 a7 a8 v_thrown v_z v_saved v_savedMany v_spare v_buffer v_typed v_marksBlown v_rests v_begins v_orders v_orderMany v_spot v_wrong v_isShort v_before v_hash) (wX5 cyI cyC ob a1 a2 a3 a4 a5 a6 a7 a8 r_thrown v_z v_saved v_savedMany v_spare v_buffer v_typed v_marksBlown v_rests v_begins r_orders r_orderMany r_spot r_wrong r_isShort v_before v_hash) r := by
  refine metMI_of (by decide) (Nat.le_of_ble_eq_true rfl) ?_
  intro p e s m below meth c ls hC hr hlk hP hK hD hl
  have hC : CallFix p m c cX5_firstError 1 s [.ref ob].toArray wA RX5 := hC
  obtain ⟨hx, hb, hml, hown, hts⟩ := id hC
  have hS : va_S (k_A (wX5 cyI cyC ob a1 a2 a3 a4 a5 a6 a7 a8 v_thrown v_z v_saved v_savedMany v_spare v_buffer v_typed v_marksBlown v_rests v_begins v_orders v_orderMany v_spot v_wrong v_isShort v_before v_hash)) s.heap s.heap [] := va_S.rf
  have hl : lv_has ls 1 [(0, .ref ob)] := hl
  have h := hf
  unfold fX5_firstError at h
  obtain ⟨H, hH⟩ : ∃ H, H = s.heap := ⟨_, rfl⟩
  obtain ⟨locs, hlo⟩ : ∃ locs : List Loc, locs = [] := ⟨_, rfl⟩
  rw [← hH] at hP
  rw [← hlo] at hS
  have hS : va_S (k_A (wX5 cyI cyC ob a1 a2 a3 a4 a5 a6 a7 a8 v_thrown v_z v_saved v_savedMany v_spare v_buffer v_typed v_marksBlown v_rests v_begins v_orders v_orderMany v_spot v_wrong v_isShort v_before v_hash)) s.heap H locs := by rw [hH]; exact hS
  show W p l e (k_rm 5 106) s m [.ref ob].toArray below meth c s.heap [] 0 0 _ _
  rw [← hlo, ← hH]
  refine lv_aload_n hx hb dX5_firstError_0 rfl (lv_at hl 0 rfl) ?_
  refine lv_iconst (v := 0) hx hb dX5_firstError_1 (by decide) ?_
  refine va_put (D := (dC, dI)) (ci := 4) (v := .int 0) (ty := .int) (C := RX5) (T := TX5) (N := 17) hx hb hts iaX5 tyX5 tyX5_ok nmX5 hown hK hP hD hS 0 rfl rfl 0 (by decide) (hts _ q716) (fun _ h9 => h9) rfl (by decide +kernel) rfl rfl (Nat.le_of_ble_eq_true rfl) dX5_firstError_2 (fun H locs hP _ hS => ?_)
  have hP : va_P (dC, dI) vwCl (wX5 cyI cyC ob a1 a2 a3 a4 a5 a6 a7 a8 0 v_z v_saved v_savedMany v_spare v_buffer v_typed v_marksBlown v_rests v_begins v_orders v_orderMany v_spot v_wrong v_isShort v_before v_hash) H := hP
  have hD : va_D (k_A (wX5 cyI cyC ob a1 a2 a3 a4 a5 a6 a7 a8 v_thrown v_z v_saved v_savedMany v_spare v_buffer v_typed v_marksBlown v_rests v_begins v_orders v_orderMany v_spot v_wrong v_isShort v_before v_hash)) (wX5 cyI cyC ob a1 a2 a3 a4 a5 a6 a7 a8 0 v_z v_saved v_savedMany v_spare v_buffer v_typed v_marksBlown v_rests v_begins v_orders v_orderMany v_spot v_wrong v_isShort v_before v_hash) := k_Dm hD rfl
  refine lv_aload_n hx hb dX5_firstError_5 rfl (lv_at hl 0 rfl) ?_
  obtain ⟨c1, c2, c3, c4, c5, hc6, h⟩ := k_b5_e h
  refine g_callMV_V (As := []) (rest := []) hC (mX5_readBuffer l dC dI cyI cyC cyO ob a1 a2 a3 a4 a5 a6 a7 a8 0 v_z v_saved v_savedMany v_spare v_buffer v_typed v_marksBlown v_rests v_begins v_orders v_orderMany v_spot v_wrong v_isShort v_before v_hash hc6) q872 q873 q33 q75 q874 0 hdX5_readBuffer ⟨Nat.le_of_ble_eq_true rfl, Nat.le_of_ble_eq_true rfl⟩ ⟨Nat.le_of_ble_eq_true rfl, Nat.le_of_ble_eq_true rfl⟩ rfl rfl hl.1 (Nat.le_of_ble_eq_true rfl) hP hK hD (va_recv hK hP (ci := 4) (q0 := 0) rfl rfl) hS dX5_firstError_6 (fun H locs hPn hk hS => ?_)
  have hP : va_P (dC, dI) vwCl (wX5 cyI cyC ob a1 a2 a3 a4 a5 a6 a7 a8 0 v_z v_saved v_savedMany v_spare v_buffer v_typed v_marksBlown v_rests v_begins c1 c2 c3 c4 c5 v_before v_hash) H := hPn
  have hD : va_D (k_A (wX5 cyI cyC ob a1 a2 a3 a4 a5 a6 a7 a8 v_thrown v_z v_saved v_savedMany v_spare v_buffer v_typed v_marksBlown v_rests v_begins v_orders v_orderMany v_spot v_wrong v_isShort v_before v_hash)) (wX5 cyI cyC ob a1 a2 a3 a4 a5 a6 a7 a8 0 v_z v_saved v_savedMany v_spare v_buffer v_typed v_marksBlown v_rests v_begins c1 c2 c3 c4 c5 v_before v_hash) := k_Dm hD rfl
  refine lv_aload_n hx hb dX5_firstError_9 rfl (lv_at hl 0 rfl) ?_
  refine va_get (D := (dC, dI)) (ci := 4) (v := .int c4) (C := RX5) (T := TX5) (N := 17) hx hb hts iaX5 hown hK hP 0 rfl rfl 13 (by decide) (hts _ q729) (fun _ h9 => h9) rfl dX5_firstError_10 ?_
  refine lv_iconst (v := (-1)) hx hb dX5_firstError_13 (by decide) ?_
  refine g_icmp_ne (tgt := 24) hx hb dX5_firstError_14 (by decide) h (fun h => ?_) (fun h => ?_)
  · refine lv_aload_n hx hb dX5_firstError_24 rfl (lv_at hl 0 rfl) ?_
    refine va_get (D := (dC, dI)) (ci := 4) (v := .int c4) (C := RX5) (T := TX5) (N := 17) hx hb hts iaX5 hown hK hP 0 rfl rfl 13 (by decide) (hts _ q729) (fun _ h9 => h9) rfl dX5_firstError_25 ?_
    obtain ⟨e0, e1, e2, e3, e4, e5, e6⟩ := k_t7 h
    exact g_retMI hx hb hr hlk hS e0 (by rw [← e1, ← e2, ← e3, ← e4, ← e5, ← e6]; exact hP) dX5_firstError_28
  · refine lv_aload_n hx hb dX5_firstError_17 rfl (lv_at hl 0 rfl) ?_
    refine va_get (D := (dC, dI)) (ci := 4) (v := .int v_typed) (C := RX5) (T := TX5) (N := 17) hx hb hts iaX5 hown hK hP 0 rfl rfl 6 (by decide) (hts _ q722) (fun _ h9 => h9) rfl dX5_firstError_18 ?_
    refine lv_goto (tgt := 28) hx hb dX5_firstError_21 (by decide) ?_
    obtain ⟨e0, e1, e2, e3, e4, e5, e6⟩ := k_t7 h
    exact g_retMI hx hb hr hlk hS e0 (by rw [← e1, ← e2, ← e3, ← e4, ← e5, ← e6]; exact hP) dX5_firstError_28
def fX5_does (v_z : Nat → Int32) (v_marksBlown : Int32) (v_orders : Nat → Int32) (p1 : Int32) : Option (Int32 × (Nat → Int32) × Int32) :=
  k_let (3 * p1) fun (x1 : Int32) =>
  k_let (x1 + 1) fun (x2 : Int32) =>
  k_ck x2 48 <| k_let (v_orders x2.toNatClampNeg) fun (x3 : Int32) =>
  k_let (3 * p1) fun (x4 : Int32) =>
  k_ck x4 48 <| k_let (v_orders x4.toNatClampNeg) fun (x5 : Int32) =>
  k_if (x5 = 0)
  (
    k_let (3 * p1) fun (x6 : Int32) =>
    k_let (x6 + 2) fun (x7 : Int32) =>
    k_ck x7 48 <| k_let (v_orders x7.toNatClampNeg) fun (x8 : Int32) =>
    k_b1 (fX5_whyNotPut v_z x3 x8) fun (x9 : Int32) =>
    k_if (x9 ≤ 0)
    (
      k_b1 (fX5_nextRow v_z) fun (x10 : Int32) =>
      k_let (3 * p1) fun (x11 : Int32) =>
      k_let (x11 + 2) fun (x12 : Int32) =>
      k_ck x12 48 <| k_let (v_orders x12.toNatClampNeg) fun (x13 : Int32) =>
      k_b3 (fX5_putInto v_z v_marksBlown x10 x3 x13) fun (x14 : Int32) (c15 : Nat → Int32) (c16 : Int32) =>
      some (1, c15, c16))
    (
      some (0, v_z, v_marksBlown)))
  (
    k_if (x5 = 1)
    (
      k_b1 (fX5_whyNotChange v_z x3) fun (x17 : Int32) =>
      k_if (x17 ≤ 0)
      (
        k_b1 (fX5_blowOne v_z x3 15 3) fun (c18 : Nat → Int32) =>
        some (1, c18, v_marksBlown))
      (
        some (0, v_z, v_marksBlown)))
    (
      k_if (x5 = 2)
      (
        k_b2 (fX5_heatAll v_z x3) fun (x19 : Int32) (c20 : Nat → Int32) =>
        some (1, c20, v_marksBlown))
      (
        k_if (x5 = 3)
        (
          k_ck (0 : Int32) 327 <| k_let (v_z (0 : Int32).toNatClampNeg) fun (x21 : Int32) =>
          k_let (x21 + x3) fun (x22 : Int32) =>
          k_if (x22 ≤ 9999)
          (
            k_ck (0 : Int32) 327 <| k_let (v_z (0 : Int32).toNatClampNeg) fun (x23 : Int32) =>
            k_let (x23 + x3) fun (x24 : Int32) =>
            k_ck (0 : Int32) 327 <| k_let (upd v_z (0 : Int32).toNatClampNeg x24) fun (c25 : Nat → Int32) =>
            some (1, c25, v_marksBlown))
          (
            some (0, v_z, v_marksBlown)))
        (
          k_b1 (fX5_whyNotChange v_z x3) fun (x26 : Int32) =>
          k_if (x26 ≤ 0)
          (
            k_b2 (fX5_refreshAll v_z x3) fun (x27 : Int32) (c28 : Nat → Int32) =>
            some (1, c28, v_marksBlown))
          (
            some (0, v_z, v_marksBlown))))))
theorem hdX5_does : yX5_does.cls = RX5 ∧ yX5_does.cls ≠ "java/lang/invoke/MethodHandle" ∧ yX5_does.cls ≠ "java/lang/invoke/VarHandle" ∧ (parseMethodDescriptor yX5_does.desc).map (fun d => d.parameters.length) = some 1 := by decide +kernel
set_option maxRecDepth 100000 in
set_option maxHeartbeats 4000000 in
theorem mX5_does (l : Launch) (dC : Nat → ClassId) (dI : Nat → Nat → Nat) (cyI cyC cyO : ClassId) (ob a1 a2 a3 a4 a5 a6 a7 a8 : Nat) (v_thrown : Int32) (v_z : Nat → Int32) (v_saved : Nat → Int32) (v_savedMany : Int32) (v_spare : Nat → Int32) (v_buffer : Nat → Int32) (v_typed : Int32) (v_marksBlown : Int32) (v_rests : Nat → Int32) (v_begins : Nat → Int32) (v_orders : Nat → Int32) (v_orderMany : Int32) (v_spot : Int32) (v_wrong : Int32) (v_isShort : Int32) (v_before : Nat → Int32) (v_hash : Int64) (p1 : Int32) {r : Int32} {r_z : Nat → Int32} {r_marksBlown : Int32} (hf : fX5_does v_z v_marksBlown v_orders p1 = some (r, r_z, r_marksBlown)) : MetMI l yX5_does cX5_does 3 (some .boolean) 8 192 [.ref ob, .int p1] (dC, dI) (tyS cyI cyC cyO) (wX5 cyI cyC ob a1 a2 a3 a4 a5 a6 a7 a8 v_thrown v_z v_saved v_savedMany v_spare v_buffer v_typed v_marksBlown v_rests v_begins v_orders v_orderMany v_spot v_wrong v_isShort v_before v_hash) (wX5 cyI cyC ob a1 a2 a3 a4 a5 a6 a7 a8 v_thrown r_z v_saved v_savedMany v_spare v_buffer v_typed r_marksBlown v_rests v_begins v_orders v_orderMany v_spot v_wrong v_isShort v_before v_hash) r := by
  refine metMI_of (by decide) (Nat.le_of_ble_eq_true rfl) ?_
  intro p e s m below meth c ls hC hr hlk hP hK hD hl
  have hC : CallFix p m c cX5_does 3 s [.ref ob, .int p1].toArray wA RX5 := hC
  obtain ⟨hx, hb, hml, hown, hts⟩ := id hC
  have hS : va_S (k_A (wX5 cyI cyC ob a1 a2 a3 a4 a5 a6 a7 a8 v_thrown v_z v_saved v_savedMany v_spare v_buffer v_typed v_marksBlown v_rests v_begins v_orders v_orderMany v_spot v_wrong v_isShort v_before v_hash)) s.heap s.heap [] := va_S.rf
  have hl : lv_has ls 3 [(0, .ref ob), (1, .int p1)] := hl
  have h := hf
  unfold fX5_does at h
  obtain ⟨H, hH⟩ : ∃ H, H = s.heap := ⟨_, rfl⟩
  obtain ⟨locs, hlo⟩ : ∃ locs : List Loc, locs = [] := ⟨_, rfl⟩
  rw [← hH] at hP
  rw [← hlo] at hS
  have hS : va_S (k_A (wX5 cyI cyC ob a1 a2 a3 a4 a5 a6 a7 a8 v_thrown v_z v_saved v_savedMany v_spare v_buffer v_typed v_marksBlown v_rests v_begins v_orders v_orderMany v_spot v_wrong v_isShort v_before v_hash)) s.heap H locs := by rw [hH]; exact hS
  show W p l e (k_rm 8 192) s m [.ref ob, .int p1].toArray below meth c s.heap [] 0 0 _ _
  rw [← hlo, ← hH]
  refine lv_aload_n hx hb dX5_does_0 rfl (lv_at hl 0 rfl) ?_
  refine va_get (D := (dC, dI)) (ci := 4) (v := .ref a7) (C := RX5) (T := TX5) (N := 17) hx hb hts iaX5 hown hK hP 0 rfl rfl 10 (by decide) (hts _ q726) (fun _ h9 => h9) rfl dX5_does_1 ?_
  refine lv_iconst (v := 3) hx hb dX5_does_4 (by decide) ?_
  refine lv_iload_n hx hb dX5_does_5 rfl (lv_at hl 1 rfl) ?_
  refine g_imul hx hb dX5_does_6 h (fun x1 h => ?_)
  refine lv_iconst (v := 1) hx hb dX5_does_7 (by decide) ?_
  refine g_iadd hx hb dX5_does_8 h (fun x2 h => ?_)
  refine g_iald hx hb hK hP 7 0 rfl rfl dX5_does_9 h (fun x3 h => ?_)
  refine lv_istore_n (lv' := [(2, .int x3), (0, .ref ob), (1, .int p1)]) hx hb dX5_does_10 rfl hl (by decide) rfl (fun ls hl => ?_)
  refine lv_aload_n hx hb dX5_does_11 rfl (lv_at hl 1 rfl) ?_
  refine va_get (D := (dC, dI)) (ci := 4) (v := .ref a7) (C := RX5) (T := TX5) (N := 17) hx hb hts iaX5 hown hK hP 0 rfl rfl 10 (by decide) (hts _ q726) (fun _ h9 => h9) rfl dX5_does_12 ?_
  refine lv_iconst (v := 3) hx hb dX5_does_15 (by decide) ?_
  refine lv_iload_n hx hb dX5_does_16 rfl (lv_at hl 2 rfl) ?_
  refine g_imul hx hb dX5_does_17 h (fun x4 h => ?_)
  refine g_iald hx hb hK hP 7 0 rfl rfl dX5_does_18 h (fun x5 h => ?_)
  refine g_arm (v := 0) (off := 29) (tgt := 48) hx hb dX5_does_19 (by decide) (by decide) (by decide +kernel) (by decide) h (fun _ h => ?_) (fun n0 h => ?_)
  · refine lv_aload_n hx hb dX5_does_48 rfl (lv_at hl 1 rfl) ?_
    refine lv_iload_n hx hb dX5_does_49 rfl (lv_at hl 0 rfl) ?_
    refine lv_aload_n hx hb dX5_does_50 rfl (lv_at hl 1 rfl) ?_
    refine va_get (D := (dC, dI)) (ci := 4) (v := .ref a7) (C := RX5) (T := TX5) (N := 17) hx hb hts iaX5 hown hK hP 0 rfl rfl 10 (by decide) (hts _ q726) (fun _ h9 => h9) rfl dX5_does_51 ?_
    refine lv_iconst (v := 3) hx hb dX5_does_54 (by decide) ?_
    refine lv_iload_n hx hb dX5_does_55 rfl (lv_at hl 2 rfl) ?_
    refine g_imul hx hb dX5_does_56 h (fun x6 h => ?_)
    refine lv_iconst (v := 2) hx hb dX5_does_57 (by decide) ?_
    refine g_iadd hx hb dX5_does_58 h (fun x7 h => ?_)
    refine g_iald hx hb hK hP 7 0 rfl rfl dX5_does_59 h (fun x8 h => ?_)
    obtain ⟨x9, hc60, h⟩ := k_b1_e h
    refine g_callRI_V (As := [.int x3, .int x8]) (rest := []) hC (mX5_whyNotPut l dC dI cyI cyC cyO ob a1 a2 a3 a4 a5 a6 a7 a8 v_thrown v_z v_saved v_savedMany v_spare v_buffer v_typed v_marksBlown v_rests v_begins v_orders v_orderMany v_spot v_wrong v_isShort v_before v_hash x3 x8 hc60) q773 q774 q20 q75 q775 2 hdX5_whyNotPut ⟨Nat.le_of_ble_eq_true rfl, Nat.le_of_ble_eq_true rfl⟩ ⟨Nat.le_of_ble_eq_true rfl, Nat.le_of_ble_eq_true rfl⟩ rfl rfl hl.1 (Nat.le_of_ble_eq_true rfl) hP hK (va_recv hK hP (ci := 4) (q0 := 0) rfl rfl) hS dX5_does_60 (fun H locs hk hS => ?_)
    have hP := k_kept hP hk
    refine g_if_le (tgt := 68) hx hb dX5_does_63 (by decide) h (fun h => ?_) (fun h => ?_)
    · refine lv_aload_n hx hb dX5_does_68 rfl (lv_at hl 1 rfl) ?_
      refine lv_aload_n hx hb dX5_does_69 rfl (lv_at hl 1 rfl) ?_
      obtain ⟨x10, hc70, h⟩ := k_b1_e h
      refine g_callRI_V (As := []) (rest := [.ref ob]) hC (mX5_nextRow l dC dI cyI cyC cyO ob a1 a2 a3 a4 a5 a6 a7 a8 v_thrown v_z v_saved v_savedMany v_spare v_buffer v_typed v_marksBlown v_rests v_begins v_orders v_orderMany v_spot v_wrong v_isShort v_before v_hash hc70) q779 q780 q21 q75 q781 0 hdX5_nextRow ⟨Nat.le_of_ble_eq_true rfl, Nat.le_of_ble_eq_true rfl⟩ ⟨Nat.le_of_ble_eq_true rfl, Nat.le_of_ble_eq_true rfl⟩ rfl rfl hl.1 (Nat.le_of_ble_eq_true rfl) hP hK (va_recv hK hP (ci := 4) (q0 := 0) rfl rfl) hS dX5_does_70 (fun H locs hk hS => ?_)
      have hP := k_kept hP hk
      refine lv_iload_n hx hb dX5_does_73 rfl (lv_at hl 0 rfl) ?_
      refine lv_aload_n hx hb dX5_does_74 rfl (lv_at hl 1 rfl) ?_
      refine va_get (D := (dC, dI)) (ci := 4) (v := .ref a7) (C := RX5) (T := TX5) (N := 17) hx hb hts iaX5 hown hK hP 0 rfl rfl 10 (by decide) (hts _ q726) (fun _ h9 => h9) rfl dX5_does_75 ?_
      refine lv_iconst (v := 3) hx hb dX5_does_78 (by decide) ?_
      refine lv_iload_n hx hb dX5_does_79 rfl (lv_at hl 2 rfl) ?_
      refine g_imul hx hb dX5_does_80 h (fun x11 h => ?_)
      refine lv_iconst (v := 2) hx hb dX5_does_81 (by decide) ?_
      refine g_iadd hx hb dX5_does_82 h (fun x12 h => ?_)
      refine g_iald hx hb hK hP 7 0 rfl rfl dX5_does_83 h (fun x13 h => ?_)
      obtain ⟨x14, c15, c16, hc84, h⟩ := k_b3_e h
      refine g_callMI_V (As := [.int x10, .int x3, .int x13]) (rest := []) hC (mX5_putInto l dC dI cyI cyC cyO ob a1 a2 a3 a4 a5 a6 a7 a8 v_thrown v_z v_saved v_savedMany v_spare v_buffer v_typed v_marksBlown v_rests v_begins v_orders v_orderMany v_spot v_wrong v_isShort v_before v_hash x10 x3 x13 hc84) q794 q795 q26 q75 q796 3 hdX5_putInto ⟨Nat.le_of_ble_eq_true rfl, Nat.le_of_ble_eq_true rfl⟩ ⟨Nat.le_of_ble_eq_true rfl, Nat.le_of_ble_eq_true rfl⟩ rfl rfl hl.1 (Nat.le_of_ble_eq_true rfl) hP hK hD (va_recv hK hP (ci := 4) (q0 := 0) rfl rfl) hS dX5_does_84 (fun H locs hPn hk hS => ?_)
      have hP : va_P (dC, dI) vwCl (wX5 cyI cyC ob a1 a2 a3 a4 a5 a6 a7 a8 v_thrown c15 v_saved v_savedMany v_spare v_buffer v_typed c16 v_rests v_begins v_orders v_orderMany v_spot v_wrong v_isShort v_before v_hash) H := hPn
      have hD : va_D (k_A (wX5 cyI cyC ob a1 a2 a3 a4 a5 a6 a7 a8 v_thrown v_z v_saved v_savedMany v_spare v_buffer v_typed v_marksBlown v_rests v_begins v_orders v_orderMany v_spot v_wrong v_isShort v_before v_hash)) (wX5 cyI cyC ob a1 a2 a3 a4 a5 a6 a7 a8 v_thrown c15 v_saved v_savedMany v_spare v_buffer v_typed c16 v_rests v_begins v_orders v_orderMany v_spot v_wrong v_isShort v_before v_hash) := k_Dm hD rfl
      refine lv_pop hx hb dX5_does_87 rfl ?_
      refine lv_iconst (v := 1) hx hb dX5_does_88 (by decide) ?_
      obtain ⟨e0, e1, e2⟩ := k_t3 h
      exact g_retMZ hx hb hr (by decide +kernel) hlk hS e0 (by rw [← e1, ← e2]; exact hP) dX5_does_89
    · refine lv_iconst (v := 0) hx hb dX5_does_66 (by decide) ?_
      obtain ⟨e0, e1, e2⟩ := k_t3 h
      exact g_retMZ hx hb hr (by decide +kernel) hlk hS e0 (by rw [← e1, ← e2]; exact hP) dX5_does_67
  · skip
    refine g_arm (v := 1) (off := 71) (tgt := 90) hx hb dX5_does_19 (by decide) (by decide) (by decide +kernel) (by decide) h (fun _ h => ?_) (fun n1 h => ?_)
    · refine lv_aload_n hx hb dX5_does_90 rfl (lv_at hl 1 rfl) ?_
      refine lv_iload_n hx hb dX5_does_91 rfl (lv_at hl 0 rfl) ?_
      obtain ⟨x17, hc92, h⟩ := k_b1_e h
      refine g_callRI_V (As := [.int x3]) (rest := []) hC (mX5_whyNotChange l dC dI cyI cyC cyO ob a1 a2 a3 a4 a5 a6 a7 a8 v_thrown v_z v_saved v_savedMany v_spare v_buffer v_typed v_marksBlown v_rests v_begins v_orders v_orderMany v_spot v_wrong v_isShort v_before v_hash x3 hc92) q826 q827 q29 q75 q828 1 hdX5_whyNotChange ⟨Nat.le_of_ble_eq_true rfl, Nat.le_of_ble_eq_true rfl⟩ ⟨Nat.le_of_ble_eq_true rfl, Nat.le_of_ble_eq_true rfl⟩ rfl rfl hl.1 (Nat.le_of_ble_eq_true rfl) hP hK (va_recv hK hP (ci := 4) (q0 := 0) rfl rfl) hS dX5_does_92 (fun H locs hk hS => ?_)
      have hP := k_kept hP hk
      refine g_if_le (tgt := 100) hx hb dX5_does_95 (by decide) h (fun h => ?_) (fun h => ?_)
      · refine lv_aload_n hx hb dX5_does_100 rfl (lv_at hl 1 rfl) ?_
        refine lv_iload_n hx hb dX5_does_101 rfl (lv_at hl 0 rfl) ?_
        refine lv_bipush (v := 15) hx hb dX5_does_102 (by decide) ?_
        refine lv_iconst (v := 3) hx hb dX5_does_104 (by decide) ?_
        obtain ⟨c18, hc105, h⟩ := k_b1_e h
        refine g_callMV_V (As := [.int x3, .int 15, .int 3]) (rest := []) hC (mX5_blowOne l dC dI cyI cyC cyO ob a1 a2 a3 a4 a5 a6 a7 a8 v_thrown v_z v_saved v_savedMany v_spare v_buffer v_typed v_marksBlown v_rests v_begins v_orders v_orderMany v_spot v_wrong v_isShort v_before v_hash x3 15 3 hc105) q766 q767 q19 q75 q768 3 hdX5_blowOne ⟨Nat.le_of_ble_eq_true rfl, Nat.le_of_ble_eq_true rfl⟩ ⟨Nat.le_of_ble_eq_true rfl, Nat.le_of_ble_eq_true rfl⟩ rfl rfl hl.1 (Nat.le_of_ble_eq_true rfl) hP hK hD (va_recv hK hP (ci := 4) (q0 := 0) rfl rfl) hS dX5_does_105 (fun H locs hPn hk hS => ?_)
        have hP : va_P (dC, dI) vwCl (wX5 cyI cyC ob a1 a2 a3 a4 a5 a6 a7 a8 v_thrown c18 v_saved v_savedMany v_spare v_buffer v_typed v_marksBlown v_rests v_begins v_orders v_orderMany v_spot v_wrong v_isShort v_before v_hash) H := hPn
        have hD : va_D (k_A (wX5 cyI cyC ob a1 a2 a3 a4 a5 a6 a7 a8 v_thrown v_z v_saved v_savedMany v_spare v_buffer v_typed v_marksBlown v_rests v_begins v_orders v_orderMany v_spot v_wrong v_isShort v_before v_hash)) (wX5 cyI cyC ob a1 a2 a3 a4 a5 a6 a7 a8 v_thrown c18 v_saved v_savedMany v_spare v_buffer v_typed v_marksBlown v_rests v_begins v_orders v_orderMany v_spot v_wrong v_isShort v_before v_hash) := k_Dm hD rfl
        refine lv_iconst (v := 1) hx hb dX5_does_108 (by decide) ?_
        obtain ⟨e0, e1, e2⟩ := k_t3 h
        exact g_retMZ hx hb hr (by decide +kernel) hlk hS e0 (by rw [← e1, ← e2]; exact hP) dX5_does_109
      · refine lv_iconst (v := 0) hx hb dX5_does_98 (by decide) ?_
        obtain ⟨e0, e1, e2⟩ := k_t3 h
        exact g_retMZ hx hb hr (by decide +kernel) hlk hS e0 (by rw [← e1, ← e2]; exact hP) dX5_does_99
    · skip
      refine g_arm (v := 2) (off := 91) (tgt := 110) hx hb dX5_does_19 (by decide) (by decide) (by decide +kernel) (by decide) h (fun _ h => ?_) (fun n2 h => ?_)
      · refine lv_aload_n hx hb dX5_does_110 rfl (lv_at hl 1 rfl) ?_
        refine lv_iload_n hx hb dX5_does_111 rfl (lv_at hl 0 rfl) ?_
        obtain ⟨x19, c20, hc112, h⟩ := k_b2_e h
        refine g_callMI_V (As := [.int x3]) (rest := []) hC (mX5_heatAll l dC dI cyI cyC cyO ob a1 a2 a3 a4 a5 a6 a7 a8 v_thrown v_z v_saved v_savedMany v_spare v_buffer v_typed v_marksBlown v_rests v_begins v_orders v_orderMany v_spot v_wrong v_isShort v_before v_hash x3 hc112) q843 q844 q32 q75 q845 1 hdX5_heatAll ⟨Nat.le_of_ble_eq_true rfl, Nat.le_of_ble_eq_true rfl⟩ ⟨Nat.le_of_ble_eq_true rfl, Nat.le_of_ble_eq_true rfl⟩ rfl rfl hl.1 (Nat.le_of_ble_eq_true rfl) hP hK hD (va_recv hK hP (ci := 4) (q0 := 0) rfl rfl) hS dX5_does_112 (fun H locs hPn hk hS => ?_)
        have hP : va_P (dC, dI) vwCl (wX5 cyI cyC ob a1 a2 a3 a4 a5 a6 a7 a8 v_thrown c20 v_saved v_savedMany v_spare v_buffer v_typed v_marksBlown v_rests v_begins v_orders v_orderMany v_spot v_wrong v_isShort v_before v_hash) H := hPn
        have hD : va_D (k_A (wX5 cyI cyC ob a1 a2 a3 a4 a5 a6 a7 a8 v_thrown v_z v_saved v_savedMany v_spare v_buffer v_typed v_marksBlown v_rests v_begins v_orders v_orderMany v_spot v_wrong v_isShort v_before v_hash)) (wX5 cyI cyC ob a1 a2 a3 a4 a5 a6 a7 a8 v_thrown c20 v_saved v_savedMany v_spare v_buffer v_typed v_marksBlown v_rests v_begins v_orders v_orderMany v_spot v_wrong v_isShort v_before v_hash) := k_Dm hD rfl
        refine lv_pop hx hb dX5_does_115 rfl ?_
        refine lv_iconst (v := 1) hx hb dX5_does_116 (by decide) ?_
        obtain ⟨e0, e1, e2⟩ := k_t3 h
        exact g_retMZ hx hb hr (by decide +kernel) hlk hS e0 (by rw [← e1, ← e2]; exact hP) dX5_does_117
      · skip
        refine g_arm (v := 3) (off := 99) (tgt := 118) hx hb dX5_does_19 (by decide) (by decide) (by decide +kernel) (by decide) h (fun _ h => ?_) (fun n3 h => ?_)
        · refine lv_aload_n hx hb dX5_does_118 rfl (lv_at hl 1 rfl) ?_
          refine va_get (D := (dC, dI)) (ci := 4) (v := .ref a1) (C := RX5) (T := TX5) (N := 17) hx hb hts iaX5 hown hK hP 0 rfl rfl 1 (by decide) (hts _ q717) (fun _ h9 => h9) rfl dX5_does_119 ?_
          refine lv_iconst (v := 0) hx hb dX5_does_122 (by decide) ?_
          refine g_iald hx hb hK hP 1 0 rfl rfl dX5_does_123 h (fun x21 h => ?_)
          refine lv_iload_n hx hb dX5_does_124 rfl (lv_at hl 0 rfl) ?_
          refine g_iadd hx hb dX5_does_125 h (fun x22 h => ?_)
          refine lv_sipush (v := 9999) hx hb dX5_does_126 (by decide) ?_
          refine g_icmp_le (tgt := 134) hx hb dX5_does_129 (by decide) h (fun h => ?_) (fun h => ?_)
          · refine lv_aload_n hx hb dX5_does_134 rfl (lv_at hl 1 rfl) ?_
            refine va_get (D := (dC, dI)) (ci := 4) (v := .ref a1) (C := RX5) (T := TX5) (N := 17) hx hb hts iaX5 hown hK hP 0 rfl rfl 1 (by decide) (hts _ q717) (fun _ h9 => h9) rfl dX5_does_135 ?_
            refine lv_iconst (v := 0) hx hb dX5_does_138 (by decide) ?_
            refine lv_dup2_11 hx hb dX5_does_139 rfl rfl ?_
            refine g_iald hx hb hK hP 1 0 rfl rfl dX5_does_140 h (fun x23 h => ?_)
            refine lv_iload_n hx hb dX5_does_141 rfl (lv_at hl 0 rfl) ?_
            refine g_iadd hx hb dX5_does_142 h (fun x24 h => ?_)
            refine g_iast hx hb hK hP hD hS 1 0 rfl rfl dX5_does_143 h (fun c25 H locs h hP hS => ?_)
            have hP : va_P (dC, dI) vwCl (wX5 cyI cyC ob a1 a2 a3 a4 a5 a6 a7 a8 v_thrown c25 v_saved v_savedMany v_spare v_buffer v_typed v_marksBlown v_rests v_begins v_orders v_orderMany v_spot v_wrong v_isShort v_before v_hash) H := hP
            have hD : va_D (k_A (wX5 cyI cyC ob a1 a2 a3 a4 a5 a6 a7 a8 v_thrown v_z v_saved v_savedMany v_spare v_buffer v_typed v_marksBlown v_rests v_begins v_orders v_orderMany v_spot v_wrong v_isShort v_before v_hash)) (wX5 cyI cyC ob a1 a2 a3 a4 a5 a6 a7 a8 v_thrown c25 v_saved v_savedMany v_spare v_buffer v_typed v_marksBlown v_rests v_begins v_orders v_orderMany v_spot v_wrong v_isShort v_before v_hash) := k_Dm hD rfl
            refine lv_iconst (v := 1) hx hb dX5_does_144 (by decide) ?_
            obtain ⟨e0, e1, e2⟩ := k_t3 h
            exact g_retMZ hx hb hr (by decide +kernel) hlk hS e0 (by rw [← e1, ← e2]; exact hP) dX5_does_145
          · refine lv_iconst (v := 0) hx hb dX5_does_132 (by decide) ?_
            obtain ⟨e0, e1, e2⟩ := k_t3 h
            exact g_retMZ hx hb hr (by decide +kernel) hlk hS e0 (by rw [← e1, ← e2]; exact hP) dX5_does_133
        · skip
          refine lv_tableOut (tgt := 146) hx hb dX5_does_19 (by have z0 := g_ne (z := 0) (by decide) n0; have z1 := g_ne (z := 1) (by decide) n1; have z2 := g_ne (z := 2) (by decide) n2; have z3 := g_ne (z := 3) (by decide) n3; omega) (by decide) ?_
          refine lv_aload_n hx hb dX5_does_146 rfl (lv_at hl 1 rfl) ?_
          refine lv_iload_n hx hb dX5_does_147 rfl (lv_at hl 0 rfl) ?_
          obtain ⟨x26, hc148, h⟩ := k_b1_e h
          refine g_callRI_V (As := [.int x3]) (rest := []) hC (mX5_whyNotChange l dC dI cyI cyC cyO ob a1 a2 a3 a4 a5 a6 a7 a8 v_thrown v_z v_saved v_savedMany v_spare v_buffer v_typed v_marksBlown v_rests v_begins v_orders v_orderMany v_spot v_wrong v_isShort v_before v_hash x3 hc148) q826 q827 q29 q75 q828 1 hdX5_whyNotChange ⟨Nat.le_of_ble_eq_true rfl, Nat.le_of_ble_eq_true rfl⟩ ⟨Nat.le_of_ble_eq_true rfl, Nat.le_of_ble_eq_true rfl⟩ rfl rfl hl.1 (Nat.le_of_ble_eq_true rfl) hP hK (va_recv hK hP (ci := 4) (q0 := 0) rfl rfl) hS dX5_does_148 (fun H locs hk hS => ?_)
          have hP := k_kept hP hk
          refine g_if_le (tgt := 156) hx hb dX5_does_151 (by decide) h (fun h => ?_) (fun h => ?_)
          · refine lv_aload_n hx hb dX5_does_156 rfl (lv_at hl 1 rfl) ?_
            refine lv_iload_n hx hb dX5_does_157 rfl (lv_at hl 0 rfl) ?_
            obtain ⟨x27, c28, hc158, h⟩ := k_b2_e h
            refine g_callMI_V (As := [.int x3]) (rest := []) hC (mX5_refreshAll l dC dI cyI cyC cyO ob a1 a2 a3 a4 a5 a6 a7 a8 v_thrown v_z v_saved v_savedMany v_spare v_buffer v_typed v_marksBlown v_rests v_begins v_orders v_orderMany v_spot v_wrong v_isShort v_before v_hash x3 hc158) q836 q837 q31 q75 q838 1 hdX5_refreshAll ⟨Nat.le_of_ble_eq_true rfl, Nat.le_of_ble_eq_true rfl⟩ ⟨Nat.le_of_ble_eq_true rfl, Nat.le_of_ble_eq_true rfl⟩ rfl rfl hl.1 (Nat.le_of_ble_eq_true rfl) hP hK hD (va_recv hK hP (ci := 4) (q0 := 0) rfl rfl) hS dX5_does_158 (fun H locs hPn hk hS => ?_)
            have hP : va_P (dC, dI) vwCl (wX5 cyI cyC ob a1 a2 a3 a4 a5 a6 a7 a8 v_thrown c28 v_saved v_savedMany v_spare v_buffer v_typed v_marksBlown v_rests v_begins v_orders v_orderMany v_spot v_wrong v_isShort v_before v_hash) H := hPn
            have hD : va_D (k_A (wX5 cyI cyC ob a1 a2 a3 a4 a5 a6 a7 a8 v_thrown v_z v_saved v_savedMany v_spare v_buffer v_typed v_marksBlown v_rests v_begins v_orders v_orderMany v_spot v_wrong v_isShort v_before v_hash)) (wX5 cyI cyC ob a1 a2 a3 a4 a5 a6 a7 a8 v_thrown c28 v_saved v_savedMany v_spare v_buffer v_typed v_marksBlown v_rests v_begins v_orders v_orderMany v_spot v_wrong v_isShort v_before v_hash) := k_Dm hD rfl
            refine lv_pop hx hb dX5_does_161 rfl ?_
            refine lv_iconst (v := 1) hx hb dX5_does_162 (by decide) ?_
            obtain ⟨e0, e1, e2⟩ := k_t3 h
            exact g_retMZ hx hb hr (by decide +kernel) hlk hS e0 (by rw [← e1, ← e2]; exact hP) dX5_does_163
          · refine lv_iconst (v := 0) hx hb dX5_does_154 (by decide) ?_
            obtain ⟨e0, e1, e2⟩ := k_t3 h
            exact g_retMZ hx hb hr (by decide +kernel) hlk hS e0 (by rw [← e1, ← e2]; exact hP) dX5_does_155
def fX5_run_s35 (c2 : Int32) (K57 : Int32 → (Nat → Int32) → Int32 → Option (Int32 × Int32 × (Nat → Int32) × (Nat → Int32) × Int32 × Int32 × Int32 × (Nat → Int32) × Int32 × Int32 × Int32 × Int32)) (c1 : Nat → Int32) (rec35 : Int32 → (Nat → Int32) → Int32 → Option (Int32 × Int32 × (Nat → Int32) × (Nat → Int32) × Int32 × Int32 × Int32 × (Nat → Int32) × Int32 × Int32 × Int32 × Int32)) (x13 : Int32) (c14 : Nat → Int32) (c15 : Int32) : Option (Int32 × Int32 × (Nat → Int32) × (Nat → Int32) × Int32 × Int32 × Int32 × (Nat → Int32) × Int32 × Int32 × Int32 × Int32) :=
  k_if (c2 ≤ x13)
  (
    K57 x13 c14 c15)
  (
    k_b3 (fX5_does c14 c15 c1 x13) fun (x16 : Int32) (c17 : Nat → Int32) (c18 : Int32) =>
    k_if (x16 = 0)
    (
      K57 x13 c17 c18)
    (
      k_let (x13 + 1) fun (x19 : Int32) =>
      rec35 x19 c17 c18))
def fX5_run (v_thrown : Int32) (v_z : Nat → Int32) (v_saved : Nat → Int32) (v_savedMany : Int32) (v_buffer : Nat → Int32) (v_typed : Int32) (v_marksBlown : Int32) (v_rests : Nat → Int32) (v_begins : Nat → Int32) (v_orders : Nat → Int32) (v_orderMany : Int32) (v_spot : Int32) (v_wrong : Int32) (v_isShort : Int32) : Option (Int32 × Int32 × (Nat → Int32) × (Nat → Int32) × Int32 × Int32 × Int32 × (Nat → Int32) × Int32 × Int32 × Int32 × Int32) :=
  k_b5 (fX5_readBuffer v_buffer v_typed v_rests v_begins v_orders v_orderMany v_spot v_wrong v_isShort) fun (c1 : Nat → Int32) (c2 : Int32) (c3 : Int32) (c4 : Int32) (c5 : Int32) =>
  k_b1 (fX5_isFine c4 c5) fun (x6 : Int32) =>
  k_j1
  (fun (x7 : Int32) =>
    k_if (x7 ≤ 0)
    (
      k_b2 (fX5_save v_z v_saved v_savedMany) fun (c8 : Nat → Int32) (c9 : Int32) =>
      k_j3
      (fun (x10 : Int32) (c11 : Nat → Int32) (c12 : Int32) =>
        some (x10, x7, c11, c8, c9, 0, c12, c1, c2, c3, c4, c5))
      (fun K57 =>
      k_l3 (fX5_run_s35 c2 K57 c1) 5000 0 v_z v_marksBlown))
    (
      some (0, x7, v_z, v_saved, v_savedMany, v_typed, v_marksBlown, c1, c2, c3, c4, c5)))
  (fun K17 =>
  k_if (x6 = 0)
  (
    K17 1)
  (
    K17 0))
theorem hdX5_run : yX5_run.cls = RX5 ∧ yX5_run.cls ≠ "java/lang/invoke/MethodHandle" ∧ yX5_run.cls ≠ "java/lang/invoke/VarHandle" ∧ (parseMethodDescriptor yX5_run.desc).map (fun d => d.parameters.length) = some 0 := by decide +kernel
set_option maxRecDepth 100000 in
set_option maxHeartbeats 4000000 in
theorem mX5_run (l : Launch) (dC : Nat → ClassId) (dI : Nat → Nat → Nat) (cyI cyC cyO : ClassId) (ob a1 a2 a3 a4 a5 a6 a7 a8 : Nat) (v_thrown : Int32) (v_z : Nat → Int32) (v_saved : Nat → Int32) (v_savedMany : Int32) (v_spare : Nat → Int32) (v_buffer : Nat → Int32) (v_typed : Int32) (v_marksBlown : Int32) (v_rests : Nat → Int32) (v_begins : Nat → Int32) (v_orders : Nat → Int32) (v_orderMany : Int32) (v_spot : Int32) (v_wrong : Int32) (v_isShort : Int32) (v_before : Nat → Int32) (v_hash : Int64)  {r : Int32} {r_thrown : Int32} {r_z : Nat → Int32} {r_saved : Nat → Int32} {r_savedMany : Int32} {r_typed : Int32} {r_marksBlown : Int32} {r_orders : Nat → Int32} {r_orderMany : Int32} {r_spot : Int32} {r_wrong : Int32} {r_isShort : Int32} (hf : fX5_run v_thrown v_z v_saved v_savedMany v_buffer v_typed v_marksBlown v_rests v_begins v_orders v_orderMany v_spot v_wrong v_isShort = some (r, r_thrown, r_z, r_saved, r_savedMany, r_typed, r_marksBlown, r_orders, r_orderMany, r_spot, r_wrong, r_isShort)) : MetMI l yX5_run cX5_run 2 (some .int) 9 214 [.ref ob] (dC, dI) (tyS cyI cyC cyO) (wX5 cyI cyC ob a1 a2 a3 a4 a5 a6 a7 a8 v_thrown v_z v_saved v_savedMany v_spare v_buffer v_typed v_marksBlown v_rests v_begins v_orders v_orderMany v_spot v_wrong v_isShort v_before v_hash) (wX5 cyI cyC ob a1 a2 a3 a4 a5 a6 a7 a8 r_thrown r_z r_saved r_savedMany v_spare v_buffer r_typed r_marksBlown v_rests v_begins r_orders r_orderMany r_spot r_wrong r_isShort v_before v_hash) r := by
  refine metMI_of (by decide) (Nat.le_of_ble_eq_true rfl) ?_
  intro p e s m below meth c ls hC hr hlk hP hK hD hl
  have hC : CallFix p m c cX5_run 2 s [.ref ob].toArray wA RX5 := hC
  obtain ⟨hx, hb, hml, hown, hts⟩ := id hC
  have hS : va_S (k_A (wX5 cyI cyC ob a1 a2 a3 a4 a5 a6 a7 a8 v_thrown v_z v_saved v_savedMany v_spare v_buffer v_typed v_marksBlown v_rests v_begins v_orders v_orderMany v_spot v_wrong v_isShort v_before v_hash)) s.heap s.heap [] := va_S.rf
  have hl : lv_has ls 2 [(0, .ref ob)] := hl
  have h := hf
  unfold fX5_run at h
  obtain ⟨H, hH⟩ : ∃ H, H = s.heap := ⟨_, rfl⟩
  obtain ⟨locs, hlo⟩ : ∃ locs : List Loc, locs = [] := ⟨_, rfl⟩
  rw [← hH] at hP
  rw [← hlo] at hS
  have hS : va_S (k_A (wX5 cyI cyC ob a1 a2 a3 a4 a5 a6 a7 a8 v_thrown v_z v_saved v_savedMany v_spare v_buffer v_typed v_marksBlown v_rests v_begins v_orders v_orderMany v_spot v_wrong v_isShort v_before v_hash)) s.heap H locs := by rw [hH]; exact hS
  show W p l e (k_rm 9 214) s m [.ref ob].toArray below meth c s.heap [] 0 0 _ _
  rw [← hlo, ← hH]
  refine lv_aload_n hx hb dX5_run_0 rfl (lv_at hl 0 rfl) ?_
  obtain ⟨c1, c2, c3, c4, c5, hc1, h⟩ := k_b5_e h
  refine g_callMV_V (As := []) (rest := []) hC (mX5_readBuffer l dC dI cyI cyC cyO ob a1 a2 a3 a4 a5 a6 a7 a8 v_thrown v_z v_saved v_savedMany v_spare v_buffer v_typed v_marksBlown v_rests v_begins v_orders v_orderMany v_spot v_wrong v_isShort v_before v_hash hc1) q872 q873 q33 q75 q874 0 hdX5_readBuffer ⟨Nat.le_of_ble_eq_true rfl, Nat.le_of_ble_eq_true rfl⟩ ⟨Nat.le_of_ble_eq_true rfl, Nat.le_of_ble_eq_true rfl⟩ rfl rfl hl.1 (Nat.le_of_ble_eq_true rfl) hP hK hD (va_recv hK hP (ci := 4) (q0 := 0) rfl rfl) hS dX5_run_1 (fun H locs hPn hk hS => ?_)
  have hP : va_P (dC, dI) vwCl (wX5 cyI cyC ob a1 a2 a3 a4 a5 a6 a7 a8 v_thrown v_z v_saved v_savedMany v_spare v_buffer v_typed v_marksBlown v_rests v_begins c1 c2 c3 c4 c5 v_before v_hash) H := hPn
  have hD : va_D (k_A (wX5 cyI cyC ob a1 a2 a3 a4 a5 a6 a7 a8 v_thrown v_z v_saved v_savedMany v_spare v_buffer v_typed v_marksBlown v_rests v_begins v_orders v_orderMany v_spot v_wrong v_isShort v_before v_hash)) (wX5 cyI cyC ob a1 a2 a3 a4 a5 a6 a7 a8 v_thrown v_z v_saved v_savedMany v_spare v_buffer v_typed v_marksBlown v_rests v_begins c1 c2 c3 c4 c5 v_before v_hash) := k_Dm hD rfl
  refine lv_aload_n hx hb dX5_run_4 rfl (lv_at hl 0 rfl) ?_
  refine lv_aload_n hx hb dX5_run_5 rfl (lv_at hl 0 rfl) ?_
  obtain ⟨x6, hc6, h⟩ := k_b1_e h
  refine g_callRI_V (As := []) (rest := [.ref ob]) hC (mX5_isFine l dC dI cyI cyC cyO ob a1 a2 a3 a4 a5 a6 a7 a8 v_thrown v_z v_saved v_savedMany v_spare v_buffer v_typed v_marksBlown v_rests v_begins c1 c2 c3 c4 c5 v_before v_hash hc6) q890 q891 q39 q75 q892 0 hdX5_isFine ⟨Nat.le_of_ble_eq_true rfl, Nat.le_of_ble_eq_true rfl⟩ ⟨Nat.le_of_ble_eq_true rfl, Nat.le_of_ble_eq_true rfl⟩ rfl rfl hl.1 (Nat.le_of_ble_eq_true rfl) hP hK (va_recv hK hP (ci := 4) (q0 := 0) rfl rfl) hS dX5_run_6 (fun H locs hk hS => ?_)
  have hP := k_kept hP hk
  obtain ⟨K17, hK17, h⟩ := k_j1_e h
  have J17 : ∀ (x7 : Int32) (H : Heap) (locs : List Loc) (ls : Array Slot), K17 x7 = some (r, r_thrown, r_z, r_saved, r_savedMany, r_typed, r_marksBlown, r_orders, r_orderMany, r_spot, r_wrong, r_isShort) → va_P (dC, dI) vwCl (wX5 cyI cyC ob a1 a2 a3 a4 a5 a6 a7 a8 v_thrown v_z v_saved v_savedMany v_spare v_buffer v_typed v_marksBlown v_rests v_begins c1 c2 c3 c4 c5 v_before v_hash) H → va_S (k_A (wX5 cyI cyC ob a1 a2 a3 a4 a5 a6 a7 a8 v_thrown v_z v_saved v_savedMany v_spare v_buffer v_typed v_marksBlown v_rests v_begins v_orders v_orderMany v_spot v_wrong v_isShort v_before v_hash)) s.heap H locs → lv_has ls 2 [(0, .ref ob)] → W p l e (k_rm 9 214) s m [.ref ob].toArray below meth c H locs 0 0 (MQ below (qMI r (dC, dI) (wX5 cyI cyC ob a1 a2 a3 a4 a5 a6 a7 a8 v_thrown v_z v_saved v_savedMany v_spare v_buffer v_typed v_marksBlown v_rests v_begins v_orders v_orderMany v_spot v_wrong v_isShort v_before v_hash) (wX5 cyI cyC ob a1 a2 a3 a4 a5 a6 a7 a8 r_thrown r_z r_saved r_savedMany v_spare v_buffer r_typed r_marksBlown v_rests v_begins r_orders r_orderMany r_spot r_wrong r_isShort v_before v_hash)) [.ref ob].toArray s 0 0 (k_A (wX5 cyI cyC ob a1 a2 a3 a4 a5 a6 a7 a8 v_thrown v_z v_saved v_savedMany v_spare v_buffer v_typed v_marksBlown v_rests v_begins v_orders v_orderMany v_spot v_wrong v_isShort v_before v_hash))) (F0 m 17 ls [.int x7, .ref ob]) := by
    intro x7 H locs ls h hP hS hl
    have h := k_a1 hK17 h
    refine va_put (D := (dC, dI)) (ci := 4) (v := .int x7) (ty := .int) (C := RX5) (T := TX5) (N := 17) hx hb hts iaX5 tyX5 tyX5_ok nmX5 hown hK hP hD hS 0 rfl rfl 0 (by decide) (hts _ q716) (fun _ h9 => h9) rfl (by decide +kernel) rfl rfl (Nat.le_of_ble_eq_true rfl) dX5_run_17 (fun H locs hP _ hS => ?_)
    have hP : va_P (dC, dI) vwCl (wX5 cyI cyC ob a1 a2 a3 a4 a5 a6 a7 a8 x7 v_z v_saved v_savedMany v_spare v_buffer v_typed v_marksBlown v_rests v_begins c1 c2 c3 c4 c5 v_before v_hash) H := hP
    have hD : va_D (k_A (wX5 cyI cyC ob a1 a2 a3 a4 a5 a6 a7 a8 v_thrown v_z v_saved v_savedMany v_spare v_buffer v_typed v_marksBlown v_rests v_begins v_orders v_orderMany v_spot v_wrong v_isShort v_before v_hash)) (wX5 cyI cyC ob a1 a2 a3 a4 a5 a6 a7 a8 x7 v_z v_saved v_savedMany v_spare v_buffer v_typed v_marksBlown v_rests v_begins c1 c2 c3 c4 c5 v_before v_hash) := k_Dm hD rfl
    refine lv_aload_n hx hb dX5_run_20 rfl (lv_at hl 0 rfl) ?_
    refine va_get (D := (dC, dI)) (ci := 4) (v := .int x7) (C := RX5) (T := TX5) (N := 17) hx hb hts iaX5 hown hK hP 0 rfl rfl 0 (by decide) (hts _ q716) (fun _ h9 => h9) rfl dX5_run_21 ?_
    refine g_if_le (tgt := 29) hx hb dX5_run_24 (by decide) h (fun h => ?_) (fun h => ?_)
    · refine lv_aload_n hx hb dX5_run_29 rfl (lv_at hl 0 rfl) ?_
      obtain ⟨c8, c9, hc30, h⟩ := k_b2_e h
      refine g_callMV_V (As := []) (rest := []) hC (mX5_save l dC dI cyI cyC cyO ob a1 a2 a3 a4 a5 a6 a7 a8 x7 v_z v_saved v_savedMany v_spare v_buffer v_typed v_marksBlown v_rests v_begins c1 c2 c3 c4 c5 v_before v_hash hc30) q763 q764 q18 q75 q765 0 hdX5_save ⟨Nat.le_of_ble_eq_true rfl, Nat.le_of_ble_eq_true rfl⟩ ⟨Nat.le_of_ble_eq_true rfl, Nat.le_of_ble_eq_true rfl⟩ rfl rfl hl.1 (Nat.le_of_ble_eq_true rfl) hP hK hD (va_recv hK hP (ci := 4) (q0 := 0) rfl rfl) hS dX5_run_30 (fun H locs hPn hk hS => ?_)
      have hP : va_P (dC, dI) vwCl (wX5 cyI cyC ob a1 a2 a3 a4 a5 a6 a7 a8 x7 v_z c8 c9 v_spare v_buffer v_typed v_marksBlown v_rests v_begins c1 c2 c3 c4 c5 v_before v_hash) H := hPn
      have hD : va_D (k_A (wX5 cyI cyC ob a1 a2 a3 a4 a5 a6 a7 a8 v_thrown v_z v_saved v_savedMany v_spare v_buffer v_typed v_marksBlown v_rests v_begins v_orders v_orderMany v_spot v_wrong v_isShort v_before v_hash)) (wX5 cyI cyC ob a1 a2 a3 a4 a5 a6 a7 a8 x7 v_z c8 c9 v_spare v_buffer v_typed v_marksBlown v_rests v_begins c1 c2 c3 c4 c5 v_before v_hash) := k_Dm hD rfl
      refine lv_iconst (v := 0) hx hb dX5_run_33 (by decide) ?_
      refine lv_istore_n (lv' := [(1, .int 0), (0, .ref ob)]) hx hb dX5_run_34 rfl hl (by decide) rfl (fun ls hl => ?_)
      obtain ⟨K57, hK57, h⟩ := k_j3_e h
      have J57 : ∀ (x10 : Int32) (c11 : Nat → Int32) (c12 : Int32) (H : Heap) (locs : List Loc) (ls : Array Slot), K57 x10 c11 c12 = some (r, r_thrown, r_z, r_saved, r_savedMany, r_typed, r_marksBlown, r_orders, r_orderMany, r_spot, r_wrong, r_isShort) → va_P (dC, dI) vwCl (wX5 cyI cyC ob a1 a2 a3 a4 a5 a6 a7 a8 x7 c11 c8 c9 v_spare v_buffer v_typed c12 v_rests v_begins c1 c2 c3 c4 c5 v_before v_hash) H → va_S (k_A (wX5 cyI cyC ob a1 a2 a3 a4 a5 a6 a7 a8 v_thrown v_z v_saved v_savedMany v_spare v_buffer v_typed v_marksBlown v_rests v_begins v_orders v_orderMany v_spot v_wrong v_isShort v_before v_hash)) s.heap H locs → lv_has ls 2 [(0, .ref ob), (1, .int x10)] → W p l e (k_rm 9 214) s m [.ref ob].toArray below meth c H locs 0 0 (MQ below (qMI r (dC, dI) (wX5 cyI cyC ob a1 a2 a3 a4 a5 a6 a7 a8 v_thrown v_z v_saved v_savedMany v_spare v_buffer v_typed v_marksBlown v_rests v_begins v_orders v_orderMany v_spot v_wrong v_isShort v_before v_hash) (wX5 cyI cyC ob a1 a2 a3 a4 a5 a6 a7 a8 r_thrown r_z r_saved r_savedMany v_spare v_buffer r_typed r_marksBlown v_rests v_begins r_orders r_orderMany r_spot r_wrong r_isShort v_before v_hash)) [.ref ob].toArray s 0 0 (k_A (wX5 cyI cyC ob a1 a2 a3 a4 a5 a6 a7 a8 v_thrown v_z v_saved v_savedMany v_spare v_buffer v_typed v_marksBlown v_rests v_begins v_orders v_orderMany v_spot v_wrong v_isShort v_before v_hash))) (F0 m 57 ls []) := by
        intro x10 c11 c12 H locs ls h hP hS hl
        have hD : va_D (k_A (wX5 cyI cyC ob a1 a2 a3 a4 a5 a6 a7 a8 v_thrown v_z v_saved v_savedMany v_spare v_buffer v_typed v_marksBlown v_rests v_begins v_orders v_orderMany v_spot v_wrong v_isShort v_before v_hash)) (wX5 cyI cyC ob a1 a2 a3 a4 a5 a6 a7 a8 x7 c11 c8 c9 v_spare v_buffer v_typed c12 v_rests v_begins c1 c2 c3 c4 c5 v_before v_hash) := k_Dm hD rfl
        have h := k_a3 hK57 h
        refine lv_aload_n hx hb dX5_run_57 rfl (lv_at hl 0 rfl) ?_
        refine lv_iconst (v := 0) hx hb dX5_run_58 (by decide) ?_
        refine va_put (D := (dC, dI)) (ci := 4) (v := .int 0) (ty := .int) (C := RX5) (T := TX5) (N := 17) hx hb hts iaX5 tyX5 tyX5_ok nmX5 hown hK hP hD hS 0 rfl rfl 6 (by decide) (hts _ q722) (fun _ h9 => h9) rfl (by decide +kernel) rfl rfl (Nat.le_of_ble_eq_true rfl) dX5_run_59 (fun H locs hP _ hS => ?_)
        have hP : va_P (dC, dI) vwCl (wX5 cyI cyC ob a1 a2 a3 a4 a5 a6 a7 a8 x7 c11 c8 c9 v_spare v_buffer 0 c12 v_rests v_begins c1 c2 c3 c4 c5 v_before v_hash) H := hP
        have hD : va_D (k_A (wX5 cyI cyC ob a1 a2 a3 a4 a5 a6 a7 a8 v_thrown v_z v_saved v_savedMany v_spare v_buffer v_typed v_marksBlown v_rests v_begins v_orders v_orderMany v_spot v_wrong v_isShort v_before v_hash)) (wX5 cyI cyC ob a1 a2 a3 a4 a5 a6 a7 a8 x7 c11 c8 c9 v_spare v_buffer 0 c12 v_rests v_begins c1 c2 c3 c4 c5 v_before v_hash) := k_Dm hD rfl
        refine lv_iload_n hx hb dX5_run_62 rfl (lv_at hl 1 rfl) ?_
        obtain ⟨e0, e1, e2, e3, e4, e5, e6, e7, e8, e9, e10, e11⟩ := k_t12 h
        exact g_retMI hx hb hr hlk hS e0 (by rw [← e1, ← e2, ← e3, ← e4, ← e5, ← e6, ← e7, ← e8, ← e9, ← e10, ← e11]; exact hP) dX5_run_63
      obtain ⟨S35, hS35⟩ : ∃ z, z = (fX5_run_s35 c2 K57 c1) := ⟨_, rfl⟩
      rw [← hS35] at h
      have L35 : ∀ (n : Nat) (x13 : Int32) (c14 : Nat → Int32) (c15 : Int32) (H : Heap) (locs : List Loc) (ls : Array Slot), k_l3 S35 n x13 c14 c15 = some (r, r_thrown, r_z, r_saved, r_savedMany, r_typed, r_marksBlown, r_orders, r_orderMany, r_spot, r_wrong, r_isShort) → va_P (dC, dI) vwCl (wX5 cyI cyC ob a1 a2 a3 a4 a5 a6 a7 a8 x7 c14 c8 c9 v_spare v_buffer v_typed c15 v_rests v_begins c1 c2 c3 c4 c5 v_before v_hash) H → va_S (k_A (wX5 cyI cyC ob a1 a2 a3 a4 a5 a6 a7 a8 v_thrown v_z v_saved v_savedMany v_spare v_buffer v_typed v_marksBlown v_rests v_begins v_orders v_orderMany v_spot v_wrong v_isShort v_before v_hash)) s.heap H locs → lv_has ls 2 [(0, .ref ob), (1, .int x13)] → W p l e (k_rm 9 214) s m [.ref ob].toArray below meth c H locs 0 0 (MQ below (qMI r (dC, dI) (wX5 cyI cyC ob a1 a2 a3 a4 a5 a6 a7 a8 v_thrown v_z v_saved v_savedMany v_spare v_buffer v_typed v_marksBlown v_rests v_begins v_orders v_orderMany v_spot v_wrong v_isShort v_before v_hash) (wX5 cyI cyC ob a1 a2 a3 a4 a5 a6 a7 a8 r_thrown r_z r_saved r_savedMany v_spare v_buffer r_typed r_marksBlown v_rests v_begins r_orders r_orderMany r_spot r_wrong r_isShort v_before v_hash)) [.ref ob].toArray s 0 0 (k_A (wX5 cyI cyC ob a1 a2 a3 a4 a5 a6 a7 a8 v_thrown v_z v_saved v_savedMany v_spare v_buffer v_typed v_marksBlown v_rests v_begins v_orders v_orderMany v_spot v_wrong v_isShort v_before v_hash))) (F0 m 35 ls []) := by
        intro n
        induction n with
        | zero =>
          intro x13 c14 c15 H locs ls h
          exact (k_l3_0 h).elim
        | succ n ih35 =>
          intro x13 c14 c15 H locs ls h hP hS hl
          have hD : va_D (k_A (wX5 cyI cyC ob a1 a2 a3 a4 a5 a6 a7 a8 v_thrown v_z v_saved v_savedMany v_spare v_buffer v_typed v_marksBlown v_rests v_begins v_orders v_orderMany v_spot v_wrong v_isShort v_before v_hash)) (wX5 cyI cyC ob a1 a2 a3 a4 a5 a6 a7 a8 x7 c14 c8 c9 v_spare v_buffer v_typed c15 v_rests v_begins c1 c2 c3 c4 c5 v_before v_hash) := k_Dm hD rfl
          have h := k_l3_s h
          have h := k_a4 hS35 h
          unfold fX5_run_s35 at h
          refine lv_iload_n hx hb dX5_run_35 rfl (lv_at hl 1 rfl) ?_
          refine lv_aload_n hx hb dX5_run_36 rfl (lv_at hl 0 rfl) ?_
          refine va_get (D := (dC, dI)) (ci := 4) (v := .int c2) (C := RX5) (T := TX5) (N := 17) hx hb hts iaX5 hown hK hP 0 rfl rfl 11 (by decide) (hts _ q727) (fun _ h9 => h9) rfl dX5_run_37 ?_
          refine g_icmp_ge (tgt := 57) hx hb dX5_run_40 (by decide) h (fun h => ?_) (fun h => ?_)
          · exact J57 x13 c14 c15 _ _ _ h hP hS (lv_sub hl [0, 1] rfl)
          · refine lv_aload_n hx hb dX5_run_43 rfl (lv_at hl 0 rfl) ?_
            refine lv_iload_n hx hb dX5_run_44 rfl (lv_at hl 1 rfl) ?_
            obtain ⟨x16, c17, c18, hc45, h⟩ := k_b3_e h
            refine g_callMI_V (As := [.int x13]) (rest := []) hC (mX5_does l dC dI cyI cyC cyO ob a1 a2 a3 a4 a5 a6 a7 a8 x7 c14 c8 c9 v_spare v_buffer v_typed c15 v_rests v_begins c1 c2 c3 c4 c5 v_before v_hash x13 hc45) q900 q901 q41 q75 q902 1 hdX5_does ⟨Nat.le_of_ble_eq_true rfl, Nat.le_of_ble_eq_true rfl⟩ ⟨Nat.le_of_ble_eq_true rfl, Nat.le_of_ble_eq_true rfl⟩ rfl rfl hl.1 (Nat.le_of_ble_eq_true rfl) hP hK hD (va_recv hK hP (ci := 4) (q0 := 0) rfl rfl) hS dX5_run_45 (fun H locs hPn hk hS => ?_)
            have hP : va_P (dC, dI) vwCl (wX5 cyI cyC ob a1 a2 a3 a4 a5 a6 a7 a8 x7 c17 c8 c9 v_spare v_buffer v_typed c18 v_rests v_begins c1 c2 c3 c4 c5 v_before v_hash) H := hPn
            have hD : va_D (k_A (wX5 cyI cyC ob a1 a2 a3 a4 a5 a6 a7 a8 v_thrown v_z v_saved v_savedMany v_spare v_buffer v_typed v_marksBlown v_rests v_begins v_orders v_orderMany v_spot v_wrong v_isShort v_before v_hash)) (wX5 cyI cyC ob a1 a2 a3 a4 a5 a6 a7 a8 x7 c17 c8 c9 v_spare v_buffer v_typed c18 v_rests v_begins c1 c2 c3 c4 c5 v_before v_hash) := k_Dm hD rfl
            refine g_if_eq (tgt := 57) hx hb dX5_run_48 (by decide) h (fun h => ?_) (fun h => ?_)
            · exact J57 x13 c17 c18 _ _ _ h hP hS (lv_sub hl [0, 1] rfl)
            · refine g_iinc (dv := 1) hx hb dX5_run_51 hl (j := 1) rfl (by decide) (by decide) h (fun x19 ls h hl => ?_)
              have hl : lv_has ls 2 [(1, .int x19), (0, .ref ob)] := hl
              refine lv_goto (tgt := 35) hx hb dX5_run_54 (by decide) ?_
              exact ih35 x19 c17 c18 _ _ _ h hP hS (lv_sub hl [1, 0] rfl)
      exact L35 5000 0 v_z v_marksBlown _ _ _ h hP hS (lv_sub hl [1, 0] rfl)
    · refine lv_iconst (v := 0) hx hb dX5_run_27 (by decide) ?_
      obtain ⟨e0, e1, e2, e3, e4, e5, e6, e7, e8, e9, e10, e11⟩ := k_t12 h
      exact g_retMI hx hb hr hlk hS e0 (by rw [← e1, ← e2, ← e3, ← e4, ← e5, ← e6, ← e7, ← e8, ← e9, ← e10, ← e11]; exact hP) dX5_run_28
  refine g_if_eq (tgt := 16) hx hb dX5_run_9 (by decide) h (fun h => ?_) (fun h => ?_)
  · refine lv_iconst (v := 1) hx hb dX5_run_16 (by decide) ?_
    exact J17 1 _ _ _ h hP hS (lv_sub hl [0] rfl)
  · refine lv_iconst (v := 0) hx hb dX5_run_12 (by decide) ?_
    refine lv_goto (tgt := 17) hx hb dX5_run_13 (by decide) ?_
    exact J17 0 _ _ _ h hP hS (lv_sub hl [0] rfl)
def fX5_fuse (v_thrown : Int32) (v_z : Nat → Int32) (p1 : Int32) (p2 : Int32) (p3 : Int32) : Option (Int32 × Int32) :=
  k_b1 (fX5_isRow p1) fun (x1 : Int32) =>
  k_j1
  (fun (x2 : Int32) =>
    k_if (x2 ≤ 0)
    (
      k_if (p3 = 0)
      (
        k_b1 (fX5_strength v_z p1 p2) fun (x6 : Int32) =>
        some (x6, x2))
      (
        k_ck (0 : Int32) 327 <| k_let (v_z (0 : Int32).toNatClampNeg) fun (x3 : Int32) =>
        k_j1
        (fun (x4 : Int32) =>
          k_b1 (fX5_reads v_z p1 p2 x3 x4) fun (x5 : Int32) =>
          some (x5, x2))
        (fun K80 =>
        k_if (p3 = 2)
        (
          K80 1)
        (
          K80 0))))
    (
      some (0, x2)))
  (fun K36 =>
  k_if (x1 = 0)
  (
    K36 1)
  (
    k_b1 (fX5_in p2 0 15) fun (x7 : Int32) =>
    k_if (x7 = 0)
    (
      K36 1)
    (
      k_b1 (fX5_in p3 0 2) fun (x8 : Int32) =>
      k_if (x8 = 0)
      (
        K36 2)
      (
        K36 0))))
theorem hdX5_fuse : yX5_fuse.cls = RX5 ∧ yX5_fuse.cls ≠ "java/lang/invoke/MethodHandle" ∧ yX5_fuse.cls ≠ "java/lang/invoke/VarHandle" ∧ (parseMethodDescriptor yX5_fuse.desc).map (fun d => d.parameters.length) = some 3 := by decide +kernel
set_option maxRecDepth 100000 in
set_option maxHeartbeats 4000000 in
theorem mX5_fuse (l : Launch) (dC : Nat → ClassId) (dI : Nat → Nat → Nat) (cyI cyC cyO : ClassId) (ob a1 a2 a3 a4 a5 a6 a7 a8 : Nat) (v_thrown : Int32) (v_z : Nat → Int32) (v_saved : Nat → Int32) (v_savedMany : Int32) (v_spare : Nat → Int32) (v_buffer : Nat → Int32) (v_typed : Int32) (v_marksBlown : Int32) (v_rests : Nat → Int32) (v_begins : Nat → Int32) (v_orders : Nat → Int32) (v_orderMany : Int32) (v_spot : Int32) (v_wrong : Int32) (v_isShort : Int32) (v_before : Nat → Int32) (v_hash : Int64) (p1 : Int32) (p2 : Int32) (p3 : Int32) {r : Int32} {r_thrown : Int32} (hf : fX5_fuse v_thrown v_z p1 p2 p3 = some (r, r_thrown)) : MetMI l yX5_fuse cX5_fuse 4 (some .int) 4 92 [.ref ob, .int p1, .int p2, .int p3] (dC, dI) (tyS cyI cyC cyO) (wX5 cyI cyC ob a1 a2 a3 a4 a5 a6 a7 a8 v_thrown v_z v_saved v_savedMany v_spare v_buffer v_typed v_marksBlown v_rests v_begins v_orders v_orderMany v_spot v_wrong v_isShort v_before v_hash) (wX5 cyI cyC ob a1 a2 a3 a4 a5 a6 a7 a8 r_thrown v_z v_saved v_savedMany v_spare v_buffer v_typed v_marksBlown v_rests v_begins v_orders v_orderMany v_spot v_wrong v_isShort v_before v_hash) r := by
  refine metMI_of (by decide) (Nat.le_of_ble_eq_true rfl) ?_
  intro p e s m below meth c ls hC hr hlk hP hK hD hl
  have hC : CallFix p m c cX5_fuse 4 s [.ref ob, .int p1, .int p2, .int p3].toArray wA RX5 := hC
  obtain ⟨hx, hb, hml, hown, hts⟩ := id hC
  have hS : va_S (k_A (wX5 cyI cyC ob a1 a2 a3 a4 a5 a6 a7 a8 v_thrown v_z v_saved v_savedMany v_spare v_buffer v_typed v_marksBlown v_rests v_begins v_orders v_orderMany v_spot v_wrong v_isShort v_before v_hash)) s.heap s.heap [] := va_S.rf
  have hl : lv_has ls 4 [(0, .ref ob), (1, .int p1), (2, .int p2), (3, .int p3)] := hl
  have h := hf
  unfold fX5_fuse at h
  obtain ⟨H, hH⟩ : ∃ H, H = s.heap := ⟨_, rfl⟩
  obtain ⟨locs, hlo⟩ : ∃ locs : List Loc, locs = [] := ⟨_, rfl⟩
  rw [← hH] at hP
  rw [← hlo] at hS
  have hS : va_S (k_A (wX5 cyI cyC ob a1 a2 a3 a4 a5 a6 a7 a8 v_thrown v_z v_saved v_savedMany v_spare v_buffer v_typed v_marksBlown v_rests v_begins v_orders v_orderMany v_spot v_wrong v_isShort v_before v_hash)) s.heap H locs := by rw [hH]; exact hS
  show W p l e (k_rm 4 92) s m [.ref ob, .int p1, .int p2, .int p3].toArray below meth c s.heap [] 0 0 _ _
  rw [← hlo, ← hH]
  refine lv_aload_n hx hb dX5_fuse_0 rfl (lv_at hl 0 rfl) ?_
  refine lv_iload_n hx hb dX5_fuse_1 rfl (lv_at hl 1 rfl) ?_
  obtain ⟨x1, hc2, h⟩ := k_b1_e h
  refine g_callRI_S (As := [.int p1]) (rest := [.ref ob]) hC (mX5_isRow l dC dI cyI cyC cyO p1 hc2) q745 q746 q75 q747 1 hdX5_isRow ⟨Nat.le_of_ble_eq_true rfl, Nat.le_of_ble_eq_true rfl⟩ ⟨Nat.le_of_ble_eq_true rfl, Nat.le_of_ble_eq_true rfl⟩ rfl rfl hl.1 (Nat.le_of_ble_eq_true rfl) va_P_nil hK hS dX5_fuse_2 (fun H locs hk hS => ?_)
  have hP := k_kept hP hk
  obtain ⟨K36, hK36, h⟩ := k_j1_e h
  have J36 : ∀ (x2 : Int32) (H : Heap) (locs : List Loc) (ls : Array Slot), K36 x2 = some (r, r_thrown) → va_P (dC, dI) vwCl (wX5 cyI cyC ob a1 a2 a3 a4 a5 a6 a7 a8 v_thrown v_z v_saved v_savedMany v_spare v_buffer v_typed v_marksBlown v_rests v_begins v_orders v_orderMany v_spot v_wrong v_isShort v_before v_hash) H → va_S (k_A (wX5 cyI cyC ob a1 a2 a3 a4 a5 a6 a7 a8 v_thrown v_z v_saved v_savedMany v_spare v_buffer v_typed v_marksBlown v_rests v_begins v_orders v_orderMany v_spot v_wrong v_isShort v_before v_hash)) s.heap H locs → lv_has ls 4 [(0, .ref ob), (1, .int p1), (2, .int p2), (3, .int p3)] → W p l e (k_rm 4 92) s m [.ref ob, .int p1, .int p2, .int p3].toArray below meth c H locs 0 0 (MQ below (qMI r (dC, dI) (wX5 cyI cyC ob a1 a2 a3 a4 a5 a6 a7 a8 v_thrown v_z v_saved v_savedMany v_spare v_buffer v_typed v_marksBlown v_rests v_begins v_orders v_orderMany v_spot v_wrong v_isShort v_before v_hash) (wX5 cyI cyC ob a1 a2 a3 a4 a5 a6 a7 a8 r_thrown v_z v_saved v_savedMany v_spare v_buffer v_typed v_marksBlown v_rests v_begins v_orders v_orderMany v_spot v_wrong v_isShort v_before v_hash)) [.ref ob, .int p1, .int p2, .int p3].toArray s 0 0 (k_A (wX5 cyI cyC ob a1 a2 a3 a4 a5 a6 a7 a8 v_thrown v_z v_saved v_savedMany v_spare v_buffer v_typed v_marksBlown v_rests v_begins v_orders v_orderMany v_spot v_wrong v_isShort v_before v_hash))) (F0 m 36 ls [.int x2, .ref ob]) := by
    intro x2 H locs ls h hP hS hl
    have h := k_a1 hK36 h
    refine va_put (D := (dC, dI)) (ci := 4) (v := .int x2) (ty := .int) (C := RX5) (T := TX5) (N := 17) hx hb hts iaX5 tyX5 tyX5_ok nmX5 hown hK hP hD hS 0 rfl rfl 0 (by decide) (hts _ q716) (fun _ h9 => h9) rfl (by decide +kernel) rfl rfl (Nat.le_of_ble_eq_true rfl) dX5_fuse_36 (fun H locs hP _ hS => ?_)
    have hP : va_P (dC, dI) vwCl (wX5 cyI cyC ob a1 a2 a3 a4 a5 a6 a7 a8 x2 v_z v_saved v_savedMany v_spare v_buffer v_typed v_marksBlown v_rests v_begins v_orders v_orderMany v_spot v_wrong v_isShort v_before v_hash) H := hP
    have hD : va_D (k_A (wX5 cyI cyC ob a1 a2 a3 a4 a5 a6 a7 a8 v_thrown v_z v_saved v_savedMany v_spare v_buffer v_typed v_marksBlown v_rests v_begins v_orders v_orderMany v_spot v_wrong v_isShort v_before v_hash)) (wX5 cyI cyC ob a1 a2 a3 a4 a5 a6 a7 a8 x2 v_z v_saved v_savedMany v_spare v_buffer v_typed v_marksBlown v_rests v_begins v_orders v_orderMany v_spot v_wrong v_isShort v_before v_hash) := k_Dm hD rfl
    refine lv_aload_n hx hb dX5_fuse_39 rfl (lv_at hl 0 rfl) ?_
    refine va_get (D := (dC, dI)) (ci := 4) (v := .int x2) (C := RX5) (T := TX5) (N := 17) hx hb hts iaX5 hown hK hP 0 rfl rfl 0 (by decide) (hts _ q716) (fun _ h9 => h9) rfl dX5_fuse_40 ?_
    refine g_if_le (tgt := 48) hx hb dX5_fuse_43 (by decide) h (fun h => ?_) (fun h => ?_)
    · refine lv_iload_n hx hb dX5_fuse_48 rfl (lv_at hl 3 rfl) ?_
      refine g_if_ne (tgt := 61) hx hb dX5_fuse_49 (by decide) h (fun h => ?_) (fun h => ?_)
      · refine lv_aload_n hx hb dX5_fuse_61 rfl (lv_at hl 0 rfl) ?_
        refine lv_iload_n hx hb dX5_fuse_62 rfl (lv_at hl 1 rfl) ?_
        refine lv_iload_n hx hb dX5_fuse_63 rfl (lv_at hl 2 rfl) ?_
        refine lv_aload_n hx hb dX5_fuse_64 rfl (lv_at hl 0 rfl) ?_
        refine va_get (D := (dC, dI)) (ci := 4) (v := .ref a1) (C := RX5) (T := TX5) (N := 17) hx hb hts iaX5 hown hK hP 0 rfl rfl 1 (by decide) (hts _ q717) (fun _ h9 => h9) rfl dX5_fuse_65 ?_
        refine lv_iconst (v := 0) hx hb dX5_fuse_68 (by decide) ?_
        refine g_iald hx hb hK hP 1 0 rfl rfl dX5_fuse_69 h (fun x3 h => ?_)
        refine lv_iload_n hx hb dX5_fuse_70 rfl (lv_at hl 3 rfl) ?_
        refine lv_iconst (v := 2) hx hb dX5_fuse_71 (by decide) ?_
        obtain ⟨K80, hK80, h⟩ := k_j1_e h
        have J80 : ∀ (x4 : Int32) (H : Heap) (locs : List Loc) (ls : Array Slot), K80 x4 = some (r, r_thrown) → va_P (dC, dI) vwCl (wX5 cyI cyC ob a1 a2 a3 a4 a5 a6 a7 a8 x2 v_z v_saved v_savedMany v_spare v_buffer v_typed v_marksBlown v_rests v_begins v_orders v_orderMany v_spot v_wrong v_isShort v_before v_hash) H → va_S (k_A (wX5 cyI cyC ob a1 a2 a3 a4 a5 a6 a7 a8 v_thrown v_z v_saved v_savedMany v_spare v_buffer v_typed v_marksBlown v_rests v_begins v_orders v_orderMany v_spot v_wrong v_isShort v_before v_hash)) s.heap H locs → lv_has ls 4 [] → W p l e (k_rm 4 92) s m [.ref ob, .int p1, .int p2, .int p3].toArray below meth c H locs 0 0 (MQ below (qMI r (dC, dI) (wX5 cyI cyC ob a1 a2 a3 a4 a5 a6 a7 a8 v_thrown v_z v_saved v_savedMany v_spare v_buffer v_typed v_marksBlown v_rests v_begins v_orders v_orderMany v_spot v_wrong v_isShort v_before v_hash) (wX5 cyI cyC ob a1 a2 a3 a4 a5 a6 a7 a8 r_thrown v_z v_saved v_savedMany v_spare v_buffer v_typed v_marksBlown v_rests v_begins v_orders v_orderMany v_spot v_wrong v_isShort v_before v_hash)) [.ref ob, .int p1, .int p2, .int p3].toArray s 0 0 (k_A (wX5 cyI cyC ob a1 a2 a3 a4 a5 a6 a7 a8 v_thrown v_z v_saved v_savedMany v_spare v_buffer v_typed v_marksBlown v_rests v_begins v_orders v_orderMany v_spot v_wrong v_isShort v_before v_hash))) (F0 m 80 ls [.int x4, .int x3, .int p2, .int p1, .ref ob]) := by
          intro x4 H locs ls h hP hS hl
          have h := k_a1 hK80 h
          obtain ⟨x5, hc80, h⟩ := k_b1_e h
          refine g_callRI_V (As := [.int p1, .int p2, .int x3, .int x4]) (rest := []) hC (mX5_reads l dC dI cyI cyC cyO ob a1 a2 a3 a4 a5 a6 a7 a8 x2 v_z v_saved v_savedMany v_spare v_buffer v_typed v_marksBlown v_rests v_begins v_orders v_orderMany v_spot v_wrong v_isShort v_before v_hash p1 p2 x3 x4 hc80) q791 q792 q25 q75 q793 4 hdX5_reads ⟨Nat.le_of_ble_eq_true rfl, Nat.le_of_ble_eq_true rfl⟩ ⟨Nat.le_of_ble_eq_true rfl, Nat.le_of_ble_eq_true rfl⟩ rfl rfl hl.1 (Nat.le_of_ble_eq_true rfl) hP hK (va_recv hK hP (ci := 4) (q0 := 0) rfl rfl) hS dX5_fuse_80 (fun H locs hk hS => ?_)
          have hP := k_kept hP hk
          obtain ⟨e0, e1⟩ := k_t2 h
          exact g_retMI hx hb hr hlk hS e0 (by rw [← e1]; exact hP) dX5_fuse_83
        refine g_icmp_ne (tgt := 79) hx hb dX5_fuse_72 (by decide) h (fun h => ?_) (fun h => ?_)
        · refine lv_iconst (v := 0) hx hb dX5_fuse_79 (by decide) ?_
          exact J80 0 _ _ _ h hP hS (lv_sub hl [] rfl)
        · refine lv_iconst (v := 1) hx hb dX5_fuse_75 (by decide) ?_
          refine lv_goto (tgt := 80) hx hb dX5_fuse_76 (by decide) ?_
          exact J80 1 _ _ _ h hP hS (lv_sub hl [] rfl)
      · refine lv_aload_n hx hb dX5_fuse_52 rfl (lv_at hl 0 rfl) ?_
        refine lv_iload_n hx hb dX5_fuse_53 rfl (lv_at hl 1 rfl) ?_
        refine lv_iload_n hx hb dX5_fuse_54 rfl (lv_at hl 2 rfl) ?_
        obtain ⟨x6, hc55, h⟩ := k_b1_e h
        refine g_callRI_V (As := [.int p1, .int p2]) (rest := []) hC (mX5_strength l dC dI cyI cyC cyO ob a1 a2 a3 a4 a5 a6 a7 a8 x2 v_z v_saved v_savedMany v_spare v_buffer v_typed v_marksBlown v_rests v_begins v_orders v_orderMany v_spot v_wrong v_isShort v_before v_hash p1 p2 hc55) q760 q761 q17 q75 q762 2 hdX5_strength ⟨Nat.le_of_ble_eq_true rfl, Nat.le_of_ble_eq_true rfl⟩ ⟨Nat.le_of_ble_eq_true rfl, Nat.le_of_ble_eq_true rfl⟩ rfl rfl hl.1 (Nat.le_of_ble_eq_true rfl) hP hK (va_recv hK hP (ci := 4) (q0 := 0) rfl rfl) hS dX5_fuse_55 (fun H locs hk hS => ?_)
        have hP := k_kept hP hk
        refine lv_goto (tgt := 83) hx hb dX5_fuse_58 (by decide) ?_
        obtain ⟨e0, e1⟩ := k_t2 h
        exact g_retMI hx hb hr hlk hS e0 (by rw [← e1]; exact hP) dX5_fuse_83
    · refine lv_iconst (v := 0) hx hb dX5_fuse_46 (by decide) ?_
      obtain ⟨e0, e1⟩ := k_t2 h
      exact g_retMI hx hb hr hlk hS e0 (by rw [← e1]; exact hP) dX5_fuse_47
  refine g_if_eq (tgt := 18) hx hb dX5_fuse_5 (by decide) h (fun h => ?_) (fun h => ?_)
  · refine lv_iconst (v := 1) hx hb dX5_fuse_18 (by decide) ?_
    refine lv_goto (tgt := 36) hx hb dX5_fuse_19 (by decide) ?_
    exact J36 1 _ _ _ h hP hS (lv_sub hl [0, 1, 2, 3] rfl)
  · refine lv_iload_n hx hb dX5_fuse_8 rfl (lv_at hl 2 rfl) ?_
    refine lv_iconst (v := 0) hx hb dX5_fuse_9 (by decide) ?_
    refine lv_bipush (v := 15) hx hb dX5_fuse_10 (by decide) ?_
    obtain ⟨x7, hc12, h⟩ := k_b1_e h
    refine g_callRI_S (As := [.int p2, .int 0, .int 15]) (rest := [.ref ob]) hC (mX5_in l dC dI cyI cyC cyO p2 0 15 hc12) q748 q749 q75 q750 3 hdX5_in ⟨Nat.le_of_ble_eq_true rfl, Nat.le_of_ble_eq_true rfl⟩ ⟨Nat.le_of_ble_eq_true rfl, Nat.le_of_ble_eq_true rfl⟩ rfl rfl hl.1 (Nat.le_of_ble_eq_true rfl) va_P_nil hK hS dX5_fuse_12 (fun H locs hk hS => ?_)
    have hP := k_kept hP hk
    refine g_if_ne (tgt := 22) hx hb dX5_fuse_15 (by decide) h (fun h => ?_) (fun h => ?_)
    · refine lv_iload_n hx hb dX5_fuse_22 rfl (lv_at hl 3 rfl) ?_
      refine lv_iconst (v := 0) hx hb dX5_fuse_23 (by decide) ?_
      refine lv_iconst (v := 2) hx hb dX5_fuse_24 (by decide) ?_
      obtain ⟨x8, hc25, h⟩ := k_b1_e h
      refine g_callRI_S (As := [.int p3, .int 0, .int 2]) (rest := [.ref ob]) hC (mX5_in l dC dI cyI cyC cyO p3 0 2 hc25) q748 q749 q75 q750 3 hdX5_in ⟨Nat.le_of_ble_eq_true rfl, Nat.le_of_ble_eq_true rfl⟩ ⟨Nat.le_of_ble_eq_true rfl, Nat.le_of_ble_eq_true rfl⟩ rfl rfl hl.1 (Nat.le_of_ble_eq_true rfl) va_P_nil hK hS dX5_fuse_25 (fun H locs hk hS => ?_)
      have hP := k_kept hP hk
      refine g_if_eq (tgt := 35) hx hb dX5_fuse_28 (by decide) h (fun h => ?_) (fun h => ?_)
      · refine lv_iconst (v := 2) hx hb dX5_fuse_35 (by decide) ?_
        exact J36 2 _ _ _ h hP hS (lv_sub hl [0, 1, 2, 3] rfl)
      · refine lv_iconst (v := 0) hx hb dX5_fuse_31 (by decide) ?_
        refine lv_goto (tgt := 36) hx hb dX5_fuse_32 (by decide) ?_
        exact J36 0 _ _ _ h hP hS (lv_sub hl [0, 1, 2, 3] rfl)
    · refine lv_iconst (v := 1) hx hb dX5_fuse_18 (by decide) ?_
      refine lv_goto (tgt := 36) hx hb dX5_fuse_19 (by decide) ?_
      exact J36 1 _ _ _ h hP hS (lv_sub hl [0, 1, 2, 3] rfl)
def fX5_doubtful_s4 (v_z : Nat → Int32) (p1 : Int32) (rec4 : Int32 → Int32 → Option (Int32)) (x1 : Int32) (x2 : Int32) : Option (Int32) :=
  k_if (16 ≤ x2)
  (
    some x1)
  (
    k_b1 (fX5_strength v_z p1 x2) fun (x3 : Int32) =>
    k_b1 (fX5_in x3 1 2) fun (x4 : Int32) =>
    k_j1
    (fun (x5 : Int32) =>
      k_let (x1 + x5) fun (x6 : Int32) =>
      k_let (x2 + 1) fun (x7 : Int32) =>
      rec4 x6 x7)
    (fun K30 =>
    k_if (x4 = 0)
    (
      K30 0)
    (
      K30 1)))
def fX5_doubtful (v_z : Nat → Int32) (p1 : Int32) : Option (Int32) :=
  k_l2 (fX5_doubtful_s4 v_z p1) 5000 0 0
theorem hdX5_doubtful : yX5_doubtful.cls = RX5 ∧ yX5_doubtful.cls ≠ "java/lang/invoke/MethodHandle" ∧ yX5_doubtful.cls ≠ "java/lang/invoke/VarHandle" ∧ (parseMethodDescriptor yX5_doubtful.desc).map (fun d => d.parameters.length) = some 1 := by decide +kernel
set_option maxRecDepth 100000 in
set_option maxHeartbeats 4000000 in
theorem mX5_doubtful (l : Launch) (dC : Nat → ClassId) (dI : Nat → Nat → Nat) (cyI cyC cyO : ClassId) (ob a1 a2 a3 a4 a5 a6 a7 a8 : Nat) (v_thrown : Int32) (v_z : Nat → Int32) (v_saved : Nat → Int32) (v_savedMany : Int32) (v_spare : Nat → Int32) (v_buffer : Nat → Int32) (v_typed : Int32) (v_marksBlown : Int32) (v_rests : Nat → Int32) (v_begins : Nat → Int32) (v_orders : Nat → Int32) (v_orderMany : Int32) (v_spot : Int32) (v_wrong : Int32) (v_isShort : Int32) (v_before : Nat → Int32) (v_hash : Int64) (p1 : Int32) {r : Int32} (hf : fX5_doubtful v_z p1 = some r) : MetRI l yX5_doubtful cX5_doubtful 4 (some .int) 1 22 [.ref ob, .int p1] (dC, dI) (tyS cyI cyC cyO) (wX5 cyI cyC ob a1 a2 a3 a4 a5 a6 a7 a8 v_thrown v_z v_saved v_savedMany v_spare v_buffer v_typed v_marksBlown v_rests v_begins v_orders v_orderMany v_spot v_wrong v_isShort v_before v_hash) r := by
  refine metRI_of (by decide) (Nat.le_of_ble_eq_true rfl) ?_
  intro p e s m below meth c ls hC hr hlk hP hK hl
  have hC : CallFix p m c cX5_doubtful 4 s [.ref ob, .int p1].toArray wA RX5 := hC
  obtain ⟨hx, hb, hml, hown, hts⟩ := id hC
  have hS : va_S kF s.heap s.heap [] := va_S.rf
  have hl : lv_has ls 4 [(0, .ref ob), (1, .int p1)] := hl
  have h := hf
  unfold fX5_doubtful at h
  obtain ⟨H, hH⟩ : ∃ H, H = s.heap := ⟨_, rfl⟩
  obtain ⟨locs, hlo⟩ : ∃ locs : List Loc, locs = [] := ⟨_, rfl⟩
  rw [← hH] at hP
  rw [← hlo] at hS
  have hS : va_S kF s.heap H locs := by rw [hH]; exact hS
  show W p l e (k_rm 1 22) s m [.ref ob, .int p1].toArray below meth c s.heap [] 0 0 _ _
  rw [← hlo, ← hH]
  refine lv_iconst (v := 0) hx hb dX5_doubtful_0 (by decide) ?_
  refine lv_istore_n (lv' := [(2, .int 0), (0, .ref ob), (1, .int p1)]) hx hb dX5_doubtful_1 rfl hl (by decide) rfl (fun ls hl => ?_)
  refine lv_iconst (v := 0) hx hb dX5_doubtful_2 (by decide) ?_
  refine lv_istore_n (lv' := [(3, .int 0), (2, .int 0), (0, .ref ob), (1, .int p1)]) hx hb dX5_doubtful_3 rfl hl (by decide) rfl (fun ls hl => ?_)
  obtain ⟨S4, hS4⟩ : ∃ z, z = (fX5_doubtful_s4 v_z p1) := ⟨_, rfl⟩
  rw [← hS4] at h
  have L4 : ∀ (n : Nat) (x1 : Int32) (x2 : Int32) (H : Heap) (locs : List Loc) (ls : Array Slot), k_l2 S4 n x1 x2 = some r → va_P (dC, dI) vwCl (wX5 cyI cyC ob a1 a2 a3 a4 a5 a6 a7 a8 v_thrown v_z v_saved v_savedMany v_spare v_buffer v_typed v_marksBlown v_rests v_begins v_orders v_orderMany v_spot v_wrong v_isShort v_before v_hash) H → va_S kF s.heap H locs → lv_has ls 4 [(0, .ref ob), (1, .int p1), (2, .int x1), (3, .int x2)] → W p l e (k_rm 1 22) s m [.ref ob, .int p1].toArray below meth c H locs 0 0 (MQ below (qRI r) [.ref ob, .int p1].toArray s 0 0 kF) (F0 m 4 ls []) := by
    intro n
    induction n with
    | zero =>
      intro x1 x2 H locs ls h
      exact (k_l2_0 h).elim
    | succ n ih4 =>
      intro x1 x2 H locs ls h hP hS hl
      have h := k_l2_s h
      have h := k_a3 hS4 h
      unfold fX5_doubtful_s4 at h
      refine lv_iload_n hx hb dX5_doubtful_4 rfl (lv_at hl 3 rfl) ?_
      refine lv_bipush (v := 16) hx hb dX5_doubtful_5 (by decide) ?_
      refine g_icmp_ge (tgt := 38) hx hb dX5_doubtful_7 (by decide) h (fun h => ?_) (fun h => ?_)
      · refine lv_iload_n hx hb dX5_doubtful_38 rfl (lv_at hl 2 rfl) ?_
        exact g_retRI hx hb hr hlk hS h dX5_doubtful_39
      · refine lv_iload_n hx hb dX5_doubtful_10 rfl (lv_at hl 2 rfl) ?_
        refine lv_aload_n hx hb dX5_doubtful_11 rfl (lv_at hl 0 rfl) ?_
        refine lv_iload_n hx hb dX5_doubtful_12 rfl (lv_at hl 1 rfl) ?_
        refine lv_iload_n hx hb dX5_doubtful_13 rfl (lv_at hl 3 rfl) ?_
        obtain ⟨x3, hc14, h⟩ := k_b1_e h
        refine g_callRI_V (As := [.int p1, .int x2]) (rest := [.int x1]) hC (mX5_strength l dC dI cyI cyC cyO ob a1 a2 a3 a4 a5 a6 a7 a8 v_thrown v_z v_saved v_savedMany v_spare v_buffer v_typed v_marksBlown v_rests v_begins v_orders v_orderMany v_spot v_wrong v_isShort v_before v_hash p1 x2 hc14) q760 q761 q17 q75 q762 2 hdX5_strength ⟨Nat.le_of_ble_eq_true rfl, Nat.le_of_ble_eq_true rfl⟩ ⟨Nat.le_of_ble_eq_true rfl, Nat.le_of_ble_eq_true rfl⟩ rfl rfl hl.1 (Nat.le_of_ble_eq_true rfl) hP hK (va_recv hK hP (ci := 4) (q0 := 0) rfl rfl) hS dX5_doubtful_14 (fun H locs hk hS => ?_)
        have hP := k_kept hP hk
        refine lv_iconst (v := 1) hx hb dX5_doubtful_17 (by decide) ?_
        refine lv_iconst (v := 2) hx hb dX5_doubtful_18 (by decide) ?_
        obtain ⟨x4, hc19, h⟩ := k_b1_e h
        refine g_callRI_S (As := [.int x3, .int 1, .int 2]) (rest := [.int x1]) hC (mX5_in l dC dI cyI cyC cyO x3 1 2 hc19) q748 q749 q75 q750 3 hdX5_in ⟨Nat.le_of_ble_eq_true rfl, Nat.le_of_ble_eq_true rfl⟩ ⟨Nat.le_of_ble_eq_true rfl, Nat.le_of_ble_eq_true rfl⟩ rfl rfl hl.1 (Nat.le_of_ble_eq_true rfl) va_P_nil hK hS dX5_doubtful_19 (fun H locs hk hS => ?_)
        have hP := k_kept hP hk
        obtain ⟨K30, hK30, h⟩ := k_j1_e h
        have J30 : ∀ (x5 : Int32) (H : Heap) (locs : List Loc) (ls : Array Slot), K30 x5 = some r → va_P (dC, dI) vwCl (wX5 cyI cyC ob a1 a2 a3 a4 a5 a6 a7 a8 v_thrown v_z v_saved v_savedMany v_spare v_buffer v_typed v_marksBlown v_rests v_begins v_orders v_orderMany v_spot v_wrong v_isShort v_before v_hash) H → va_S kF s.heap H locs → lv_has ls 4 [(0, .ref ob), (1, .int p1), (3, .int x2)] → W p l e (k_rm 1 22) s m [.ref ob, .int p1].toArray below meth c H locs 0 0 (MQ below (qRI r) [.ref ob, .int p1].toArray s 0 0 kF) (F0 m 30 ls [.int x5, .int x1]) := by
          intro x5 H locs ls h hP hS hl
          have h := k_a1 hK30 h
          refine g_iadd hx hb dX5_doubtful_30 h (fun x6 h => ?_)
          refine lv_istore_n (lv' := [(2, .int x6), (0, .ref ob), (1, .int p1), (3, .int x2)]) hx hb dX5_doubtful_31 rfl hl (by decide) rfl (fun ls hl => ?_)
          refine g_iinc (dv := 1) hx hb dX5_doubtful_32 hl (j := 3) rfl (by decide) (by decide) h (fun x7 ls h hl => ?_)
          have hl : lv_has ls 4 [(3, .int x7), (2, .int x6), (0, .ref ob), (1, .int p1)] := hl
          refine lv_goto (tgt := 4) hx hb dX5_doubtful_35 (by decide) ?_
          exact ih4 x6 x7 _ _ _ h hP hS (lv_sub hl [2, 3, 1, 0] rfl)
        refine g_if_eq (tgt := 29) hx hb dX5_doubtful_22 (by decide) h (fun h => ?_) (fun h => ?_)
        · refine lv_iconst (v := 0) hx hb dX5_doubtful_29 (by decide) ?_
          exact J30 0 _ _ _ h hP hS (lv_sub hl [0, 1, 3] rfl)
        · refine lv_iconst (v := 1) hx hb dX5_doubtful_25 (by decide) ?_
          refine lv_goto (tgt := 30) hx hb dX5_doubtful_26 (by decide) ?_
          exact J30 1 _ _ _ h hP hS (lv_sub hl [0, 1, 3] rfl)
  exact L4 5000 0 0 _ _ _ h hP hS (lv_sub hl [2, 3, 1, 0] rfl)
def fX5_strengths_s4 (v_z : Nat → Int32) (p1 : Int32) (rec4 : Int32 → Int32 → Option (Int32)) (x1 : Int32) (x2 : Int32) : Option (Int32) :=
  k_if (16 ≤ x2)
  (
    some x1)
  (
    k_b1 (fX5_strength v_z p1 x2) fun (x3 : Int32) =>
    k_let (x1 + x3) fun (x4 : Int32) =>
    k_let (x2 + 1) fun (x5 : Int32) =>
    rec4 x4 x5)
def fX5_strengths (v_z : Nat → Int32) (p1 : Int32) : Option (Int32) :=
  k_l2 (fX5_strengths_s4 v_z p1) 5000 0 0
theorem hdX5_strengths : yX5_strengths.cls = RX5 ∧ yX5_strengths.cls ≠ "java/lang/invoke/MethodHandle" ∧ yX5_strengths.cls ≠ "java/lang/invoke/VarHandle" ∧ (parseMethodDescriptor yX5_strengths.desc).map (fun d => d.parameters.length) = some 1 := by decide +kernel
set_option maxRecDepth 100000 in
set_option maxHeartbeats 4000000 in
theorem mX5_strengths (l : Launch) (dC : Nat → ClassId) (dI : Nat → Nat → Nat) (cyI cyC cyO : ClassId) (ob a1 a2 a3 a4 a5 a6 a7 a8 : Nat) (v_thrown : Int32) (v_z : Nat → Int32) (v_saved : Nat → Int32) (v_savedMany : Int32) (v_spare : Nat → Int32) (v_buffer : Nat → Int32) (v_typed : Int32) (v_marksBlown : Int32) (v_rests : Nat → Int32) (v_begins : Nat → Int32) (v_orders : Nat → Int32) (v_orderMany : Int32) (v_spot : Int32) (v_wrong : Int32) (v_isShort : Int32) (v_before : Nat → Int32) (v_hash : Int64) (p1 : Int32) {r : Int32} (hf : fX5_strengths v_z p1 = some r) : MetRI l yX5_strengths cX5_strengths 4 (some .int) 1 22 [.ref ob, .int p1] (dC, dI) (tyS cyI cyC cyO) (wX5 cyI cyC ob a1 a2 a3 a4 a5 a6 a7 a8 v_thrown v_z v_saved v_savedMany v_spare v_buffer v_typed v_marksBlown v_rests v_begins v_orders v_orderMany v_spot v_wrong v_isShort v_before v_hash) r := by
  refine metRI_of (by decide) (Nat.le_of_ble_eq_true rfl) ?_
  intro p e s m below meth c ls hC hr hlk hP hK hl
  have hC : CallFix p m c cX5_strengths 4 s [.ref ob, .int p1].toArray wA RX5 := hC
  obtain ⟨hx, hb, hml, hown, hts⟩ := id hC
  have hS : va_S kF s.heap s.heap [] := va_S.rf
  have hl : lv_has ls 4 [(0, .ref ob), (1, .int p1)] := hl
  have h := hf
  unfold fX5_strengths at h
  obtain ⟨H, hH⟩ : ∃ H, H = s.heap := ⟨_, rfl⟩
  obtain ⟨locs, hlo⟩ : ∃ locs : List Loc, locs = [] := ⟨_, rfl⟩
  rw [← hH] at hP
  rw [← hlo] at hS
  have hS : va_S kF s.heap H locs := by rw [hH]; exact hS
  show W p l e (k_rm 1 22) s m [.ref ob, .int p1].toArray below meth c s.heap [] 0 0 _ _
  rw [← hlo, ← hH]
  refine lv_iconst (v := 0) hx hb dX5_strengths_0 (by decide) ?_
  refine lv_istore_n (lv' := [(2, .int 0), (0, .ref ob), (1, .int p1)]) hx hb dX5_strengths_1 rfl hl (by decide) rfl (fun ls hl => ?_)
  refine lv_iconst (v := 0) hx hb dX5_strengths_2 (by decide) ?_
  refine lv_istore_n (lv' := [(3, .int 0), (2, .int 0), (0, .ref ob), (1, .int p1)]) hx hb dX5_strengths_3 rfl hl (by decide) rfl (fun ls hl => ?_)
  obtain ⟨S4, hS4⟩ : ∃ z, z = (fX5_strengths_s4 v_z p1) := ⟨_, rfl⟩
  rw [← hS4] at h
  have L4 : ∀ (n : Nat) (x1 : Int32) (x2 : Int32) (H : Heap) (locs : List Loc) (ls : Array Slot), k_l2 S4 n x1 x2 = some r → va_P (dC, dI) vwCl (wX5 cyI cyC ob a1 a2 a3 a4 a5 a6 a7 a8 v_thrown v_z v_saved v_savedMany v_spare v_buffer v_typed v_marksBlown v_rests v_begins v_orders v_orderMany v_spot v_wrong v_isShort v_before v_hash) H → va_S kF s.heap H locs → lv_has ls 4 [(0, .ref ob), (1, .int p1), (2, .int x1), (3, .int x2)] → W p l e (k_rm 1 22) s m [.ref ob, .int p1].toArray below meth c H locs 0 0 (MQ below (qRI r) [.ref ob, .int p1].toArray s 0 0 kF) (F0 m 4 ls []) := by
    intro n
    induction n with
    | zero =>
      intro x1 x2 H locs ls h
      exact (k_l2_0 h).elim
    | succ n ih4 =>
      intro x1 x2 H locs ls h hP hS hl
      have h := k_l2_s h
      have h := k_a3 hS4 h
      unfold fX5_strengths_s4 at h
      refine lv_iload_n hx hb dX5_strengths_4 rfl (lv_at hl 3 rfl) ?_
      refine lv_bipush (v := 16) hx hb dX5_strengths_5 (by decide) ?_
      refine g_icmp_ge (tgt := 25) hx hb dX5_strengths_7 (by decide) h (fun h => ?_) (fun h => ?_)
      · refine lv_iload_n hx hb dX5_strengths_25 rfl (lv_at hl 2 rfl) ?_
        exact g_retRI hx hb hr hlk hS h dX5_strengths_26
      · refine lv_iload_n hx hb dX5_strengths_10 rfl (lv_at hl 2 rfl) ?_
        refine lv_aload_n hx hb dX5_strengths_11 rfl (lv_at hl 0 rfl) ?_
        refine lv_iload_n hx hb dX5_strengths_12 rfl (lv_at hl 1 rfl) ?_
        refine lv_iload_n hx hb dX5_strengths_13 rfl (lv_at hl 3 rfl) ?_
        obtain ⟨x3, hc14, h⟩ := k_b1_e h
        refine g_callRI_V (As := [.int p1, .int x2]) (rest := [.int x1]) hC (mX5_strength l dC dI cyI cyC cyO ob a1 a2 a3 a4 a5 a6 a7 a8 v_thrown v_z v_saved v_savedMany v_spare v_buffer v_typed v_marksBlown v_rests v_begins v_orders v_orderMany v_spot v_wrong v_isShort v_before v_hash p1 x2 hc14) q760 q761 q17 q75 q762 2 hdX5_strength ⟨Nat.le_of_ble_eq_true rfl, Nat.le_of_ble_eq_true rfl⟩ ⟨Nat.le_of_ble_eq_true rfl, Nat.le_of_ble_eq_true rfl⟩ rfl rfl hl.1 (Nat.le_of_ble_eq_true rfl) hP hK (va_recv hK hP (ci := 4) (q0 := 0) rfl rfl) hS dX5_strengths_14 (fun H locs hk hS => ?_)
        have hP := k_kept hP hk
        refine g_iadd hx hb dX5_strengths_17 h (fun x4 h => ?_)
        refine lv_istore_n (lv' := [(2, .int x4), (0, .ref ob), (1, .int p1), (3, .int x2)]) hx hb dX5_strengths_18 rfl hl (by decide) rfl (fun ls hl => ?_)
        refine g_iinc (dv := 1) hx hb dX5_strengths_19 hl (j := 3) rfl (by decide) (by decide) h (fun x5 ls h hl => ?_)
        have hl : lv_has ls 4 [(3, .int x5), (2, .int x4), (0, .ref ob), (1, .int p1)] := hl
        refine lv_goto (tgt := 4) hx hb dX5_strengths_22 (by decide) ?_
        exact ih4 x4 x5 _ _ _ h hP hS (lv_sub hl [2, 3, 1, 0] rfl)
  exact L4 5000 0 0 _ _ _ h hP hS (lv_sub hl [2, 3, 1, 0] rfl)
def fX5_toldRow (v_z : Nat → Int32) (p1 : Int32) (p2 : Int32) : Option (Int32) :=
  k_b1 (fX5_maskNow v_z p1) fun (x1 : Int32) =>
  k_if (p2 = 0)
  (
    some x1)
  (
    k_if (p2 = 1)
    (
      k_b1 (fX5_kindOf x1) fun (x2 : Int32) =>
      some x2)
    (
      k_if (p2 = 2)
      (
        k_b1 (fX5_keyIn x1) fun (x3 : Int32) =>
        some x3)
      (
        k_if (p2 = 3)
        (
          k_b1 (fX5_valueIn x1) fun (x4 : Int32) =>
          some x4)
        (
          k_if (p2 = 4)
          (
            k_let (x1 >>> (10 &&& 31)) fun (x5 : Int32) =>
            k_let (x5 &&& 15) fun (x6 : Int32) =>
            some x6)
          (
            k_if (p2 = 5)
            (
              k_b1 (fX5_zerosIn x1) fun (x7 : Int32) =>
              some x7)
            (
              k_if (p2 = 6)
              (
                k_b1 (fX5_doubtful v_z p1) fun (x8 : Int32) =>
                some x8)
              (
                k_if (p2 = 7)
                (
                  k_b1 (fX5_isLocked v_z p1) fun (x9 : Int32) =>
                  k_if (x9 = 0)
                  (
                    some 0)
                  (
                    some 1))
                (
                  k_b1 (fX5_strengths v_z p1) fun (x10 : Int32) =>
                  some x10))))))))
theorem hdX5_toldRow : yX5_toldRow.cls = RX5 ∧ yX5_toldRow.cls ≠ "java/lang/invoke/MethodHandle" ∧ yX5_toldRow.cls ≠ "java/lang/invoke/VarHandle" ∧ (parseMethodDescriptor yX5_toldRow.desc).map (fun d => d.parameters.length) = some 2 := by decide +kernel
set_option maxRecDepth 100000 in
set_option maxHeartbeats 4000000 in
theorem mX5_toldRow (l : Launch) (dC : Nat → ClassId) (dI : Nat → Nat → Nat) (cyI cyC cyO : ClassId) (ob a1 a2 a3 a4 a5 a6 a7 a8 : Nat) (v_thrown : Int32) (v_z : Nat → Int32) (v_saved : Nat → Int32) (v_savedMany : Int32) (v_spare : Nat → Int32) (v_buffer : Nat → Int32) (v_typed : Int32) (v_marksBlown : Int32) (v_rests : Nat → Int32) (v_begins : Nat → Int32) (v_orders : Nat → Int32) (v_orderMany : Int32) (v_spot : Int32) (v_wrong : Int32) (v_isShort : Int32) (v_before : Nat → Int32) (v_hash : Int64) (p1 : Int32) (p2 : Int32) {r : Int32} (hf : fX5_toldRow v_z p1 p2 = some r) : MetRI l yX5_toldRow cX5_toldRow 4 (some .int) 6 138 [.ref ob, .int p1, .int p2] (dC, dI) (tyS cyI cyC cyO) (wX5 cyI cyC ob a1 a2 a3 a4 a5 a6 a7 a8 v_thrown v_z v_saved v_savedMany v_spare v_buffer v_typed v_marksBlown v_rests v_begins v_orders v_orderMany v_spot v_wrong v_isShort v_before v_hash) r := by
  refine metRI_of (by decide) (Nat.le_of_ble_eq_true rfl) ?_
  intro p e s m below meth c ls hC hr hlk hP hK hl
  have hC : CallFix p m c cX5_toldRow 4 s [.ref ob, .int p1, .int p2].toArray wA RX5 := hC
  obtain ⟨hx, hb, hml, hown, hts⟩ := id hC
  have hS : va_S kF s.heap s.heap [] := va_S.rf
  have hl : lv_has ls 4 [(0, .ref ob), (1, .int p1), (2, .int p2)] := hl
  have h := hf
  unfold fX5_toldRow at h
  obtain ⟨H, hH⟩ : ∃ H, H = s.heap := ⟨_, rfl⟩
  obtain ⟨locs, hlo⟩ : ∃ locs : List Loc, locs = [] := ⟨_, rfl⟩
  rw [← hH] at hP
  rw [← hlo] at hS
  have hS : va_S kF s.heap H locs := by rw [hH]; exact hS
  show W p l e (k_rm 6 138) s m [.ref ob, .int p1, .int p2].toArray below meth c s.heap [] 0 0 _ _
  rw [← hlo, ← hH]
  refine lv_aload_n hx hb dX5_toldRow_0 rfl (lv_at hl 0 rfl) ?_
  refine lv_iload_n hx hb dX5_toldRow_1 rfl (lv_at hl 1 rfl) ?_
  obtain ⟨x1, hc2, h⟩ := k_b1_e h
  refine g_callRI_V (As := [.int p1]) (rest := []) hC (mX5_maskNow l dC dI cyI cyC cyO ob a1 a2 a3 a4 a5 a6 a7 a8 v_thrown v_z v_saved v_savedMany v_spare v_buffer v_typed v_marksBlown v_rests v_begins v_orders v_orderMany v_spot v_wrong v_isShort v_before v_hash p1 hc2) q782 q783 q22 q75 q784 1 hdX5_maskNow ⟨Nat.le_of_ble_eq_true rfl, Nat.le_of_ble_eq_true rfl⟩ ⟨Nat.le_of_ble_eq_true rfl, Nat.le_of_ble_eq_true rfl⟩ rfl rfl hl.1 (Nat.le_of_ble_eq_true rfl) hP hK (va_recv hK hP (ci := 4) (q0 := 0) rfl rfl) hS dX5_toldRow_2 (fun H locs hk hS => ?_)
  have hP := k_kept hP hk
  refine lv_istore_n (lv' := [(3, .int x1), (0, .ref ob), (1, .int p1), (2, .int p2)]) hx hb dX5_toldRow_5 rfl hl (by decide) rfl (fun ls hl => ?_)
  refine lv_iload_n hx hb dX5_toldRow_6 rfl (lv_at hl 3 rfl) ?_
  refine g_arm (v := 0) (off := 45) (tgt := 52) hx hb dX5_toldRow_7 (by decide) (by decide) (by decide +kernel) (by decide) h (fun _ h => ?_) (fun n0 h => ?_)
  · refine lv_iload_n hx hb dX5_toldRow_52 rfl (lv_at hl 0 rfl) ?_
    exact g_retRI hx hb hr hlk hS h dX5_toldRow_53
  · skip
    refine g_arm (v := 1) (off := 47) (tgt := 54) hx hb dX5_toldRow_7 (by decide) (by decide) (by decide +kernel) (by decide) h (fun _ h => ?_) (fun n1 h => ?_)
    · refine lv_iload_n hx hb dX5_toldRow_54 rfl (lv_at hl 0 rfl) ?_
      obtain ⟨x2, hc55, h⟩ := k_b1_e h
      refine g_callRI_S (As := [.int x1]) (rest := []) hC (mX5_kindOf l dC dI cyI cyC cyO x1 hc55) q806 q807 q75 q808 1 hdX5_kindOf ⟨Nat.le_of_ble_eq_true rfl, Nat.le_of_ble_eq_true rfl⟩ ⟨Nat.le_of_ble_eq_true rfl, Nat.le_of_ble_eq_true rfl⟩ rfl rfl hl.1 (Nat.le_of_ble_eq_true rfl) va_P_nil hK hS dX5_toldRow_55 (fun H locs hk hS => ?_)
      have hP := k_kept hP hk
      exact g_retRI hx hb hr hlk hS h dX5_toldRow_58
    · skip
      refine g_arm (v := 2) (off := 52) (tgt := 59) hx hb dX5_toldRow_7 (by decide) (by decide) (by decide +kernel) (by decide) h (fun _ h => ?_) (fun n2 h => ?_)
      · refine lv_iload_n hx hb dX5_toldRow_59 rfl (lv_at hl 0 rfl) ?_
        obtain ⟨x3, hc60, h⟩ := k_b1_e h
        refine g_callRI_S (As := [.int x1]) (rest := []) hC (mX5_keyIn l dC dI cyI cyC cyO x1 hc60) q809 q810 q75 q811 1 hdX5_keyIn ⟨Nat.le_of_ble_eq_true rfl, Nat.le_of_ble_eq_true rfl⟩ ⟨Nat.le_of_ble_eq_true rfl, Nat.le_of_ble_eq_true rfl⟩ rfl rfl hl.1 (Nat.le_of_ble_eq_true rfl) va_P_nil hK hS dX5_toldRow_60 (fun H locs hk hS => ?_)
        have hP := k_kept hP hk
        exact g_retRI hx hb hr hlk hS h dX5_toldRow_63
      · skip
        refine g_arm (v := 3) (off := 57) (tgt := 64) hx hb dX5_toldRow_7 (by decide) (by decide) (by decide +kernel) (by decide) h (fun _ h => ?_) (fun n3 h => ?_)
        · refine lv_iload_n hx hb dX5_toldRow_64 rfl (lv_at hl 0 rfl) ?_
          obtain ⟨x4, hc65, h⟩ := k_b1_e h
          refine g_callRI_S (As := [.int x1]) (rest := []) hC (mX5_valueIn l dC dI cyI cyC cyO x1 hc65) q812 q813 q75 q814 1 hdX5_valueIn ⟨Nat.le_of_ble_eq_true rfl, Nat.le_of_ble_eq_true rfl⟩ ⟨Nat.le_of_ble_eq_true rfl, Nat.le_of_ble_eq_true rfl⟩ rfl rfl hl.1 (Nat.le_of_ble_eq_true rfl) va_P_nil hK hS dX5_toldRow_65 (fun H locs hk hS => ?_)
          have hP := k_kept hP hk
          exact g_retRI hx hb hr hlk hS h dX5_toldRow_68
        · skip
          refine g_arm (v := 4) (off := 62) (tgt := 69) hx hb dX5_toldRow_7 (by decide) (by decide) (by decide +kernel) (by decide) h (fun _ h => ?_) (fun n4 h => ?_)
          · refine lv_iload_n hx hb dX5_toldRow_69 rfl (lv_at hl 0 rfl) ?_
            refine lv_bipush (v := 10) hx hb dX5_toldRow_70 (by decide) ?_
            refine g_ishr hx hb dX5_toldRow_72 h (fun x5 h => ?_)
            refine lv_bipush (v := 15) hx hb dX5_toldRow_73 (by decide) ?_
            refine g_iand hx hb dX5_toldRow_75 h (fun x6 h => ?_)
            exact g_retRI hx hb hr hlk hS h dX5_toldRow_76
          · skip
            refine g_arm (v := 5) (off := 70) (tgt := 77) hx hb dX5_toldRow_7 (by decide) (by decide) (by decide +kernel) (by decide) h (fun _ h => ?_) (fun n5 h => ?_)
            · refine lv_iload_n hx hb dX5_toldRow_77 rfl (lv_at hl 0 rfl) ?_
              obtain ⟨x7, hc78, h⟩ := k_b1_e h
              refine g_callRI_S (As := [.int x1]) (rest := []) hC (mX5_zerosIn l dC dI cyI cyC cyO x1 hc78) q797 q798 q75 q799 1 hdX5_zerosIn ⟨Nat.le_of_ble_eq_true rfl, Nat.le_of_ble_eq_true rfl⟩ ⟨Nat.le_of_ble_eq_true rfl, Nat.le_of_ble_eq_true rfl⟩ rfl rfl hl.1 (Nat.le_of_ble_eq_true rfl) va_P_nil hK hS dX5_toldRow_78 (fun H locs hk hS => ?_)
              have hP := k_kept hP hk
              exact g_retRI hx hb hr hlk hS h dX5_toldRow_81
            · skip
              refine g_arm (v := 6) (off := 75) (tgt := 82) hx hb dX5_toldRow_7 (by decide) (by decide) (by decide +kernel) (by decide) h (fun _ h => ?_) (fun n6 h => ?_)
              · refine lv_aload_n hx hb dX5_toldRow_82 rfl (lv_at hl 1 rfl) ?_
                refine lv_iload_n hx hb dX5_toldRow_83 rfl (lv_at hl 2 rfl) ?_
                obtain ⟨x8, hc84, h⟩ := k_b1_e h
                refine g_callRI_V (As := [.int p1]) (rest := []) hC (mX5_doubtful l dC dI cyI cyC cyO ob a1 a2 a3 a4 a5 a6 a7 a8 v_thrown v_z v_saved v_savedMany v_spare v_buffer v_typed v_marksBlown v_rests v_begins v_orders v_orderMany v_spot v_wrong v_isShort v_before v_hash p1 hc84) q914 q915 q43 q75 q916 1 hdX5_doubtful ⟨Nat.le_of_ble_eq_true rfl, Nat.le_of_ble_eq_true rfl⟩ ⟨Nat.le_of_ble_eq_true rfl, Nat.le_of_ble_eq_true rfl⟩ rfl rfl hl.1 (Nat.le_of_ble_eq_true rfl) hP hK (va_recv hK hP (ci := 4) (q0 := 0) rfl rfl) hS dX5_toldRow_84 (fun H locs hk hS => ?_)
                have hP := k_kept hP hk
                exact g_retRI hx hb hr hlk hS h dX5_toldRow_87
              · skip
                refine g_arm (v := 7) (off := 81) (tgt := 88) hx hb dX5_toldRow_7 (by decide) (by decide) (by decide +kernel) (by decide) h (fun _ h => ?_) (fun n7 h => ?_)
                · refine lv_aload_n hx hb dX5_toldRow_88 rfl (lv_at hl 1 rfl) ?_
                  refine lv_iload_n hx hb dX5_toldRow_89 rfl (lv_at hl 2 rfl) ?_
                  obtain ⟨x9, hc90, h⟩ := k_b1_e h
                  refine g_callRI_V (As := [.int p1]) (rest := []) hC (mX5_isLocked l dC dI cyI cyC cyO ob a1 a2 a3 a4 a5 a6 a7 a8 v_thrown v_z v_saved v_savedMany v_spare v_buffer v_typed v_marksBlown v_rests v_begins v_orders v_orderMany v_spot v_wrong v_isShort v_before v_hash p1 hc90) q751 q752 q14 q75 q753 1 hdX5_isLocked ⟨Nat.le_of_ble_eq_true rfl, Nat.le_of_ble_eq_true rfl⟩ ⟨Nat.le_of_ble_eq_true rfl, Nat.le_of_ble_eq_true rfl⟩ rfl rfl hl.1 (Nat.le_of_ble_eq_true rfl) hP hK (va_recv hK hP (ci := 4) (q0 := 0) rfl rfl) hS dX5_toldRow_90 (fun H locs hk hS => ?_)
                  have hP := k_kept hP hk
                  refine g_if_eq (tgt := 100) hx hb dX5_toldRow_93 (by decide) h (fun h => ?_) (fun h => ?_)
                  · refine lv_iconst (v := 0) hx hb dX5_toldRow_100 (by decide) ?_
                    exact g_retRI hx hb hr hlk hS h dX5_toldRow_101
                  · refine lv_iconst (v := 1) hx hb dX5_toldRow_96 (by decide) ?_
                    refine lv_goto (tgt := 101) hx hb dX5_toldRow_97 (by decide) ?_
                    exact g_retRI hx hb hr hlk hS h dX5_toldRow_101
                · skip
                  refine lv_tableOut (tgt := 102) hx hb dX5_toldRow_7 (by have z0 := g_ne (z := 0) (by decide) n0; have z1 := g_ne (z := 1) (by decide) n1; have z2 := g_ne (z := 2) (by decide) n2; have z3 := g_ne (z := 3) (by decide) n3; have z4 := g_ne (z := 4) (by decide) n4; have z5 := g_ne (z := 5) (by decide) n5; have z6 := g_ne (z := 6) (by decide) n6; have z7 := g_ne (z := 7) (by decide) n7; omega) (by decide) ?_
                  refine lv_aload_n hx hb dX5_toldRow_102 rfl (lv_at hl 1 rfl) ?_
                  refine lv_iload_n hx hb dX5_toldRow_103 rfl (lv_at hl 2 rfl) ?_
                  obtain ⟨x10, hc104, h⟩ := k_b1_e h
                  refine g_callRI_V (As := [.int p1]) (rest := []) hC (mX5_strengths l dC dI cyI cyC cyO ob a1 a2 a3 a4 a5 a6 a7 a8 v_thrown v_z v_saved v_savedMany v_spare v_buffer v_typed v_marksBlown v_rests v_begins v_orders v_orderMany v_spot v_wrong v_isShort v_before v_hash p1 hc104) q917 q918 q44 q75 q919 1 hdX5_strengths ⟨Nat.le_of_ble_eq_true rfl, Nat.le_of_ble_eq_true rfl⟩ ⟨Nat.le_of_ble_eq_true rfl, Nat.le_of_ble_eq_true rfl⟩ rfl rfl hl.1 (Nat.le_of_ble_eq_true rfl) hP hK (va_recv hK hP (ci := 4) (q0 := 0) rfl rfl) hS dX5_toldRow_104 (fun H locs hk hS => ?_)
                  have hP := k_kept hP hk
                  exact g_retRI hx hb hr hlk hS h dX5_toldRow_107
def fX5_row (v_thrown : Int32) (v_z : Nat → Int32) (p1 : Int32) (p2 : Int32) : Option (Int32 × Int32) :=
  k_b1 (fX5_isRow p1) fun (x1 : Int32) =>
  k_j1
  (fun (x2 : Int32) =>
    k_if (x2 ≤ 0)
    (
      k_b1 (fX5_toldRow v_z p1 p2) fun (x3 : Int32) =>
      some (x3, x2))
    (
      some (0, x2)))
  (fun K27 =>
  k_if (x1 = 0)
  (
    K27 1)
  (
    k_b1 (fX5_in p2 0 8) fun (x4 : Int32) =>
    k_if (x4 = 0)
    (
      K27 2)
    (
      K27 0)))
theorem hdX5_row : yX5_row.cls = RX5 ∧ yX5_row.cls ≠ "java/lang/invoke/MethodHandle" ∧ yX5_row.cls ≠ "java/lang/invoke/VarHandle" ∧ (parseMethodDescriptor yX5_row.desc).map (fun d => d.parameters.length) = some 2 := by decide +kernel
set_option maxRecDepth 100000 in
set_option maxHeartbeats 4000000 in
theorem mX5_row (l : Launch) (dC : Nat → ClassId) (dI : Nat → Nat → Nat) (cyI cyC cyO : ClassId) (ob a1 a2 a3 a4 a5 a6 a7 a8 : Nat) (v_thrown : Int32) (v_z : Nat → Int32) (v_saved : Nat → Int32) (v_savedMany : Int32) (v_spare : Nat → Int32) (v_buffer : Nat → Int32) (v_typed : Int32) (v_marksBlown : Int32) (v_rests : Nat → Int32) (v_begins : Nat → Int32) (v_orders : Nat → Int32) (v_orderMany : Int32) (v_spot : Int32) (v_wrong : Int32) (v_isShort : Int32) (v_before : Nat → Int32) (v_hash : Int64) (p1 : Int32) (p2 : Int32) {r : Int32} {r_thrown : Int32} (hf : fX5_row v_thrown v_z p1 p2 = some (r, r_thrown)) : MetMI l yX5_row cX5_row 3 (some .int) 7 161 [.ref ob, .int p1, .int p2] (dC, dI) (tyS cyI cyC cyO) (wX5 cyI cyC ob a1 a2 a3 a4 a5 a6 a7 a8 v_thrown v_z v_saved v_savedMany v_spare v_buffer v_typed v_marksBlown v_rests v_begins v_orders v_orderMany v_spot v_wrong v_isShort v_before v_hash) (wX5 cyI cyC ob a1 a2 a3 a4 a5 a6 a7 a8 r_thrown v_z v_saved v_savedMany v_spare v_buffer v_typed v_marksBlown v_rests v_begins v_orders v_orderMany v_spot v_wrong v_isShort v_before v_hash) r := by
  refine metMI_of (by decide) (Nat.le_of_ble_eq_true rfl) ?_
  intro p e s m below meth c ls hC hr hlk hP hK hD hl
  have hC : CallFix p m c cX5_row 3 s [.ref ob, .int p1, .int p2].toArray wA RX5 := hC
  obtain ⟨hx, hb, hml, hown, hts⟩ := id hC
  have hS : va_S (k_A (wX5 cyI cyC ob a1 a2 a3 a4 a5 a6 a7 a8 v_thrown v_z v_saved v_savedMany v_spare v_buffer v_typed v_marksBlown v_rests v_begins v_orders v_orderMany v_spot v_wrong v_isShort v_before v_hash)) s.heap s.heap [] := va_S.rf
  have hl : lv_has ls 3 [(0, .ref ob), (1, .int p1), (2, .int p2)] := hl
  have h := hf
  unfold fX5_row at h
  obtain ⟨H, hH⟩ : ∃ H, H = s.heap := ⟨_, rfl⟩
  obtain ⟨locs, hlo⟩ : ∃ locs : List Loc, locs = [] := ⟨_, rfl⟩
  rw [← hH] at hP
  rw [← hlo] at hS
  have hS : va_S (k_A (wX5 cyI cyC ob a1 a2 a3 a4 a5 a6 a7 a8 v_thrown v_z v_saved v_savedMany v_spare v_buffer v_typed v_marksBlown v_rests v_begins v_orders v_orderMany v_spot v_wrong v_isShort v_before v_hash)) s.heap H locs := by rw [hH]; exact hS
  show W p l e (k_rm 7 161) s m [.ref ob, .int p1, .int p2].toArray below meth c s.heap [] 0 0 _ _
  rw [← hlo, ← hH]
  refine lv_aload_n hx hb dX5_row_0 rfl (lv_at hl 0 rfl) ?_
  refine lv_iload_n hx hb dX5_row_1 rfl (lv_at hl 1 rfl) ?_
  obtain ⟨x1, hc2, h⟩ := k_b1_e h
  refine g_callRI_S (As := [.int p1]) (rest := [.ref ob]) hC (mX5_isRow l dC dI cyI cyC cyO p1 hc2) q745 q746 q75 q747 1 hdX5_isRow ⟨Nat.le_of_ble_eq_true rfl, Nat.le_of_ble_eq_true rfl⟩ ⟨Nat.le_of_ble_eq_true rfl, Nat.le_of_ble_eq_true rfl⟩ rfl rfl hl.1 (Nat.le_of_ble_eq_true rfl) va_P_nil hK hS dX5_row_2 (fun H locs hk hS => ?_)
  have hP := k_kept hP hk
  obtain ⟨K27, hK27, h⟩ := k_j1_e h
  have J27 : ∀ (x2 : Int32) (H : Heap) (locs : List Loc) (ls : Array Slot), K27 x2 = some (r, r_thrown) → va_P (dC, dI) vwCl (wX5 cyI cyC ob a1 a2 a3 a4 a5 a6 a7 a8 v_thrown v_z v_saved v_savedMany v_spare v_buffer v_typed v_marksBlown v_rests v_begins v_orders v_orderMany v_spot v_wrong v_isShort v_before v_hash) H → va_S (k_A (wX5 cyI cyC ob a1 a2 a3 a4 a5 a6 a7 a8 v_thrown v_z v_saved v_savedMany v_spare v_buffer v_typed v_marksBlown v_rests v_begins v_orders v_orderMany v_spot v_wrong v_isShort v_before v_hash)) s.heap H locs → lv_has ls 3 [(0, .ref ob), (1, .int p1), (2, .int p2)] → W p l e (k_rm 7 161) s m [.ref ob, .int p1, .int p2].toArray below meth c H locs 0 0 (MQ below (qMI r (dC, dI) (wX5 cyI cyC ob a1 a2 a3 a4 a5 a6 a7 a8 v_thrown v_z v_saved v_savedMany v_spare v_buffer v_typed v_marksBlown v_rests v_begins v_orders v_orderMany v_spot v_wrong v_isShort v_before v_hash) (wX5 cyI cyC ob a1 a2 a3 a4 a5 a6 a7 a8 r_thrown v_z v_saved v_savedMany v_spare v_buffer v_typed v_marksBlown v_rests v_begins v_orders v_orderMany v_spot v_wrong v_isShort v_before v_hash)) [.ref ob, .int p1, .int p2].toArray s 0 0 (k_A (wX5 cyI cyC ob a1 a2 a3 a4 a5 a6 a7 a8 v_thrown v_z v_saved v_savedMany v_spare v_buffer v_typed v_marksBlown v_rests v_begins v_orders v_orderMany v_spot v_wrong v_isShort v_before v_hash))) (F0 m 27 ls [.int x2, .ref ob]) := by
    intro x2 H locs ls h hP hS hl
    have h := k_a1 hK27 h
    refine va_put (D := (dC, dI)) (ci := 4) (v := .int x2) (ty := .int) (C := RX5) (T := TX5) (N := 17) hx hb hts iaX5 tyX5 tyX5_ok nmX5 hown hK hP hD hS 0 rfl rfl 0 (by decide) (hts _ q716) (fun _ h9 => h9) rfl (by decide +kernel) rfl rfl (Nat.le_of_ble_eq_true rfl) dX5_row_27 (fun H locs hP _ hS => ?_)
    have hP : va_P (dC, dI) vwCl (wX5 cyI cyC ob a1 a2 a3 a4 a5 a6 a7 a8 x2 v_z v_saved v_savedMany v_spare v_buffer v_typed v_marksBlown v_rests v_begins v_orders v_orderMany v_spot v_wrong v_isShort v_before v_hash) H := hP
    have hD : va_D (k_A (wX5 cyI cyC ob a1 a2 a3 a4 a5 a6 a7 a8 v_thrown v_z v_saved v_savedMany v_spare v_buffer v_typed v_marksBlown v_rests v_begins v_orders v_orderMany v_spot v_wrong v_isShort v_before v_hash)) (wX5 cyI cyC ob a1 a2 a3 a4 a5 a6 a7 a8 x2 v_z v_saved v_savedMany v_spare v_buffer v_typed v_marksBlown v_rests v_begins v_orders v_orderMany v_spot v_wrong v_isShort v_before v_hash) := k_Dm hD rfl
    refine lv_aload_n hx hb dX5_row_30 rfl (lv_at hl 0 rfl) ?_
    refine va_get (D := (dC, dI)) (ci := 4) (v := .int x2) (C := RX5) (T := TX5) (N := 17) hx hb hts iaX5 hown hK hP 0 rfl rfl 0 (by decide) (hts _ q716) (fun _ h9 => h9) rfl dX5_row_31 ?_
    refine g_if_le (tgt := 41) hx hb dX5_row_34 (by decide) h (fun h => ?_) (fun h => ?_)
    · refine lv_aload_n hx hb dX5_row_41 rfl (lv_at hl 0 rfl) ?_
      refine lv_iload_n hx hb dX5_row_42 rfl (lv_at hl 1 rfl) ?_
      refine lv_iload_n hx hb dX5_row_43 rfl (lv_at hl 2 rfl) ?_
      obtain ⟨x3, hc44, h⟩ := k_b1_e h
      refine g_callRI_V (As := [.int p1, .int p2]) (rest := []) hC (mX5_toldRow l dC dI cyI cyC cyO ob a1 a2 a3 a4 a5 a6 a7 a8 x2 v_z v_saved v_savedMany v_spare v_buffer v_typed v_marksBlown v_rests v_begins v_orders v_orderMany v_spot v_wrong v_isShort v_before v_hash p1 p2 hc44) q911 q912 q42 q75 q913 2 hdX5_toldRow ⟨Nat.le_of_ble_eq_true rfl, Nat.le_of_ble_eq_true rfl⟩ ⟨Nat.le_of_ble_eq_true rfl, Nat.le_of_ble_eq_true rfl⟩ rfl rfl hl.1 (Nat.le_of_ble_eq_true rfl) hP hK (va_recv hK hP (ci := 4) (q0 := 0) rfl rfl) hS dX5_row_44 (fun H locs hk hS => ?_)
      have hP := k_kept hP hk
      obtain ⟨e0, e1⟩ := k_t2 h
      exact g_retMI hx hb hr hlk hS e0 (by rw [← e1]; exact hP) dX5_row_47
    · refine lv_iconst (v := 0) hx hb dX5_row_37 (by decide) ?_
      refine lv_goto (tgt := 47) hx hb dX5_row_38 (by decide) ?_
      obtain ⟨e0, e1⟩ := k_t2 h
      exact g_retMI hx hb hr hlk hS e0 (by rw [← e1]; exact hP) dX5_row_47
  refine g_if_ne (tgt := 12) hx hb dX5_row_5 (by decide) h (fun h => ?_) (fun h => ?_)
  · refine lv_iload_n hx hb dX5_row_12 rfl (lv_at hl 2 rfl) ?_
    refine lv_iconst (v := 0) hx hb dX5_row_13 (by decide) ?_
    refine lv_bipush (v := 8) hx hb dX5_row_14 (by decide) ?_
    obtain ⟨x4, hc16, h⟩ := k_b1_e h
    refine g_callRI_S (As := [.int p2, .int 0, .int 8]) (rest := [.ref ob]) hC (mX5_in l dC dI cyI cyC cyO p2 0 8 hc16) q748 q749 q75 q750 3 hdX5_in ⟨Nat.le_of_ble_eq_true rfl, Nat.le_of_ble_eq_true rfl⟩ ⟨Nat.le_of_ble_eq_true rfl, Nat.le_of_ble_eq_true rfl⟩ rfl rfl hl.1 (Nat.le_of_ble_eq_true rfl) va_P_nil hK hS dX5_row_16 (fun H locs hk hS => ?_)
    have hP := k_kept hP hk
    refine g_if_eq (tgt := 26) hx hb dX5_row_19 (by decide) h (fun h => ?_) (fun h => ?_)
    · refine lv_iconst (v := 2) hx hb dX5_row_26 (by decide) ?_
      exact J27 2 _ _ _ h hP hS (lv_sub hl [0, 1, 2] rfl)
    · refine lv_iconst (v := 0) hx hb dX5_row_22 (by decide) ?_
      refine lv_goto (tgt := 27) hx hb dX5_row_23 (by decide) ?_
      exact J27 0 _ _ _ h hP hS (lv_sub hl [0, 1, 2] rfl)
  · refine lv_iconst (v := 1) hx hb dX5_row_8 (by decide) ?_
    refine lv_goto (tgt := 27) hx hb dX5_row_9 (by decide) ?_
    exact J27 1 _ _ _ h hP hS (lv_sub hl [0, 1, 2] rfl)
def fX5_isRowOf (v_z : Nat → Int32) (p1 : Int32) (p2 : Int32) : Option (Int32) :=
  k_b1 (fX5_maskNow v_z p2) fun (x1 : Int32) =>
  k_b1 (fX5_kindOf x1) fun (x2 : Int32) =>
  k_b1 (fX5_keyIn x1) fun (x3 : Int32) =>
  k_if (x3 = p1)
  (
    k_if (x2 = 4)
    (
      some 1)
    (
      k_if (x2 = 2)
      (
        some 1)
      (
        some 0)))
  (
    some 0)
theorem hdX5_isRowOf : yX5_isRowOf.cls = RX5 ∧ yX5_isRowOf.cls ≠ "java/lang/invoke/MethodHandle" ∧ yX5_isRowOf.cls ≠ "java/lang/invoke/VarHandle" ∧ (parseMethodDescriptor yX5_isRowOf.desc).map (fun d => d.parameters.length) = some 2 := by decide +kernel
set_option maxRecDepth 100000 in
set_option maxHeartbeats 4000000 in
theorem mX5_isRowOf (l : Launch) (dC : Nat → ClassId) (dI : Nat → Nat → Nat) (cyI cyC cyO : ClassId) (ob a1 a2 a3 a4 a5 a6 a7 a8 : Nat) (v_thrown : Int32) (v_z : Nat → Int32) (v_saved : Nat → Int32) (v_savedMany : Int32) (v_spare : Nat → Int32) (v_buffer : Nat → Int32) (v_typed : Int32) (v_marksBlown : Int32) (v_rests : Nat → Int32) (v_begins : Nat → Int32) (v_orders : Nat → Int32) (v_orderMany : Int32) (v_spot : Int32) (v_wrong : Int32) (v_isShort : Int32) (v_before : Nat → Int32) (v_hash : Int64) (p1 : Int32) (p2 : Int32) {r : Int32} (hf : fX5_isRowOf v_z p1 p2 = some r) : MetRI l yX5_isRowOf cX5_isRowOf 5 (some .boolean) 6 138 [.ref ob, .int p1, .int p2] (dC, dI) (tyS cyI cyC cyO) (wX5 cyI cyC ob a1 a2 a3 a4 a5 a6 a7 a8 v_thrown v_z v_saved v_savedMany v_spare v_buffer v_typed v_marksBlown v_rests v_begins v_orders v_orderMany v_spot v_wrong v_isShort v_before v_hash) r := by
  refine metRI_of (by decide) (Nat.le_of_ble_eq_true rfl) ?_
  intro p e s m below meth c ls hC hr hlk hP hK hl
  have hC : CallFix p m c cX5_isRowOf 5 s [.ref ob, .int p1, .int p2].toArray wA RX5 := hC
  obtain ⟨hx, hb, hml, hown, hts⟩ := id hC
  have hS : va_S kF s.heap s.heap [] := va_S.rf
  have hl : lv_has ls 5 [(0, .ref ob), (1, .int p1), (2, .int p2)] := hl
  have h := hf
  unfold fX5_isRowOf at h
  obtain ⟨H, hH⟩ : ∃ H, H = s.heap := ⟨_, rfl⟩
  obtain ⟨locs, hlo⟩ : ∃ locs : List Loc, locs = [] := ⟨_, rfl⟩
  rw [← hH] at hP
  rw [← hlo] at hS
  have hS : va_S kF s.heap H locs := by rw [hH]; exact hS
  show W p l e (k_rm 6 138) s m [.ref ob, .int p1, .int p2].toArray below meth c s.heap [] 0 0 _ _
  rw [← hlo, ← hH]
  refine lv_aload_n hx hb dX5_isRowOf_0 rfl (lv_at hl 0 rfl) ?_
  refine lv_iload_n hx hb dX5_isRowOf_1 rfl (lv_at hl 2 rfl) ?_
  obtain ⟨x1, hc2, h⟩ := k_b1_e h
  refine g_callRI_V (As := [.int p2]) (rest := []) hC (mX5_maskNow l dC dI cyI cyC cyO ob a1 a2 a3 a4 a5 a6 a7 a8 v_thrown v_z v_saved v_savedMany v_spare v_buffer v_typed v_marksBlown v_rests v_begins v_orders v_orderMany v_spot v_wrong v_isShort v_before v_hash p2 hc2) q782 q783 q22 q75 q784 1 hdX5_maskNow ⟨Nat.le_of_ble_eq_true rfl, Nat.le_of_ble_eq_true rfl⟩ ⟨Nat.le_of_ble_eq_true rfl, Nat.le_of_ble_eq_true rfl⟩ rfl rfl hl.1 (Nat.le_of_ble_eq_true rfl) hP hK (va_recv hK hP (ci := 4) (q0 := 0) rfl rfl) hS dX5_isRowOf_2 (fun H locs hk hS => ?_)
  have hP := k_kept hP hk
  refine lv_istore_n (lv' := [(3, .int x1), (0, .ref ob), (1, .int p1), (2, .int p2)]) hx hb dX5_isRowOf_5 rfl hl (by decide) rfl (fun ls hl => ?_)
  refine lv_iload_n hx hb dX5_isRowOf_6 rfl (lv_at hl 0 rfl) ?_
  obtain ⟨x2, hc7, h⟩ := k_b1_e h
  refine g_callRI_S (As := [.int x1]) (rest := []) hC (mX5_kindOf l dC dI cyI cyC cyO x1 hc7) q806 q807 q75 q808 1 hdX5_kindOf ⟨Nat.le_of_ble_eq_true rfl, Nat.le_of_ble_eq_true rfl⟩ ⟨Nat.le_of_ble_eq_true rfl, Nat.le_of_ble_eq_true rfl⟩ rfl rfl hl.1 (Nat.le_of_ble_eq_true rfl) va_P_nil hK hS dX5_isRowOf_7 (fun H locs hk hS => ?_)
  have hP := k_kept hP hk
  refine lv_istore (lv' := [(4, .int x2), (3, .int x1), (0, .ref ob), (1, .int p1), (2, .int p2)]) hx hb dX5_isRowOf_10 hl (by decide) rfl (fun ls hl => ?_)
  refine lv_iload_n hx hb dX5_isRowOf_12 rfl (lv_at hl 1 rfl) ?_
  obtain ⟨x3, hc13, h⟩ := k_b1_e h
  refine g_callRI_S (As := [.int x1]) (rest := []) hC (mX5_keyIn l dC dI cyI cyC cyO x1 hc13) q809 q810 q75 q811 1 hdX5_keyIn ⟨Nat.le_of_ble_eq_true rfl, Nat.le_of_ble_eq_true rfl⟩ ⟨Nat.le_of_ble_eq_true rfl, Nat.le_of_ble_eq_true rfl⟩ rfl rfl hl.1 (Nat.le_of_ble_eq_true rfl) va_P_nil hK hS dX5_isRowOf_13 (fun H locs hk hS => ?_)
  have hP := k_kept hP hk
  refine lv_iload_n hx hb dX5_isRowOf_16 rfl (lv_at hl 3 rfl) ?_
  refine g_icmp_ne (tgt := 36) hx hb dX5_isRowOf_17 (by decide) h (fun h => ?_) (fun h => ?_)
  · refine lv_iconst (v := 0) hx hb dX5_isRowOf_36 (by decide) ?_
    exact g_retRZ hx hb hr (by decide +kernel) hlk hS h dX5_isRowOf_37
  · refine lv_iload hx hb dX5_isRowOf_20 (lv_at hl 0 rfl) ?_
    refine lv_iconst (v := 4) hx hb dX5_isRowOf_22 (by decide) ?_
    refine g_icmp_eq (tgt := 32) hx hb dX5_isRowOf_23 (by decide) h (fun h => ?_) (fun h => ?_)
    · refine lv_iconst (v := 1) hx hb dX5_isRowOf_32 (by decide) ?_
      refine lv_goto (tgt := 37) hx hb dX5_isRowOf_33 (by decide) ?_
      exact g_retRZ hx hb hr (by decide +kernel) hlk hS h dX5_isRowOf_37
    · refine lv_iload hx hb dX5_isRowOf_26 (lv_at hl 0 rfl) ?_
      refine lv_iconst (v := 2) hx hb dX5_isRowOf_28 (by decide) ?_
      refine g_icmp_ne (tgt := 36) hx hb dX5_isRowOf_29 (by decide) h (fun h => ?_) (fun h => ?_)
      · refine lv_iconst (v := 0) hx hb dX5_isRowOf_36 (by decide) ?_
        exact g_retRZ hx hb hr (by decide +kernel) hlk hS h dX5_isRowOf_37
      · refine lv_iconst (v := 1) hx hb dX5_isRowOf_32 (by decide) ?_
        refine lv_goto (tgt := 37) hx hb dX5_isRowOf_33 (by decide) ?_
        exact g_retRZ hx hb hr (by decide +kernel) hlk hS h dX5_isRowOf_37
def fX5_entriesOf_s4 (v_z : Nat → Int32) (p1 : Int32) (rec4 : Int32 → Int32 → Option (Int32)) (x1 : Int32) (x2 : Int32) : Option (Int32) :=
  k_if (20 ≤ x2)
  (
    some x1)
  (
    k_b1 (fX5_isRowOf v_z p1 x2) fun (x3 : Int32) =>
    k_j1
    (fun (x4 : Int32) =>
      k_let (x1 + x4) fun (x5 : Int32) =>
      k_let (x2 + 1) fun (x6 : Int32) =>
      rec4 x5 x6)
    (fun K37 =>
    k_if (x3 = 0)
    (
      K37 0)
    (
      k_b1 (fX5_maskNow v_z x2) fun (x7 : Int32) =>
      k_b1 (fX5_kindOf x7) fun (x8 : Int32) =>
      k_if (x8 = 4)
      (
        K37 1)
      (
        K37 0))))
def fX5_entriesOf (v_z : Nat → Int32) (p1 : Int32) : Option (Int32) :=
  k_l2 (fX5_entriesOf_s4 v_z p1) 5000 0 0
theorem hdX5_entriesOf : yX5_entriesOf.cls = RX5 ∧ yX5_entriesOf.cls ≠ "java/lang/invoke/MethodHandle" ∧ yX5_entriesOf.cls ≠ "java/lang/invoke/VarHandle" ∧ (parseMethodDescriptor yX5_entriesOf.desc).map (fun d => d.parameters.length) = some 1 := by decide +kernel
set_option maxRecDepth 100000 in
set_option maxHeartbeats 4000000 in
theorem mX5_entriesOf (l : Launch) (dC : Nat → ClassId) (dI : Nat → Nat → Nat) (cyI cyC cyO : ClassId) (ob a1 a2 a3 a4 a5 a6 a7 a8 : Nat) (v_thrown : Int32) (v_z : Nat → Int32) (v_saved : Nat → Int32) (v_savedMany : Int32) (v_spare : Nat → Int32) (v_buffer : Nat → Int32) (v_typed : Int32) (v_marksBlown : Int32) (v_rests : Nat → Int32) (v_begins : Nat → Int32) (v_orders : Nat → Int32) (v_orderMany : Int32) (v_spot : Int32) (v_wrong : Int32) (v_isShort : Int32) (v_before : Nat → Int32) (v_hash : Int64) (p1 : Int32) {r : Int32} (hf : fX5_entriesOf v_z p1 = some r) : MetRI l yX5_entriesOf cX5_entriesOf 4 (some .int) 7 162 [.ref ob, .int p1] (dC, dI) (tyS cyI cyC cyO) (wX5 cyI cyC ob a1 a2 a3 a4 a5 a6 a7 a8 v_thrown v_z v_saved v_savedMany v_spare v_buffer v_typed v_marksBlown v_rests v_begins v_orders v_orderMany v_spot v_wrong v_isShort v_before v_hash) r := by
  refine metRI_of (by decide) (Nat.le_of_ble_eq_true rfl) ?_
  intro p e s m below meth c ls hC hr hlk hP hK hl
  have hC : CallFix p m c cX5_entriesOf 4 s [.ref ob, .int p1].toArray wA RX5 := hC
  obtain ⟨hx, hb, hml, hown, hts⟩ := id hC
  have hS : va_S kF s.heap s.heap [] := va_S.rf
  have hl : lv_has ls 4 [(0, .ref ob), (1, .int p1)] := hl
  have h := hf
  unfold fX5_entriesOf at h
  obtain ⟨H, hH⟩ : ∃ H, H = s.heap := ⟨_, rfl⟩
  obtain ⟨locs, hlo⟩ : ∃ locs : List Loc, locs = [] := ⟨_, rfl⟩
  rw [← hH] at hP
  rw [← hlo] at hS
  have hS : va_S kF s.heap H locs := by rw [hH]; exact hS
  show W p l e (k_rm 7 162) s m [.ref ob, .int p1].toArray below meth c s.heap [] 0 0 _ _
  rw [← hlo, ← hH]
  refine lv_iconst (v := 0) hx hb dX5_entriesOf_0 (by decide) ?_
  refine lv_istore_n (lv' := [(2, .int 0), (0, .ref ob), (1, .int p1)]) hx hb dX5_entriesOf_1 rfl hl (by decide) rfl (fun ls hl => ?_)
  refine lv_iconst (v := 0) hx hb dX5_entriesOf_2 (by decide) ?_
  refine lv_istore_n (lv' := [(3, .int 0), (2, .int 0), (0, .ref ob), (1, .int p1)]) hx hb dX5_entriesOf_3 rfl hl (by decide) rfl (fun ls hl => ?_)
  obtain ⟨S4, hS4⟩ : ∃ z, z = (fX5_entriesOf_s4 v_z p1) := ⟨_, rfl⟩
  rw [← hS4] at h
  have L4 : ∀ (n : Nat) (x1 : Int32) (x2 : Int32) (H : Heap) (locs : List Loc) (ls : Array Slot), k_l2 S4 n x1 x2 = some r → va_P (dC, dI) vwCl (wX5 cyI cyC ob a1 a2 a3 a4 a5 a6 a7 a8 v_thrown v_z v_saved v_savedMany v_spare v_buffer v_typed v_marksBlown v_rests v_begins v_orders v_orderMany v_spot v_wrong v_isShort v_before v_hash) H → va_S kF s.heap H locs → lv_has ls 4 [(0, .ref ob), (1, .int p1), (2, .int x1), (3, .int x2)] → W p l e (k_rm 7 162) s m [.ref ob, .int p1].toArray below meth c H locs 0 0 (MQ below (qRI r) [.ref ob, .int p1].toArray s 0 0 kF) (F0 m 4 ls []) := by
    intro n
    induction n with
    | zero =>
      intro x1 x2 H locs ls h
      exact (k_l2_0 h).elim
    | succ n ih4 =>
      intro x1 x2 H locs ls h hP hS hl
      have h := k_l2_s h
      have h := k_a3 hS4 h
      unfold fX5_entriesOf_s4 at h
      refine lv_iload_n hx hb dX5_entriesOf_4 rfl (lv_at hl 3 rfl) ?_
      refine lv_bipush (v := 20) hx hb dX5_entriesOf_5 (by decide) ?_
      refine g_icmp_ge (tgt := 45) hx hb dX5_entriesOf_7 (by decide) h (fun h => ?_) (fun h => ?_)
      · refine lv_iload_n hx hb dX5_entriesOf_45 rfl (lv_at hl 2 rfl) ?_
        exact g_retRI hx hb hr hlk hS h dX5_entriesOf_46
      · refine lv_iload_n hx hb dX5_entriesOf_10 rfl (lv_at hl 2 rfl) ?_
        refine lv_aload_n hx hb dX5_entriesOf_11 rfl (lv_at hl 0 rfl) ?_
        refine lv_iload_n hx hb dX5_entriesOf_12 rfl (lv_at hl 1 rfl) ?_
        refine lv_iload_n hx hb dX5_entriesOf_13 rfl (lv_at hl 3 rfl) ?_
        obtain ⟨x3, hc14, h⟩ := k_b1_e h
        refine g_callRI_V (As := [.int p1, .int x2]) (rest := [.int x1]) hC (mX5_isRowOf l dC dI cyI cyC cyO ob a1 a2 a3 a4 a5 a6 a7 a8 v_thrown v_z v_saved v_savedMany v_spare v_buffer v_typed v_marksBlown v_rests v_begins v_orders v_orderMany v_spot v_wrong v_isShort v_before v_hash p1 x2 hc14) q939 q940 q50 q75 q941 2 hdX5_isRowOf ⟨Nat.le_of_ble_eq_true rfl, Nat.le_of_ble_eq_true rfl⟩ ⟨Nat.le_of_ble_eq_true rfl, Nat.le_of_ble_eq_true rfl⟩ rfl rfl hl.1 (Nat.le_of_ble_eq_true rfl) hP hK (va_recv hK hP (ci := 4) (q0 := 0) rfl rfl) hS dX5_entriesOf_14 (fun H locs hk hS => ?_)
        have hP := k_kept hP hk
        obtain ⟨K37, hK37, h⟩ := k_j1_e h
        have J37 : ∀ (x4 : Int32) (H : Heap) (locs : List Loc) (ls : Array Slot), K37 x4 = some r → va_P (dC, dI) vwCl (wX5 cyI cyC ob a1 a2 a3 a4 a5 a6 a7 a8 v_thrown v_z v_saved v_savedMany v_spare v_buffer v_typed v_marksBlown v_rests v_begins v_orders v_orderMany v_spot v_wrong v_isShort v_before v_hash) H → va_S kF s.heap H locs → lv_has ls 4 [(0, .ref ob), (1, .int p1), (3, .int x2)] → W p l e (k_rm 7 162) s m [.ref ob, .int p1].toArray below meth c H locs 0 0 (MQ below (qRI r) [.ref ob, .int p1].toArray s 0 0 kF) (F0 m 37 ls [.int x4, .int x1]) := by
          intro x4 H locs ls h hP hS hl
          have h := k_a1 hK37 h
          refine g_iadd hx hb dX5_entriesOf_37 h (fun x5 h => ?_)
          refine lv_istore_n (lv' := [(2, .int x5), (0, .ref ob), (1, .int p1), (3, .int x2)]) hx hb dX5_entriesOf_38 rfl hl (by decide) rfl (fun ls hl => ?_)
          refine g_iinc (dv := 1) hx hb dX5_entriesOf_39 hl (j := 3) rfl (by decide) (by decide) h (fun x6 ls h hl => ?_)
          have hl : lv_has ls 4 [(3, .int x6), (2, .int x5), (0, .ref ob), (1, .int p1)] := hl
          refine lv_goto (tgt := 4) hx hb dX5_entriesOf_42 (by decide) ?_
          exact ih4 x5 x6 _ _ _ h hP hS (lv_sub hl [2, 3, 1, 0] rfl)
        refine g_if_eq (tgt := 36) hx hb dX5_entriesOf_17 (by decide) h (fun h => ?_) (fun h => ?_)
        · refine lv_iconst (v := 0) hx hb dX5_entriesOf_36 (by decide) ?_
          exact J37 0 _ _ _ h hP hS (lv_sub hl [0, 1, 3] rfl)
        · refine lv_aload_n hx hb dX5_entriesOf_20 rfl (lv_at hl 0 rfl) ?_
          refine lv_iload_n hx hb dX5_entriesOf_21 rfl (lv_at hl 3 rfl) ?_
          obtain ⟨x7, hc22, h⟩ := k_b1_e h
          refine g_callRI_V (As := [.int x2]) (rest := [.int x1]) hC (mX5_maskNow l dC dI cyI cyC cyO ob a1 a2 a3 a4 a5 a6 a7 a8 v_thrown v_z v_saved v_savedMany v_spare v_buffer v_typed v_marksBlown v_rests v_begins v_orders v_orderMany v_spot v_wrong v_isShort v_before v_hash x2 hc22) q782 q783 q22 q75 q784 1 hdX5_maskNow ⟨Nat.le_of_ble_eq_true rfl, Nat.le_of_ble_eq_true rfl⟩ ⟨Nat.le_of_ble_eq_true rfl, Nat.le_of_ble_eq_true rfl⟩ rfl rfl hl.1 (Nat.le_of_ble_eq_true rfl) hP hK (va_recv hK hP (ci := 4) (q0 := 0) rfl rfl) hS dX5_entriesOf_22 (fun H locs hk hS => ?_)
          have hP := k_kept hP hk
          obtain ⟨x8, hc25, h⟩ := k_b1_e h
          refine g_callRI_S (As := [.int x7]) (rest := [.int x1]) hC (mX5_kindOf l dC dI cyI cyC cyO x7 hc25) q806 q807 q75 q808 1 hdX5_kindOf ⟨Nat.le_of_ble_eq_true rfl, Nat.le_of_ble_eq_true rfl⟩ ⟨Nat.le_of_ble_eq_true rfl, Nat.le_of_ble_eq_true rfl⟩ rfl rfl hl.1 (Nat.le_of_ble_eq_true rfl) va_P_nil hK hS dX5_entriesOf_25 (fun H locs hk hS => ?_)
          have hP := k_kept hP hk
          refine lv_iconst (v := 4) hx hb dX5_entriesOf_28 (by decide) ?_
          refine g_icmp_ne (tgt := 36) hx hb dX5_entriesOf_29 (by decide) h (fun h => ?_) (fun h => ?_)
          · refine lv_iconst (v := 0) hx hb dX5_entriesOf_36 (by decide) ?_
            exact J37 0 _ _ _ h hP hS (lv_sub hl [0, 1, 3] rfl)
          · refine lv_iconst (v := 1) hx hb dX5_entriesOf_32 (by decide) ?_
            refine lv_goto (tgt := 37) hx hb dX5_entriesOf_33 (by decide) ?_
            exact J37 1 _ _ _ h hP hS (lv_sub hl [0, 1, 3] rfl)
  exact L4 5000 0 0 _ _ _ h hP hS (lv_sub hl [2, 3, 1, 0] rfl)
