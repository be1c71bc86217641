def fX5_whyNotPut (v_z : Nat → Int32) (p1 : Int32) (p2 : Int32) : Option (Int32) :=
  k_b1 (fX5_isKey p1) fun (x1 : Int32) =>
  k_if (x1 = 0)
  (
    some 1)
  (
    k_b1 (fX5_in p2 0 63) fun (x2 : Int32) =>
    k_if (x2 = 0)
    (
      some 1)
    (
      k_b1 (fX5_nextRow v_z) fun (x3 : Int32) =>
      k_if (x3 = ((-1)))
      (
        some 2)
      (
        some 0)))
theorem hdX5_whyNotPut : yX5_whyNotPut.cls = RX5 ∧ yX5_whyNotPut.cls ≠ "java/lang/invoke/MethodHandle" ∧ yX5_whyNotPut.cls ≠ "java/lang/invoke/VarHandle" ∧ (parseMethodDescriptor yX5_whyNotPut.desc).map (fun d => d.parameters.length) = some 2 := by decide +kernel
set_option maxRecDepth 100000 in
set_option maxHeartbeats 4000000 in
theorem mX5_whyNotPut (l : Launch) (dC : Nat → ClassId) (dI : Nat → Nat → Nat) (cyI cyC cyO : ClassId) (ob a1 a2 a3 a4 a5 a6 a7 a8 : Nat) (v_thrown : Int32) (v_z : Nat → Int32) (v_saved : Nat → Int32) (v_savedMany : Int32) (v_spare : Nat → Int32) (v_buffer : Nat → Int32) (v_typed : Int32) (v_marksBlown : Int32) (v_rests : Nat → Int32) (v_begins : Nat → Int32) (v_orders : Nat → Int32) (v_orderMany : Int32) (v_spot : Int32) (v_wrong : Int32) (v_isShort : Int32) (v_before : Nat → Int32) (v_hash : Int64) (p1 : Int32) (p2 : Int32) {r : Int32} (hf : fX5_whyNotPut v_z p1 p2 = some r) : MetRI l yX5_whyNotPut cX5_whyNotPut 3 (some .int) 7 160 [.ref ob, .int p1, .int p2] (dC, dI) (tyS cyI cyC cyO) (wX5 cyI cyC ob a1 a2 a3 a4 a5 a6 a7 a8 v_thrown v_z v_saved v_savedMany v_spare v_buffer v_typed v_marksBlown v_rests v_begins v_orders v_orderMany v_spot v_wrong v_isShort v_before v_hash) r := by
  refine metRI_of (by decide) (Nat.le_of_ble_eq_true rfl) ?_
  intro p e s m below meth c ls hC hr hlk hP hK hl
  have hC : CallFix p m c cX5_whyNotPut 3 s [.ref ob, .int p1, .int p2].toArray wA RX5 := hC
  obtain ⟨hx, hb, hml, hown, hts⟩ := id hC
  have hS : va_S kF s.heap s.heap [] := va_S.rf
  have hl : lv_has ls 3 [(0, .ref ob), (1, .int p1), (2, .int p2)] := hl
  have h := hf
  unfold fX5_whyNotPut at h
  obtain ⟨H, hH⟩ : ∃ H, H = s.heap := ⟨_, rfl⟩
  obtain ⟨locs, hlo⟩ : ∃ locs : List Loc, locs = [] := ⟨_, rfl⟩
  rw [← hH] at hP
  rw [← hlo] at hS
  have hS : va_S kF s.heap H locs := by rw [hH]; exact hS
  show W p l e (k_rm 7 160) s m [.ref ob, .int p1, .int p2].toArray below meth c s.heap [] 0 0 _ _
  rw [← hlo, ← hH]
  refine lv_iload_n hx hb dX5_whyNotPut_0 rfl (lv_at hl 1 rfl) ?_
  obtain ⟨x1, hc1, h⟩ := k_b1_e h
  refine g_callRI_S (As := [.int p1]) (rest := []) hC (mX5_isKey l dC dI cyI cyC cyO p1 hc1) q776 q777 q75 q778 1 hdX5_isKey ⟨Nat.le_of_ble_eq_true rfl, Nat.le_of_ble_eq_true rfl⟩ ⟨Nat.le_of_ble_eq_true rfl, Nat.le_of_ble_eq_true rfl⟩ rfl rfl hl.1 (Nat.le_of_ble_eq_true rfl) va_P_nil hK hS dX5_whyNotPut_1 (fun H locs hk hS => ?_)
  have hP := k_kept hP hk
  refine g_if_eq (tgt := 17) hx hb dX5_whyNotPut_4 (by decide) h (fun h => ?_) (fun h => ?_)
  · refine lv_iconst (v := 1) hx hb dX5_whyNotPut_17 (by decide) ?_
    refine lv_goto (tgt := 34) hx hb dX5_whyNotPut_18 (by decide) ?_
    exact g_retRI hx hb hr hlk hS h dX5_whyNotPut_34
  · refine lv_iload_n hx hb dX5_whyNotPut_7 rfl (lv_at hl 2 rfl) ?_
    refine lv_iconst (v := 0) hx hb dX5_whyNotPut_8 (by decide) ?_
    refine lv_bipush (v := 63) hx hb dX5_whyNotPut_9 (by decide) ?_
    obtain ⟨x2, hc11, h⟩ := k_b1_e h
    refine g_callRI_S (As := [.int p2, .int 0, .int 63]) (rest := []) hC (mX5_in l dC dI cyI cyC cyO p2 0 63 hc11) q748 q749 q75 q750 3 hdX5_in ⟨Nat.le_of_ble_eq_true rfl, Nat.le_of_ble_eq_true rfl⟩ ⟨Nat.le_of_ble_eq_true rfl, Nat.le_of_ble_eq_true rfl⟩ rfl rfl hl.1 (Nat.le_of_ble_eq_true rfl) va_P_nil hK hS dX5_whyNotPut_11 (fun H locs hk hS => ?_)
    have hP := k_kept hP hk
    refine g_if_ne (tgt := 21) hx hb dX5_whyNotPut_14 (by decide) h (fun h => ?_) (fun h => ?_)
    · refine lv_aload_n hx hb dX5_whyNotPut_21 rfl (lv_at hl 0 rfl) ?_
      obtain ⟨x3, hc22, h⟩ := k_b1_e h
      refine g_callRI_V (As := []) (rest := []) hC (mX5_nextRow l dC dI cyI cyC cyO ob a1 a2 a3 a4 a5 a6 a7 a8 v_thrown v_z v_saved v_savedMany v_spare v_buffer v_typed v_marksBlown v_rests v_begins v_orders v_orderMany v_spot v_wrong v_isShort v_before v_hash hc22) q779 q780 q21 q75 q781 0 hdX5_nextRow ⟨Nat.le_of_ble_eq_true rfl, Nat.le_of_ble_eq_true rfl⟩ ⟨Nat.le_of_ble_eq_true rfl, Nat.le_of_ble_eq_true rfl⟩ rfl rfl hl.1 (Nat.le_of_ble_eq_true rfl) hP hK (va_recv hK hP (ci := 4) (q0 := 0) rfl rfl) hS dX5_whyNotPut_22 (fun H locs hk hS => ?_)
      have hP := k_kept hP hk
      refine lv_iconst (v := (-1)) hx hb dX5_whyNotPut_25 (by decide) ?_
      refine g_icmp_ne (tgt := 33) hx hb dX5_whyNotPut_26 (by decide) h (fun h => ?_) (fun h => ?_)
      · refine lv_iconst (v := 0) hx hb dX5_whyNotPut_33 (by decide) ?_
        exact g_retRI hx hb hr hlk hS h dX5_whyNotPut_34
      · refine lv_iconst (v := 2) hx hb dX5_whyNotPut_29 (by decide) ?_
        refine lv_goto (tgt := 34) hx hb dX5_whyNotPut_30 (by decide) ?_
        exact g_retRI hx hb hr hlk hS h dX5_whyNotPut_34
    · refine lv_iconst (v := 1) hx hb dX5_whyNotPut_17 (by decide) ?_
      refine lv_goto (tgt := 34) hx hb dX5_whyNotPut_18 (by decide) ?_
      exact g_retRI hx hb hr hlk hS h dX5_whyNotPut_34
def fX5_put (v_thrown : Int32) (v_z : Nat → Int32) (v_saved : Nat → Int32) (v_savedMany : Int32) (v_marksBlown : Int32) (p1 : Int32) (p2 : Int32) : Option (Int32 × Int32 × (Nat → Int32) × (Nat → Int32) × Int32 × Int32) :=
  k_b1 (fX5_whyNotPut v_z p1 p2) fun (x1 : Int32) =>
  k_if (x1 ≤ 0)
  (
    k_b2 (fX5_save v_z v_saved v_savedMany) fun (c2 : Nat → Int32) (c3 : Int32) =>
    k_b1 (fX5_nextRow v_z) fun (x4 : Int32) =>
    k_b3 (fX5_putInto v_z v_marksBlown x4 p1 p2) fun (x5 : Int32) (c6 : Nat → Int32) (c7 : Int32) =>
    some (x5, x1, c6, c2, c3, c7))
  (
    some (0, x1, v_z, v_saved, v_savedMany, v_marksBlown))
theorem hdX5_put : yX5_put.cls = RX5 ∧ yX5_put.cls ≠ "java/lang/invoke/MethodHandle" ∧ yX5_put.cls ≠ "java/lang/invoke/VarHandle" ∧ (parseMethodDescriptor yX5_put.desc).map (fun d => d.parameters.length) = some 2 := by decide +kernel
set_option maxRecDepth 100000 in
set_option maxHeartbeats 4000000 in
theorem mX5_put (l : Launch) (dC : Nat → ClassId) (dI : Nat → Nat → Nat) (cyI cyC cyO : ClassId) (ob a1 a2 a3 a4 a5 a6 a7 a8 : Nat) (v_thrown : Int32) (v_z : Nat → Int32) (v_saved : Nat → Int32) (v_savedMany : Int32) (v_spare : Nat → Int32) (v_buffer : Nat → Int32) (v_typed : Int32) (v_marksBlown : Int32) (v_rests : Nat → Int32) (v_begins : Nat → Int32) (v_orders : Nat → Int32) (v_orderMany : Int32) (v_spot : Int32) (v_wrong : Int32) (v_isShort : Int32) (v_before : Nat → Int32) (v_hash : Int64) (p1 : Int32) (p2 : Int32) {r : Int32} {r_thrown : Int32} {r_z : Nat → Int32} {r_saved : Nat → Int32} {r_savedMany : Int32} {r_marksBlown : Int32} (hf : fX5_put v_thrown v_z v_saved v_savedMany v_marksBlown p1 p2 = some (r, r_thrown, r_z, r_saved, r_savedMany, r_marksBlown)) : MetMI l yX5_put cX5_put 3 (some .int) 8 192 [.ref ob, .int p1, .int p2] (dC, dI) (tyS cyI cyC cyO) (wX5 cyI cyC ob a1 a2 a3 a4 a5 a6 a7 a8 v_thrown v_z v_saved v_savedMany v_spare v_buffer v_typed v_marksBlown v_rests v_begins v_orders v_orderMany v_spot v_wrong v_isShort v_before v_hash) (wX5 cyI cyC ob a1 a2 a3 a4 a5 a6 a7 a8 r_thrown r_z r_saved r_savedMany v_spare v_buffer v_typed r_marksBlown v_rests v_begins v_orders v_orderMany v_spot v_wrong v_isShort v_before v_hash) r := by
  refine metMI_of (by decide) (Nat.le_of_ble_eq_true rfl) ?_
  intro p e s m below meth c ls hC hr hlk hP hK hD hl
  have hC : CallFix p m c cX5_put 3 s [.ref ob, .int p1, .int p2].toArray wA RX5 := hC
  obtain ⟨hx, hb, hml, hown, hts⟩ := id hC
  have hS : va_S (k_A (wX5 cyI cyC ob a1 a2 a3 a4 a5 a6 a7 a8 v_thrown v_z v_saved v_savedMany v_spare v_buffer v_typed v_marksBlown v_rests v_begins v_orders v_orderMany v_spot v_wrong v_isShort v_before v_hash)) s.heap s.heap [] := va_S.rf
  have hl : lv_has ls 3 [(0, .ref ob), (1, .int p1), (2, .int p2)] := hl
  have h := hf
  unfold fX5_put at h
  obtain ⟨H, hH⟩ : ∃ H, H = s.heap := ⟨_, rfl⟩
  obtain ⟨locs, hlo⟩ : ∃ locs : List Loc, locs = [] := ⟨_, rfl⟩
  rw [← hH] at hP
  rw [← hlo] at hS
  have hS : va_S (k_A (wX5 cyI cyC ob a1 a2 a3 a4 a5 a6 a7 a8 v_thrown v_z v_saved v_savedMany v_spare v_buffer v_typed v_marksBlown v_rests v_begins v_orders v_orderMany v_spot v_wrong v_isShort v_before v_hash)) s.heap H locs := by rw [hH]; exact hS
  show W p l e (k_rm 8 192) s m [.ref ob, .int p1, .int p2].toArray below meth c s.heap [] 0 0 _ _
  rw [← hlo, ← hH]
  refine lv_aload_n hx hb dX5_put_0 rfl (lv_at hl 0 rfl) ?_
  refine lv_aload_n hx hb dX5_put_1 rfl (lv_at hl 0 rfl) ?_
  refine lv_iload_n hx hb dX5_put_2 rfl (lv_at hl 1 rfl) ?_
  refine lv_iload_n hx hb dX5_put_3 rfl (lv_at hl 2 rfl) ?_
  obtain ⟨x1, hc4, h⟩ := k_b1_e h
  refine g_callRI_V (As := [.int p1, .int p2]) (rest := [.ref ob]) hC (mX5_whyNotPut l dC dI cyI cyC cyO ob a1 a2 a3 a4 a5 a6 a7 a8 v_thrown v_z v_saved v_savedMany v_spare v_buffer v_typed v_marksBlown v_rests v_begins v_orders v_orderMany v_spot v_wrong v_isShort v_before v_hash p1 p2 hc4) q773 q774 q20 q75 q775 2 hdX5_whyNotPut ⟨Nat.le_of_ble_eq_true rfl, Nat.le_of_ble_eq_true rfl⟩ ⟨Nat.le_of_ble_eq_true rfl, Nat.le_of_ble_eq_true rfl⟩ rfl rfl hl.1 (Nat.le_of_ble_eq_true rfl) hP hK (va_recv hK hP (ci := 4) (q0 := 0) rfl rfl) hS dX5_put_4 (fun H locs hk hS => ?_)
  have hP := k_kept hP hk
  refine va_put (D := (dC, dI)) (ci := 4) (v := .int x1) (ty := .int) (C := RX5) (T := TX5) (N := 17) hx hb hts iaX5 tyX5 tyX5_ok nmX5 hown hK hP hD hS 0 rfl rfl 0 (by decide) (hts _ q716) (fun _ h9 => h9) rfl (by decide +kernel) rfl rfl (Nat.le_of_ble_eq_true rfl) dX5_put_7 (fun H locs hP _ hS => ?_)
  have hP : va_P (dC, dI) vwCl (wX5 cyI cyC ob a1 a2 a3 a4 a5 a6 a7 a8 x1 v_z v_saved v_savedMany v_spare v_buffer v_typed v_marksBlown v_rests v_begins v_orders v_orderMany v_spot v_wrong v_isShort v_before v_hash) H := hP
  have hD : va_D (k_A (wX5 cyI cyC ob a1 a2 a3 a4 a5 a6 a7 a8 v_thrown v_z v_saved v_savedMany v_spare v_buffer v_typed v_marksBlown v_rests v_begins v_orders v_orderMany v_spot v_wrong v_isShort v_before v_hash)) (wX5 cyI cyC ob a1 a2 a3 a4 a5 a6 a7 a8 x1 v_z v_saved v_savedMany v_spare v_buffer v_typed v_marksBlown v_rests v_begins v_orders v_orderMany v_spot v_wrong v_isShort v_before v_hash) := k_Dm hD rfl
  refine lv_aload_n hx hb dX5_put_10 rfl (lv_at hl 0 rfl) ?_
  refine va_get (D := (dC, dI)) (ci := 4) (v := .int x1) (C := RX5) (T := TX5) (N := 17) hx hb hts iaX5 hown hK hP 0 rfl rfl 0 (by decide) (hts _ q716) (fun _ h9 => h9) rfl dX5_put_11 ?_
  refine g_if_le (tgt := 19) hx hb dX5_put_14 (by decide) h (fun h => ?_) (fun h => ?_)
  · refine lv_aload_n hx hb dX5_put_19 rfl (lv_at hl 0 rfl) ?_
    obtain ⟨c2, c3, hc20, h⟩ := k_b2_e h
    refine g_callMV_V (As := []) (rest := []) hC (mX5_save l dC dI cyI cyC cyO ob a1 a2 a3 a4 a5 a6 a7 a8 x1 v_z v_saved v_savedMany v_spare v_buffer v_typed v_marksBlown v_rests v_begins v_orders v_orderMany v_spot v_wrong v_isShort v_before v_hash hc20) q763 q764 q18 q75 q765 0 hdX5_save ⟨Nat.le_of_ble_eq_true rfl, Nat.le_of_ble_eq_true rfl⟩ ⟨Nat.le_of_ble_eq_true rfl, Nat.le_of_ble_eq_true rfl⟩ rfl rfl hl.1 (Nat.le_of_ble_eq_true rfl) hP hK hD (va_recv hK hP (ci := 4) (q0 := 0) rfl rfl) hS dX5_put_20 (fun H locs hPn hk hS => ?_)
    have hP : va_P (dC, dI) vwCl (wX5 cyI cyC ob a1 a2 a3 a4 a5 a6 a7 a8 x1 v_z c2 c3 v_spare v_buffer v_typed v_marksBlown v_rests v_begins v_orders v_orderMany v_spot v_wrong v_isShort v_before v_hash) H := hPn
    have hD : va_D (k_A (wX5 cyI cyC ob a1 a2 a3 a4 a5 a6 a7 a8 v_thrown v_z v_saved v_savedMany v_spare v_buffer v_typed v_marksBlown v_rests v_begins v_orders v_orderMany v_spot v_wrong v_isShort v_before v_hash)) (wX5 cyI cyC ob a1 a2 a3 a4 a5 a6 a7 a8 x1 v_z c2 c3 v_spare v_buffer v_typed v_marksBlown v_rests v_begins v_orders v_orderMany v_spot v_wrong v_isShort v_before v_hash) := k_Dm hD rfl
    refine lv_aload_n hx hb dX5_put_23 rfl (lv_at hl 0 rfl) ?_
    refine lv_aload_n hx hb dX5_put_24 rfl (lv_at hl 0 rfl) ?_
    obtain ⟨x4, hc25, h⟩ := k_b1_e h
    refine g_callRI_V (As := []) (rest := [.ref ob]) hC (mX5_nextRow l dC dI cyI cyC cyO ob a1 a2 a3 a4 a5 a6 a7 a8 x1 v_z c2 c3 v_spare v_buffer v_typed v_marksBlown v_rests v_begins v_orders v_orderMany v_spot v_wrong v_isShort v_before v_hash hc25) q779 q780 q21 q75 q781 0 hdX5_nextRow ⟨Nat.le_of_ble_eq_true rfl, Nat.le_of_ble_eq_true rfl⟩ ⟨Nat.le_of_ble_eq_true rfl, Nat.le_of_ble_eq_true rfl⟩ rfl rfl hl.1 (Nat.le_of_ble_eq_true rfl) hP hK (va_recv hK hP (ci := 4) (q0 := 0) rfl rfl) hS dX5_put_25 (fun H locs hk hS => ?_)
    have hP := k_kept hP hk
    refine lv_iload_n hx hb dX5_put_28 rfl (lv_at hl 1 rfl) ?_
    refine lv_iload_n hx hb dX5_put_29 rfl (lv_at hl 2 rfl) ?_
    obtain ⟨x5, c6, c7, hc30, h⟩ := k_b3_e h
    refine g_callMI_V (As := [.int x4, .int p1, .int p2]) (rest := []) hC (mX5_putInto l dC dI cyI cyC cyO ob a1 a2 a3 a4 a5 a6 a7 a8 x1 v_z c2 c3 v_spare v_buffer v_typed v_marksBlown v_rests v_begins v_orders v_orderMany v_spot v_wrong v_isShort v_before v_hash x4 p1 p2 hc30) q794 q795 q26 q75 q796 3 hdX5_putInto ⟨Nat.le_of_ble_eq_true rfl, Nat.le_of_ble_eq_true rfl⟩ ⟨Nat.le_of_ble_eq_true rfl, Nat.le_of_ble_eq_true rfl⟩ rfl rfl hl.1 (Nat.le_of_ble_eq_true rfl) hP hK hD (va_recv hK hP (ci := 4) (q0 := 0) rfl rfl) hS dX5_put_30 (fun H locs hPn hk hS => ?_)
    have hP : va_P (dC, dI) vwCl (wX5 cyI cyC ob a1 a2 a3 a4 a5 a6 a7 a8 x1 c6 c2 c3 v_spare v_buffer v_typed c7 v_rests v_begins v_orders v_orderMany v_spot v_wrong v_isShort v_before v_hash) H := hPn
    have hD : va_D (k_A (wX5 cyI cyC ob a1 a2 a3 a4 a5 a6 a7 a8 v_thrown v_z v_saved v_savedMany v_spare v_buffer v_typed v_marksBlown v_rests v_begins v_orders v_orderMany v_spot v_wrong v_isShort v_before v_hash)) (wX5 cyI cyC ob a1 a2 a3 a4 a5 a6 a7 a8 x1 c6 c2 c3 v_spare v_buffer v_typed c7 v_rests v_begins v_orders v_orderMany v_spot v_wrong v_isShort v_before v_hash) := k_Dm hD rfl
    obtain ⟨e0, e1, e2, e3, e4, e5⟩ := k_t6 h
    exact g_retMI hx hb hr hlk hS e0 (by rw [← e1, ← e2, ← e3, ← e4, ← e5]; exact hP) dX5_put_33
  · refine lv_iconst (v := 0) hx hb dX5_put_17 (by decide) ?_
    obtain ⟨e0, e1, e2, e3, e4, e5⟩ := k_t6 h
    exact g_retMI hx hb hr hlk hS e0 (by rw [← e1, ← e2, ← e3, ← e4, ← e5]; exact hP) dX5_put_18
def fX5_drop (v_thrown : Int32) (v_z : Nat → Int32) (v_saved : Nat → Int32) (v_savedMany : Int32) (p1 : Int32) : Option (Int32 × Int32 × (Nat → Int32) × (Nat → Int32) × Int32) :=
  k_b1 (fX5_isKey p1) fun (x1 : Int32) =>
  k_j1
  (fun (x2 : Int32) =>
    k_if (x2 ≤ 0)
    (
      k_b2 (fX5_save v_z v_saved v_savedMany) fun (c3 : Nat → Int32) (c4 : Int32) =>
      k_b2 (fX5_markAll v_z p1 ((-1)) 3) fun (x5 : Int32) (c6 : Nat → Int32) =>
      some (x5, x2, c6, c3, c4))
    (
      some (0, x2, v_z, v_saved, v_savedMany)))
  (fun K13 =>
  k_if (x1 = 0)
  (
    K13 1)
  (
    K13 0))
theorem hdX5_drop : yX5_drop.cls = RX5 ∧ yX5_drop.cls ≠ "java/lang/invoke/MethodHandle" ∧ yX5_drop.cls ≠ "java/lang/invoke/VarHandle" ∧ (parseMethodDescriptor yX5_drop.desc).map (fun d => d.parameters.length) = some 1 := by decide +kernel
set_option maxRecDepth 100000 in
set_option maxHeartbeats 4000000 in
theorem mX5_drop (l : Launch) (dC : Nat → ClassId) (dI : Nat → Nat → Nat) (cyI cyC cyO : ClassId) (ob a1 a2 a3 a4 a5 a6 a7 a8 : Nat) (v_thrown : Int32) (v_z : Nat → Int32) (v_saved : Nat → Int32) (v_savedMany : Int32) (v_spare : Nat → Int32) (v_buffer : Nat → Int32) (v_typed : Int32) (v_marksBlown : Int32) (v_rests : Nat → Int32) (v_begins : Nat → Int32) (v_orders : Nat → Int32) (v_orderMany : Int32) (v_spot : Int32) (v_wrong : Int32) (v_isShort : Int32) (v_before : Nat → Int32) (v_hash : Int64) (p1 : Int32) {r : Int32} {r_thrown : Int32} {r_z : Nat → Int32} {r_saved : Nat → Int32} {r_savedMany : Int32} (hf : fX5_drop v_thrown v_z v_saved v_savedMany p1 = some (r, r_thrown, r_z, r_saved, r_savedMany)) : MetMI l yX5_drop cX5_drop 2 (some .int) 7 164 [.ref ob, .int p1] (dC, dI) (tyS cyI cyC cyO) (wX5 cyI cyC ob a1 a2 a3 a4 a5 a6 a7 a8 v_thrown v_z v_saved v_savedMany v_spare v_buffer v_typed v_marksBlown v_rests v_begins v_orders v_orderMany v_spot v_wrong v_isShort v_before v_hash) (wX5 cyI cyC ob a1 a2 a3 a4 a5 a6 a7 a8 r_thrown r_z r_saved r_savedMany v_spare v_buffer v_typed v_marksBlown v_rests v_begins v_orders v_orderMany v_spot v_wrong v_isShort v_before v_hash) r := by
  refine metMI_of (by decide) (Nat.le_of_ble_eq_true rfl) ?_
  intro p e s m below meth c ls hC hr hlk hP hK hD hl
  have hC : CallFix p m c cX5_drop 2 s [.ref ob, .int p1].toArray wA RX5 := hC
  obtain ⟨hx, hb, hml, hown, hts⟩ := id hC
  have hS : va_S (k_A (wX5 cyI cyC ob a1 a2 a3 a4 a5 a6 a7 a8 v_thrown v_z v_saved v_savedMany v_spare v_buffer v_typed v_marksBlown v_rests v_begins v_orders v_orderMany v_spot v_wrong v_isShort v_before v_hash)) s.heap s.heap [] := va_S.rf
  have hl : lv_has ls 2 [(0, .ref ob), (1, .int p1)] := hl
  have h := hf
  unfold fX5_drop at h
  obtain ⟨H, hH⟩ : ∃ H, H = s.heap := ⟨_, rfl⟩
  obtain ⟨locs, hlo⟩ : ∃ locs : List Loc, locs = [] := ⟨_, rfl⟩
  rw [← hH] at hP
  rw [← hlo] at hS
  have hS : va_S (k_A (wX5 cyI cyC ob a1 a2 a3 a4 a5 a6 a7 a8 v_thrown v_z v_saved v_savedMany v_spare v_buffer v_typed v_marksBlown v_rests v_begins v_orders v_orderMany v_spot v_wrong v_isShort v_before v_hash)) s.heap H locs := by rw [hH]; exact hS
  show W p l e (k_rm 7 164) s m [.ref ob, .int p1].toArray below meth c s.heap [] 0 0 _ _
  rw [← hlo, ← hH]
  refine lv_aload_n hx hb dX5_drop_0 rfl (lv_at hl 0 rfl) ?_
  refine lv_iload_n hx hb dX5_drop_1 rfl (lv_at hl 1 rfl) ?_
  obtain ⟨x1, hc2, h⟩ := k_b1_e h
  refine g_callRI_S (As := [.int p1]) (rest := [.ref ob]) hC (mX5_isKey l dC dI cyI cyC cyO p1 hc2) q776 q777 q75 q778 1 hdX5_isKey ⟨Nat.le_of_ble_eq_true rfl, Nat.le_of_ble_eq_true rfl⟩ ⟨Nat.le_of_ble_eq_true rfl, Nat.le_of_ble_eq_true rfl⟩ rfl rfl hl.1 (Nat.le_of_ble_eq_true rfl) va_P_nil hK hS dX5_drop_2 (fun H locs hk hS => ?_)
  have hP := k_kept hP hk
  obtain ⟨K13, hK13, h⟩ := k_j1_e h
  have J13 : ∀ (x2 : Int32) (H : Heap) (locs : List Loc) (ls : Array Slot), K13 x2 = some (r, r_thrown, r_z, r_saved, r_savedMany) → va_P (dC, dI) vwCl (wX5 cyI cyC ob a1 a2 a3 a4 a5 a6 a7 a8 v_thrown v_z v_saved v_savedMany v_spare v_buffer v_typed v_marksBlown v_rests v_begins v_orders v_orderMany v_spot v_wrong v_isShort v_before v_hash) H → va_S (k_A (wX5 cyI cyC ob a1 a2 a3 a4 a5 a6 a7 a8 v_thrown v_z v_saved v_savedMany v_spare v_buffer v_typed v_marksBlown v_rests v_begins v_orders v_orderMany v_spot v_wrong v_isShort v_before v_hash)) s.heap H locs → lv_has ls 2 [(0, .ref ob), (1, .int p1)] → W p l e (k_rm 7 164) s m [.ref ob, .int p1].toArray below meth c H locs 0 0 (MQ below (qMI r (dC, dI) (wX5 cyI cyC ob a1 a2 a3 a4 a5 a6 a7 a8 v_thrown v_z v_saved v_savedMany v_spare v_buffer v_typed v_marksBlown v_rests v_begins v_orders v_orderMany v_spot v_wrong v_isShort v_before v_hash) (wX5 cyI cyC ob a1 a2 a3 a4 a5 a6 a7 a8 r_thrown r_z r_saved r_savedMany v_spare v_buffer v_typed v_marksBlown v_rests v_begins v_orders v_orderMany v_spot v_wrong v_isShort v_before v_hash)) [.ref ob, .int p1].toArray s 0 0 (k_A (wX5 cyI cyC ob a1 a2 a3 a4 a5 a6 a7 a8 v_thrown v_z v_saved v_savedMany v_spare v_buffer v_typed v_marksBlown v_rests v_begins v_orders v_orderMany v_spot v_wrong v_isShort v_before v_hash))) (F0 m 13 ls [.int x2, .ref ob]) := by
    intro x2 H locs ls h hP hS hl
    have h := k_a1 hK13 h
    refine va_put (D := (dC, dI)) (ci := 4) (v := .int x2) (ty := .int) (C := RX5) (T := TX5) (N := 17) hx hb hts iaX5 tyX5 tyX5_ok nmX5 hown hK hP hD hS 0 rfl rfl 0 (by decide) (hts _ q716) (fun _ h9 => h9) rfl (by decide +kernel) rfl rfl (Nat.le_of_ble_eq_true rfl) dX5_drop_13 (fun H locs hP _ hS => ?_)
    have hP : va_P (dC, dI) vwCl (wX5 cyI cyC ob a1 a2 a3 a4 a5 a6 a7 a8 x2 v_z v_saved v_savedMany v_spare v_buffer v_typed v_marksBlown v_rests v_begins v_orders v_orderMany v_spot v_wrong v_isShort v_before v_hash) H := hP
    have hD : va_D (k_A (wX5 cyI cyC ob a1 a2 a3 a4 a5 a6 a7 a8 v_thrown v_z v_saved v_savedMany v_spare v_buffer v_typed v_marksBlown v_rests v_begins v_orders v_orderMany v_spot v_wrong v_isShort v_before v_hash)) (wX5 cyI cyC ob a1 a2 a3 a4 a5 a6 a7 a8 x2 v_z v_saved v_savedMany v_spare v_buffer v_typed v_marksBlown v_rests v_begins v_orders v_orderMany v_spot v_wrong v_isShort v_before v_hash) := k_Dm hD rfl
    refine lv_aload_n hx hb dX5_drop_16 rfl (lv_at hl 0 rfl) ?_
    refine va_get (D := (dC, dI)) (ci := 4) (v := .int x2) (C := RX5) (T := TX5) (N := 17) hx hb hts iaX5 hown hK hP 0 rfl rfl 0 (by decide) (hts _ q716) (fun _ h9 => h9) rfl dX5_drop_17 ?_
    refine g_if_le (tgt := 25) hx hb dX5_drop_20 (by decide) h (fun h => ?_) (fun h => ?_)
    · refine lv_aload_n hx hb dX5_drop_25 rfl (lv_at hl 0 rfl) ?_
      obtain ⟨c3, c4, hc26, h⟩ := k_b2_e h
      refine g_callMV_V (As := []) (rest := []) hC (mX5_save l dC dI cyI cyC cyO ob a1 a2 a3 a4 a5 a6 a7 a8 x2 v_z v_saved v_savedMany v_spare v_buffer v_typed v_marksBlown v_rests v_begins v_orders v_orderMany v_spot v_wrong v_isShort v_before v_hash hc26) q763 q764 q18 q75 q765 0 hdX5_save ⟨Nat.le_of_ble_eq_true rfl, Nat.le_of_ble_eq_true rfl⟩ ⟨Nat.le_of_ble_eq_true rfl, Nat.le_of_ble_eq_true rfl⟩ rfl rfl hl.1 (Nat.le_of_ble_eq_true rfl) hP hK hD (va_recv hK hP (ci := 4) (q0 := 0) rfl rfl) hS dX5_drop_26 (fun H locs hPn hk hS => ?_)
      have hP : va_P (dC, dI) vwCl (wX5 cyI cyC ob a1 a2 a3 a4 a5 a6 a7 a8 x2 v_z c3 c4 v_spare v_buffer v_typed v_marksBlown v_rests v_begins v_orders v_orderMany v_spot v_wrong v_isShort v_before v_hash) H := hPn
      have hD : va_D (k_A (wX5 cyI cyC ob a1 a2 a3 a4 a5 a6 a7 a8 v_thrown v_z v_saved v_savedMany v_spare v_buffer v_typed v_marksBlown v_rests v_begins v_orders v_orderMany v_spot v_wrong v_isShort v_before v_hash)) (wX5 cyI cyC ob a1 a2 a3 a4 a5 a6 a7 a8 x2 v_z c3 c4 v_spare v_buffer v_typed v_marksBlown v_rests v_begins v_orders v_orderMany v_spot v_wrong v_isShort v_before v_hash) := k_Dm hD rfl
      refine lv_aload_n hx hb dX5_drop_29 rfl (lv_at hl 0 rfl) ?_
      refine lv_iload_n hx hb dX5_drop_30 rfl (lv_at hl 1 rfl) ?_
      refine lv_iconst (v := (-1)) hx hb dX5_drop_31 (by decide) ?_
      refine lv_iconst (v := 3) hx hb dX5_drop_32 (by decide) ?_
      obtain ⟨x5, c6, hc33, h⟩ := k_b2_e h
      refine g_callMI_V (As := [.int p1, .int ((-1)), .int 3]) (rest := []) hC (mX5_markAll l dC dI cyI cyC cyO ob a1 a2 a3 a4 a5 a6 a7 a8 x2 v_z c3 c4 v_spare v_buffer v_typed v_marksBlown v_rests v_begins v_orders v_orderMany v_spot v_wrong v_isShort v_before v_hash p1 ((-1)) 3 hc33) q815 q816 q28 q75 q817 3 hdX5_markAll ⟨Nat.le_of_ble_eq_true rfl, Nat.le_of_ble_eq_true rfl⟩ ⟨Nat.le_of_ble_eq_true rfl, Nat.le_of_ble_eq_true rfl⟩ rfl rfl hl.1 (Nat.le_of_ble_eq_true rfl) hP hK hD (va_recv hK hP (ci := 4) (q0 := 0) rfl rfl) hS dX5_drop_33 (fun H locs hPn hk hS => ?_)
      have hP : va_P (dC, dI) vwCl (wX5 cyI cyC ob a1 a2 a3 a4 a5 a6 a7 a8 x2 c6 c3 c4 v_spare v_buffer v_typed v_marksBlown v_rests v_begins v_orders v_orderMany v_spot v_wrong v_isShort v_before v_hash) H := hPn
      have hD : va_D (k_A (wX5 cyI cyC ob a1 a2 a3 a4 a5 a6 a7 a8 v_thrown v_z v_saved v_savedMany v_spare v_buffer v_typed v_marksBlown v_rests v_begins v_orders v_orderMany v_spot v_wrong v_isShort v_before v_hash)) (wX5 cyI cyC ob a1 a2 a3 a4 a5 a6 a7 a8 x2 c6 c3 c4 v_spare v_buffer v_typed v_marksBlown v_rests v_begins v_orders v_orderMany v_spot v_wrong v_isShort v_before v_hash) := k_Dm hD rfl
      obtain ⟨e0, e1, e2, e3, e4⟩ := k_t5 h
      exact g_retMI hx hb hr hlk hS e0 (by rw [← e1, ← e2, ← e3, ← e4]; exact hP) dX5_drop_36
    · refine lv_iconst (v := 0) hx hb dX5_drop_23 (by decide) ?_
      obtain ⟨e0, e1, e2, e3, e4⟩ := k_t5 h
      exact g_retMI hx hb hr hlk hS e0 (by rw [← e1, ← e2, ← e3, ← e4]; exact hP) dX5_drop_24
  refine g_if_eq (tgt := 12) hx hb dX5_drop_5 (by decide) h (fun h => ?_) (fun h => ?_)
  · refine lv_iconst (v := 1) hx hb dX5_drop_12 (by decide) ?_
    exact J13 1 _ _ _ h hP hS (lv_sub hl [0, 1] rfl)
  · refine lv_iconst (v := 0) hx hb dX5_drop_8 (by decide) ?_
    refine lv_goto (tgt := 13) hx hb dX5_drop_9 (by decide) ?_
    exact J13 0 _ _ _ h hP hS (lv_sub hl [0, 1] rfl)
def fX5_lockedMany_s4 (v_z : Nat → Int32) (rec4 : Int32 → Int32 → Option (Int32)) (x1 : Int32) (x2 : Int32) : Option (Int32) :=
  k_if (20 ≤ x2)
  (
    some x1)
  (
    k_b1 (fX5_isLocked v_z x2) fun (x3 : Int32) =>
    k_j1
    (fun (x4 : Int32) =>
      k_let (x1 + x4) fun (x5 : Int32) =>
      k_let (x2 + 1) fun (x6 : Int32) =>
      rec4 x5 x6)
    (fun K24 =>
    k_if (x3 = 0)
    (
      K24 0)
    (
      K24 1)))
def fX5_lockedMany (v_z : Nat → Int32) : Option (Int32) :=
  k_l2 (fX5_lockedMany_s4 v_z) 5000 0 0
theorem hdX5_lockedMany : yX5_lockedMany.cls = RX5 ∧ yX5_lockedMany.cls ≠ "java/lang/invoke/MethodHandle" ∧ yX5_lockedMany.cls ≠ "java/lang/invoke/VarHandle" ∧ (parseMethodDescriptor yX5_lockedMany.desc).map (fun d => d.parameters.length) = some 0 := by decide +kernel
set_option maxRecDepth 100000 in
set_option maxHeartbeats 4000000 in
theorem mX5_lockedMany (l : Launch) (dC : Nat → ClassId) (dI : Nat → Nat → Nat) (cyI cyC cyO : ClassId) (ob a1 a2 a3 a4 a5 a6 a7 a8 : Nat) (v_thrown : Int32) (v_z : Nat → Int32) (v_saved : Nat → Int32) (v_savedMany : Int32) (v_spare : Nat → Int32) (v_buffer : Nat → Int32) (v_typed : Int32) (v_marksBlown : Int32) (v_rests : Nat → Int32) (v_begins : Nat → Int32) (v_orders : Nat → Int32) (v_orderMany : Int32) (v_spot : Int32) (v_wrong : Int32) (v_isShort : Int32) (v_before : Nat → Int32) (v_hash : Int64)  {r : Int32} (hf : fX5_lockedMany v_z = some r) : MetRI l yX5_lockedMany cX5_lockedMany 3 (some .int) 4 89 [.ref ob] (dC, dI) (tyS cyI cyC cyO) (wX5 cyI cyC ob a1 a2 a3 a4 a5 a6 a7 a8 v_thrown v_z v_saved v_savedMany v_spare v_buffer v_typed v_marksBlown v_rests v_begins v_orders v_orderMany v_spot v_wrong v_isShort v_before v_hash) r := by
  refine metRI_of (by decide) (Nat.le_of_ble_eq_true rfl) ?_
  intro p e s m below meth c ls hC hr hlk hP hK hl
  have hC : CallFix p m c cX5_lockedMany 3 s [.ref ob].toArray wA RX5 := hC
  obtain ⟨hx, hb, hml, hown, hts⟩ := id hC
  have hS : va_S kF s.heap s.heap [] := va_S.rf
  have hl : lv_has ls 3 [(0, .ref ob)] := hl
  have h := hf
  unfold fX5_lockedMany at h
  obtain ⟨H, hH⟩ : ∃ H, H = s.heap := ⟨_, rfl⟩
  obtain ⟨locs, hlo⟩ : ∃ locs : List Loc, locs = [] := ⟨_, rfl⟩
  rw [← hH] at hP
  rw [← hlo] at hS
  have hS : va_S kF s.heap H locs := by rw [hH]; exact hS
  show W p l e (k_rm 4 89) s m [.ref ob].toArray below meth c s.heap [] 0 0 _ _
  rw [← hlo, ← hH]
  refine lv_iconst (v := 0) hx hb dX5_lockedMany_0 (by decide) ?_
  refine lv_istore_n (lv' := [(1, .int 0), (0, .ref ob)]) hx hb dX5_lockedMany_1 rfl hl (by decide) rfl (fun ls hl => ?_)
  refine lv_iconst (v := 0) hx hb dX5_lockedMany_2 (by decide) ?_
  refine lv_istore_n (lv' := [(2, .int 0), (1, .int 0), (0, .ref ob)]) hx hb dX5_lockedMany_3 rfl hl (by decide) rfl (fun ls hl => ?_)
  obtain ⟨S4, hS4⟩ : ∃ z, z = (fX5_lockedMany_s4 v_z) := ⟨_, rfl⟩
  rw [← hS4] at h
  have L4 : ∀ (n : Nat) (x1 : Int32) (x2 : Int32) (H : Heap) (locs : List Loc) (ls : Array Slot), k_l2 S4 n x1 x2 = some r → va_P (dC, dI) vwCl (wX5 cyI cyC ob a1 a2 a3 a4 a5 a6 a7 a8 v_thrown v_z v_saved v_savedMany v_spare v_buffer v_typed v_marksBlown v_rests v_begins v_orders v_orderMany v_spot v_wrong v_isShort v_before v_hash) H → va_S kF s.heap H locs → lv_has ls 3 [(0, .ref ob), (1, .int x1), (2, .int x2)] → W p l e (k_rm 4 89) s m [.ref ob].toArray below meth c H locs 0 0 (MQ below (qRI r) [.ref ob].toArray s 0 0 kF) (F0 m 4 ls []) := by
    intro n
    induction n with
    | zero =>
      intro x1 x2 H locs ls h
      exact (k_l2_0 h).elim
    | succ n ih4 =>
      intro x1 x2 H locs ls h hP hS hl
      have h := k_l2_s h
      have h := k_a3 hS4 h
      unfold fX5_lockedMany_s4 at h
      refine lv_iload_n hx hb dX5_lockedMany_4 rfl (lv_at hl 2 rfl) ?_
      refine lv_bipush (v := 20) hx hb dX5_lockedMany_5 (by decide) ?_
      refine g_icmp_ge (tgt := 32) hx hb dX5_lockedMany_7 (by decide) h (fun h => ?_) (fun h => ?_)
      · refine lv_iload_n hx hb dX5_lockedMany_32 rfl (lv_at hl 1 rfl) ?_
        exact g_retRI hx hb hr hlk hS h dX5_lockedMany_33
      · refine lv_iload_n hx hb dX5_lockedMany_10 rfl (lv_at hl 1 rfl) ?_
        refine lv_aload_n hx hb dX5_lockedMany_11 rfl (lv_at hl 0 rfl) ?_
        refine lv_iload_n hx hb dX5_lockedMany_12 rfl (lv_at hl 2 rfl) ?_
        obtain ⟨x3, hc13, h⟩ := k_b1_e h
        refine g_callRI_V (As := [.int x2]) (rest := [.int x1]) hC (mX5_isLocked l dC dI cyI cyC cyO ob a1 a2 a3 a4 a5 a6 a7 a8 v_thrown v_z v_saved v_savedMany v_spare v_buffer v_typed v_marksBlown v_rests v_begins v_orders v_orderMany v_spot v_wrong v_isShort v_before v_hash x2 hc13) q751 q752 q14 q75 q753 1 hdX5_isLocked ⟨Nat.le_of_ble_eq_true rfl, Nat.le_of_ble_eq_true rfl⟩ ⟨Nat.le_of_ble_eq_true rfl, Nat.le_of_ble_eq_true rfl⟩ rfl rfl hl.1 (Nat.le_of_ble_eq_true rfl) hP hK (va_recv hK hP (ci := 4) (q0 := 0) rfl rfl) hS dX5_lockedMany_13 (fun H locs hk hS => ?_)
        have hP := k_kept hP hk
        obtain ⟨K24, hK24, h⟩ := k_j1_e h
        have J24 : ∀ (x4 : Int32) (H : Heap) (locs : List Loc) (ls : Array Slot), K24 x4 = some r → va_P (dC, dI) vwCl (wX5 cyI cyC ob a1 a2 a3 a4 a5 a6 a7 a8 v_thrown v_z v_saved v_savedMany v_spare v_buffer v_typed v_marksBlown v_rests v_begins v_orders v_orderMany v_spot v_wrong v_isShort v_before v_hash) H → va_S kF s.heap H locs → lv_has ls 3 [(0, .ref ob), (2, .int x2)] → W p l e (k_rm 4 89) s m [.ref ob].toArray below meth c H locs 0 0 (MQ below (qRI r) [.ref ob].toArray s 0 0 kF) (F0 m 24 ls [.int x4, .int x1]) := by
          intro x4 H locs ls h hP hS hl
          have h := k_a1 hK24 h
          refine g_iadd hx hb dX5_lockedMany_24 h (fun x5 h => ?_)
          refine lv_istore_n (lv' := [(1, .int x5), (0, .ref ob), (2, .int x2)]) hx hb dX5_lockedMany_25 rfl hl (by decide) rfl (fun ls hl => ?_)
          refine g_iinc (dv := 1) hx hb dX5_lockedMany_26 hl (j := 2) rfl (by decide) (by decide) h (fun x6 ls h hl => ?_)
          have hl : lv_has ls 3 [(2, .int x6), (1, .int x5), (0, .ref ob)] := hl
          refine lv_goto (tgt := 4) hx hb dX5_lockedMany_29 (by decide) ?_
          exact ih4 x5 x6 _ _ _ h hP hS (lv_sub hl [2, 1, 0] rfl)
        refine g_if_eq (tgt := 23) hx hb dX5_lockedMany_16 (by decide) h (fun h => ?_) (fun h => ?_)
        · refine lv_iconst (v := 0) hx hb dX5_lockedMany_23 (by decide) ?_
          exact J24 0 _ _ _ h hP hS (lv_sub hl [0, 2] rfl)
        · refine lv_iconst (v := 1) hx hb dX5_lockedMany_19 (by decide) ?_
          refine lv_goto (tgt := 24) hx hb dX5_lockedMany_20 (by decide) ?_
          exact J24 1 _ _ _ h hP hS (lv_sub hl [0, 2] rfl)
  exact L4 5000 0 0 _ _ _ h hP hS (lv_sub hl [2, 1, 0] rfl)
def fX5_whyNotChange (v_z : Nat → Int32) (p1 : Int32) : Option (Int32) :=
  k_b1 (fX5_isRow p1) fun (x1 : Int32) =>
  k_if (x1 = 0)
  (
    some 1)
  (
    k_b1 (fX5_isLocked v_z p1) fun (x2 : Int32) =>
    k_if (x2 = 0)
    (
      some 0)
    (
      some 2))
theorem hdX5_whyNotChange : yX5_whyNotChange.cls = RX5 ∧ yX5_whyNotChange.cls ≠ "java/lang/invoke/MethodHandle" ∧ yX5_whyNotChange.cls ≠ "java/lang/invoke/VarHandle" ∧ (parseMethodDescriptor yX5_whyNotChange.desc).map (fun d => d.parameters.length) = some 1 := by decide +kernel
set_option maxRecDepth 100000 in
set_option maxHeartbeats 4000000 in
theorem mX5_whyNotChange (l : Launch) (dC : Nat → ClassId) (dI : Nat → Nat → Nat) (cyI cyC cyO : ClassId) (ob a1 a2 a3 a4 a5 a6 a7 a8 : Nat) (v_thrown : Int32) (v_z : Nat → Int32) (v_saved : Nat → Int32) (v_savedMany : Int32) (v_spare : Nat → Int32) (v_buffer : Nat → Int32) (v_typed : Int32) (v_marksBlown : Int32) (v_rests : Nat → Int32) (v_begins : Nat → Int32) (v_orders : Nat → Int32) (v_orderMany : Int32) (v_spot : Int32) (v_wrong : Int32) (v_isShort : Int32) (v_before : Nat → Int32) (v_hash : Int64) (p1 : Int32) {r : Int32} (hf : fX5_whyNotChange v_z p1 = some r) : MetRI l yX5_whyNotChange cX5_whyNotChange 2 (some .int) 4 89 [.ref ob, .int p1] (dC, dI) (tyS cyI cyC cyO) (wX5 cyI cyC ob a1 a2 a3 a4 a5 a6 a7 a8 v_thrown v_z v_saved v_savedMany v_spare v_buffer v_typed v_marksBlown v_rests v_begins v_orders v_orderMany v_spot v_wrong v_isShort v_before v_hash) r := by
  refine metRI_of (by decide) (Nat.le_of_ble_eq_true rfl) ?_
  intro p e s m below meth c ls hC hr hlk hP hK hl
  have hC : CallFix p m c cX5_whyNotChange 2 s [.ref ob, .int p1].toArray wA RX5 := hC
  obtain ⟨hx, hb, hml, hown, hts⟩ := id hC
  have hS : va_S kF s.heap s.heap [] := va_S.rf
  have hl : lv_has ls 2 [(0, .ref ob), (1, .int p1)] := hl
  have h := hf
  unfold fX5_whyNotChange at h
  obtain ⟨H, hH⟩ : ∃ H, H = s.heap := ⟨_, rfl⟩
  obtain ⟨locs, hlo⟩ : ∃ locs : List Loc, locs = [] := ⟨_, rfl⟩
  rw [← hH] at hP
  rw [← hlo] at hS
  have hS : va_S kF s.heap H locs := by rw [hH]; exact hS
  show W p l e (k_rm 4 89) s m [.ref ob, .int p1].toArray below meth c s.heap [] 0 0 _ _
  rw [← hlo, ← hH]
  refine lv_iload_n hx hb dX5_whyNotChange_0 rfl (lv_at hl 1 rfl) ?_
  obtain ⟨x1, hc1, h⟩ := k_b1_e h
  refine g_callRI_S (As := [.int p1]) (rest := []) hC (mX5_isRow l dC dI cyI cyC cyO p1 hc1) q745 q746 q75 q747 1 hdX5_isRow ⟨Nat.le_of_ble_eq_true rfl, Nat.le_of_ble_eq_true rfl⟩ ⟨Nat.le_of_ble_eq_true rfl, Nat.le_of_ble_eq_true rfl⟩ rfl rfl hl.1 (Nat.le_of_ble_eq_true rfl) va_P_nil hK hS dX5_whyNotChange_1 (fun H locs hk hS => ?_)
  have hP := k_kept hP hk
  refine g_if_ne (tgt := 11) hx hb dX5_whyNotChange_4 (by decide) h (fun h => ?_) (fun h => ?_)
  · refine lv_aload_n hx hb dX5_whyNotChange_11 rfl (lv_at hl 0 rfl) ?_
    refine lv_iload_n hx hb dX5_whyNotChange_12 rfl (lv_at hl 1 rfl) ?_
    obtain ⟨x2, hc13, h⟩ := k_b1_e h
    refine g_callRI_V (As := [.int p1]) (rest := []) hC (mX5_isLocked l dC dI cyI cyC cyO ob a1 a2 a3 a4 a5 a6 a7 a8 v_thrown v_z v_saved v_savedMany v_spare v_buffer v_typed v_marksBlown v_rests v_begins v_orders v_orderMany v_spot v_wrong v_isShort v_before v_hash p1 hc13) q751 q752 q14 q75 q753 1 hdX5_isLocked ⟨Nat.le_of_ble_eq_true rfl, Nat.le_of_ble_eq_true rfl⟩ ⟨Nat.le_of_ble_eq_true rfl, Nat.le_of_ble_eq_true rfl⟩ rfl rfl hl.1 (Nat.le_of_ble_eq_true rfl) hP hK (va_recv hK hP (ci := 4) (q0 := 0) rfl rfl) hS dX5_whyNotChange_13 (fun H locs hk hS => ?_)
    have hP := k_kept hP hk
    refine g_if_eq (tgt := 23) hx hb dX5_whyNotChange_16 (by decide) h (fun h => ?_) (fun h => ?_)
    · refine lv_iconst (v := 0) hx hb dX5_whyNotChange_23 (by decide) ?_
      exact g_retRI hx hb hr hlk hS h dX5_whyNotChange_24
    · refine lv_iconst (v := 2) hx hb dX5_whyNotChange_19 (by decide) ?_
      refine lv_goto (tgt := 24) hx hb dX5_whyNotChange_20 (by decide) ?_
      exact g_retRI hx hb hr hlk hS h dX5_whyNotChange_24
  · refine lv_iconst (v := 1) hx hb dX5_whyNotChange_7 (by decide) ?_
    refine lv_goto (tgt := 24) hx hb dX5_whyNotChange_8 (by decide) ?_
    exact g_retRI hx hb hr hlk hS h dX5_whyNotChange_24
def fX5_lock (v_thrown : Int32) (v_z : Nat → Int32) (v_saved : Nat → Int32) (v_savedMany : Int32) (p1 : Int32) : Option (Int32 × Int32 × (Nat → Int32) × (Nat → Int32) × Int32) :=
  k_b1 (fX5_whyNotChange v_z p1) fun (x1 : Int32) =>
  k_if (x1 ≤ 0)
  (
    k_b2 (fX5_save v_z v_saved v_savedMany) fun (c2 : Nat → Int32) (c3 : Int32) =>
    k_b1 (fX5_blowOne v_z p1 15 3) fun (c4 : Nat → Int32) =>
    k_b1 (fX5_lockedMany c4) fun (x5 : Int32) =>
    some (x5, x1, c4, c2, c3))
  (
    some (0, x1, v_z, v_saved, v_savedMany))
theorem hdX5_lock : yX5_lock.cls = RX5 ∧ yX5_lock.cls ≠ "java/lang/invoke/MethodHandle" ∧ yX5_lock.cls ≠ "java/lang/invoke/VarHandle" ∧ (parseMethodDescriptor yX5_lock.desc).map (fun d => d.parameters.length) = some 1 := by decide +kernel
set_option maxRecDepth 100000 in
set_option maxHeartbeats 4000000 in
theorem mX5_lock (l : Launch) (dC : Nat → ClassId) (dI : Nat → Nat → Nat) (cyI cyC cyO : ClassId) (ob a1 a2 a3 a4 a5 a6 a7 a8 : Nat) (v_thrown : Int32) (v_z : Nat → Int32) (v_saved : Nat → Int32) (v_savedMany : Int32) (v_spare : Nat → Int32) (v_buffer : Nat → Int32) (v_typed : Int32) (v_marksBlown : Int32) (v_rests : Nat → Int32) (v_begins : Nat → Int32) (v_orders : Nat → Int32) (v_orderMany : Int32) (v_spot : Int32) (v_wrong : Int32) (v_isShort : Int32) (v_before : Nat → Int32) (v_hash : Int64) (p1 : Int32) {r : Int32} {r_thrown : Int32} {r_z : Nat → Int32} {r_saved : Nat → Int32} {r_savedMany : Int32} (hf : fX5_lock v_thrown v_z v_saved v_savedMany p1 = some (r, r_thrown, r_z, r_saved, r_savedMany)) : MetMI l yX5_lock cX5_lock 2 (some .int) 5 111 [.ref ob, .int p1] (dC, dI) (tyS cyI cyC cyO) (wX5 cyI cyC ob a1 a2 a3 a4 a5 a6 a7 a8 v_thrown v_z v_saved v_savedMany v_spare v_buffer v_typed v_marksBlown v_rests v_begins v_orders v_orderMany v_spot v_wrong v_isShort v_before v_hash) (wX5 cyI cyC ob a1 a2 a3 a4 a5 a6 a7 a8 r_thrown r_z r_saved r_savedMany v_spare v_buffer v_typed v_marksBlown v_rests v_begins v_orders v_orderMany v_spot v_wrong v_isShort v_before v_hash) r := by
  refine metMI_of (by decide) (Nat.le_of_ble_eq_true rfl) ?_
  intro p e s m below meth c ls hC hr hlk hP hK hD hl
  have hC : CallFix p m c cX5_lock 2 s [.ref ob, .int p1].toArray wA RX5 := hC
  obtain ⟨hx, hb, hml, hown, hts⟩ := id hC
  have hS : va_S (k_A (wX5 cyI cyC ob a1 a2 a3 a4 a5 a6 a7 a8 v_thrown v_z v_saved v_savedMany v_spare v_buffer v_typed v_marksBlown v_rests v_begins v_orders v_orderMany v_spot v_wrong v_isShort v_before v_hash)) s.heap s.heap [] := va_S.rf
  have hl : lv_has ls 2 [(0, .ref ob), (1, .int p1)] := hl
  have h := hf
  unfold fX5_lock at h
  obtain ⟨H, hH⟩ : ∃ H, H = s.heap := ⟨_, rfl⟩
  obtain ⟨locs, hlo⟩ : ∃ locs : List Loc, locs = [] := ⟨_, rfl⟩
  rw [← hH] at hP
  rw [← hlo] at hS
  have hS : va_S (k_A (wX5 cyI cyC ob a1 a2 a3 a4 a5 a6 a7 a8 v_thrown v_z v_saved v_savedMany v_spare v_buffer v_typed v_marksBlown v_rests v_begins v_orders v_orderMany v_spot v_wrong v_isShort v_before v_hash)) s.heap H locs := by rw [hH]; exact hS
  show W p l e (k_rm 5 111) s m [.ref ob, .int p1].toArray below meth c s.heap [] 0 0 _ _
  rw [← hlo, ← hH]
  refine lv_aload_n hx hb dX5_lock_0 rfl (lv_at hl 0 rfl) ?_
  refine lv_aload_n hx hb dX5_lock_1 rfl (lv_at hl 0 rfl) ?_
  refine lv_iload_n hx hb dX5_lock_2 rfl (lv_at hl 1 rfl) ?_
  obtain ⟨x1, hc3, h⟩ := k_b1_e h
  refine g_callRI_V (As := [.int p1]) (rest := [.ref ob]) hC (mX5_whyNotChange l dC dI cyI cyC cyO ob a1 a2 a3 a4 a5 a6 a7 a8 v_thrown v_z v_saved v_savedMany v_spare v_buffer v_typed v_marksBlown v_rests v_begins v_orders v_orderMany v_spot v_wrong v_isShort v_before v_hash p1 hc3) q826 q827 q29 q75 q828 1 hdX5_whyNotChange ⟨Nat.le_of_ble_eq_true rfl, Nat.le_of_ble_eq_true rfl⟩ ⟨Nat.le_of_ble_eq_true rfl, Nat.le_of_ble_eq_true rfl⟩ rfl rfl hl.1 (Nat.le_of_ble_eq_true rfl) hP hK (va_recv hK hP (ci := 4) (q0 := 0) rfl rfl) hS dX5_lock_3 (fun H locs hk hS => ?_)
  have hP := k_kept hP hk
  refine va_put (D := (dC, dI)) (ci := 4) (v := .int x1) (ty := .int) (C := RX5) (T := TX5) (N := 17) hx hb hts iaX5 tyX5 tyX5_ok nmX5 hown hK hP hD hS 0 rfl rfl 0 (by decide) (hts _ q716) (fun _ h9 => h9) rfl (by decide +kernel) rfl rfl (Nat.le_of_ble_eq_true rfl) dX5_lock_6 (fun H locs hP _ hS => ?_)
  have hP : va_P (dC, dI) vwCl (wX5 cyI cyC ob a1 a2 a3 a4 a5 a6 a7 a8 x1 v_z v_saved v_savedMany v_spare v_buffer v_typed v_marksBlown v_rests v_begins v_orders v_orderMany v_spot v_wrong v_isShort v_before v_hash) H := hP
  have hD : va_D (k_A (wX5 cyI cyC ob a1 a2 a3 a4 a5 a6 a7 a8 v_thrown v_z v_saved v_savedMany v_spare v_buffer v_typed v_marksBlown v_rests v_begins v_orders v_orderMany v_spot v_wrong v_isShort v_before v_hash)) (wX5 cyI cyC ob a1 a2 a3 a4 a5 a6 a7 a8 x1 v_z v_saved v_savedMany v_spare v_buffer v_typed v_marksBlown v_rests v_begins v_orders v_orderMany v_spot v_wrong v_isShort v_before v_hash) := k_Dm hD rfl
  refine lv_aload_n hx hb dX5_lock_9 rfl (lv_at hl 0 rfl) ?_
  refine va_get (D := (dC, dI)) (ci := 4) (v := .int x1) (C := RX5) (T := TX5) (N := 17) hx hb hts iaX5 hown hK hP 0 rfl rfl 0 (by decide) (hts _ q716) (fun _ h9 => h9) rfl dX5_lock_10 ?_
  refine g_if_le (tgt := 18) hx hb dX5_lock_13 (by decide) h (fun h => ?_) (fun h => ?_)
  · refine lv_aload_n hx hb dX5_lock_18 rfl (lv_at hl 0 rfl) ?_
    obtain ⟨c2, c3, hc19, h⟩ := k_b2_e h
    refine g_callMV_V (As := []) (rest := []) hC (mX5_save l dC dI cyI cyC cyO ob a1 a2 a3 a4 a5 a6 a7 a8 x1 v_z v_saved v_savedMany v_spare v_buffer v_typed v_marksBlown v_rests v_begins v_orders v_orderMany v_spot v_wrong v_isShort v_before v_hash hc19) q763 q764 q18 q75 q765 0 hdX5_save ⟨Nat.le_of_ble_eq_true rfl, Nat.le_of_ble_eq_true rfl⟩ ⟨Nat.le_of_ble_eq_true rfl, Nat.le_of_ble_eq_true rfl⟩ rfl rfl hl.1 (Nat.le_of_ble_eq_true rfl) hP hK hD (va_recv hK hP (ci := 4) (q0 := 0) rfl rfl) hS dX5_lock_19 (fun H locs hPn hk hS => ?_)
    have hP : va_P (dC, dI) vwCl (wX5 cyI cyC ob a1 a2 a3 a4 a5 a6 a7 a8 x1 v_z c2 c3 v_spare v_buffer v_typed v_marksBlown v_rests v_begins v_orders v_orderMany v_spot v_wrong v_isShort v_before v_hash) H := hPn
    have hD : va_D (k_A (wX5 cyI cyC ob a1 a2 a3 a4 a5 a6 a7 a8 v_thrown v_z v_saved v_savedMany v_spare v_buffer v_typed v_marksBlown v_rests v_begins v_orders v_orderMany v_spot v_wrong v_isShort v_before v_hash)) (wX5 cyI cyC ob a1 a2 a3 a4 a5 a6 a7 a8 x1 v_z c2 c3 v_spare v_buffer v_typed v_marksBlown v_rests v_begins v_orders v_orderMany v_spot v_wrong v_isShort v_before v_hash) := k_Dm hD rfl
    refine lv_aload_n hx hb dX5_lock_22 rfl (lv_at hl 0 rfl) ?_
    refine lv_iload_n hx hb dX5_lock_23 rfl (lv_at hl 1 rfl) ?_
    refine lv_bipush (v := 15) hx hb dX5_lock_24 (by decide) ?_
    refine lv_iconst (v := 3) hx hb dX5_lock_26 (by decide) ?_
    obtain ⟨c4, hc27, h⟩ := k_b1_e h
    refine g_callMV_V (As := [.int p1, .int 15, .int 3]) (rest := []) hC (mX5_blowOne l dC dI cyI cyC cyO ob a1 a2 a3 a4 a5 a6 a7 a8 x1 v_z c2 c3 v_spare v_buffer v_typed v_marksBlown v_rests v_begins v_orders v_orderMany v_spot v_wrong v_isShort v_before v_hash p1 15 3 hc27) q766 q767 q19 q75 q768 3 hdX5_blowOne ⟨Nat.le_of_ble_eq_true rfl, Nat.le_of_ble_eq_true rfl⟩ ⟨Nat.le_of_ble_eq_true rfl, Nat.le_of_ble_eq_true rfl⟩ rfl rfl hl.1 (Nat.le_of_ble_eq_true rfl) hP hK hD (va_recv hK hP (ci := 4) (q0 := 0) rfl rfl) hS dX5_lock_27 (fun H locs hPn hk hS => ?_)
    have hP : va_P (dC, dI) vwCl (wX5 cyI cyC ob a1 a2 a3 a4 a5 a6 a7 a8 x1 c4 c2 c3 v_spare v_buffer v_typed v_marksBlown v_rests v_begins v_orders v_orderMany v_spot v_wrong v_isShort v_before v_hash) H := hPn
    have hD : va_D (k_A (wX5 cyI cyC ob a1 a2 a3 a4 a5 a6 a7 a8 v_thrown v_z v_saved v_savedMany v_spare v_buffer v_typed v_marksBlown v_rests v_begins v_orders v_orderMany v_spot v_wrong v_isShort v_before v_hash)) (wX5 cyI cyC ob a1 a2 a3 a4 a5 a6 a7 a8 x1 c4 c2 c3 v_spare v_buffer v_typed v_marksBlown v_rests v_begins v_orders v_orderMany v_spot v_wrong v_isShort v_before v_hash) := k_Dm hD rfl
    refine lv_aload_n hx hb dX5_lock_30 rfl (lv_at hl 0 rfl) ?_
    obtain ⟨x5, hc31, h⟩ := k_b1_e h
    refine g_callRI_V (As := []) (rest := []) hC (mX5_lockedMany l dC dI cyI cyC cyO ob a1 a2 a3 a4 a5 a6 a7 a8 x1 c4 c2 c3 v_spare v_buffer v_typed v_marksBlown v_rests v_begins v_orders v_orderMany v_spot v_wrong v_isShort v_before v_hash hc31) q829 q830 q30 q75 q831 0 hdX5_lockedMany ⟨Nat.le_of_ble_eq_true rfl, Nat.le_of_ble_eq_true rfl⟩ ⟨Nat.le_of_ble_eq_true rfl, Nat.le_of_ble_eq_true rfl⟩ rfl rfl hl.1 (Nat.le_of_ble_eq_true rfl) hP hK (va_recv hK hP (ci := 4) (q0 := 0) rfl rfl) hS dX5_lock_31 (fun H locs hk hS => ?_)
    have hP := k_kept hP hk
    obtain ⟨e0, e1, e2, e3, e4⟩ := k_t5 h
    exact g_retMI hx hb hr hlk hS e0 (by rw [← e1, ← e2, ← e3, ← e4]; exact hP) dX5_lock_34
  · refine lv_iconst (v := 0) hx hb dX5_lock_16 (by decide) ?_
    obtain ⟨e0, e1, e2, e3, e4⟩ := k_t5 h
    exact g_retMI hx hb hr hlk hS e0 (by rw [← e1, ← e2, ← e3, ← e4]; exact hP) dX5_lock_17
def fX5_refreshAll_s4 (p1 : Int32) (rec4 : Int32 → Int32 → (Nat → Int32) → Option (Int32 × (Nat → Int32))) (x1 : Int32) (x2 : Int32) (c3 : Nat → Int32) : Option (Int32 × (Nat → Int32)) :=
  k_if (16 ≤ x2)
  (
    some (x1, c3))
  (
    k_ck (0 : Int32) 327 <| k_let (c3 (0 : Int32).toNatClampNeg) fun (x4 : Int32) =>
    k_b1 (fX5_thrice c3 p1 x2 x4) fun (x5 : Int32) =>
    k_j2
    (fun (x6 : Int32) (c7 : Nat → Int32) =>
      k_let (x2 + 1) fun (x8 : Int32) =>
      rec4 x6 x8 c7)
    (fun K51 =>
    k_if (x5 = 1)
    (
      k_b1 (fX5_strength c3 p1 x2) fun (x9 : Int32) =>
      k_j1
      (fun (x10 : Int32) =>
        k_let (x1 + x10) fun (x11 : Int32) =>
        k_b1 (fX5_blowOne c3 p1 x2 3) fun (c12 : Nat → Int32) =>
        K51 x11 c12)
      (fun K42 =>
      k_if (3 ≤ x9)
      (
        K42 0)
      (
        K42 1)))
    (
      K51 x1 c3)))
def fX5_refreshAll (v_z : Nat → Int32) (p1 : Int32) : Option (Int32 × (Nat → Int32)) :=
  k_l3 (fX5_refreshAll_s4 p1) 5000 0 0 v_z
theorem hdX5_refreshAll : yX5_refreshAll.cls = RX5 ∧ yX5_refreshAll.cls ≠ "java/lang/invoke/MethodHandle" ∧ yX5_refreshAll.cls ≠ "java/lang/invoke/VarHandle" ∧ (parseMethodDescriptor yX5_refreshAll.desc).map (fun d => d.parameters.length) = some 1 := by decide +kernel
set_option maxRecDepth 100000 in
set_option maxHeartbeats 4000000 in
theorem mX5_refreshAll (l : Launch) (dC : Nat → ClassId) (dI : Nat → Nat → Nat) (cyI cyC cyO : ClassId) (ob a1 a2 a3 a4 a5 a6 a7 a8 : Nat) (v_thrown : Int32) (v_z : Nat → Int32) (v_saved : Nat → Int32) (v_savedMany : Int32) (v_spare : Nat → Int32) (v_buffer : Nat → Int32) (v_typed : Int32) (v_marksBlown : Int32) (v_rests : Nat → Int32) (v_begins : Nat → Int32) (v_orders : Nat → Int32) (v_orderMany : Int32) (v_spot : Int32) (v_wrong : Int32) (v_isShort : Int32) (v_before : Nat → Int32) (v_hash : Int64) (p1 : Int32) {r : Int32} {r_z : Nat → Int32} (hf : fX5_refreshAll v_z p1 = some (r, r_z)) : MetMI l yX5_refreshAll cX5_refreshAll 4 (some .int) 3 68 [.ref ob, .int p1] (dC, dI) (tyS cyI cyC cyO) (wX5 cyI cyC ob a1 a2 a3 a4 a5 a6 a7 a8 v_thrown v_z v_saved v_savedMany v_spare v_buffer v_typed v_marksBlown v_rests v_begins v_orders v_orderMany v_spot v_wrong v_isShort v_before v_hash) (wX5 cyI cyC ob a1 a2 a3 a4 a5 a6 a7 a8 v_thrown r_z v_saved v_savedMany v_spare v_buffer v_typed v_marksBlown v_rests v_begins v_orders v_orderMany v_spot v_wrong v_isShort v_before v_hash) r := by
  refine metMI_of (by decide) (Nat.le_of_ble_eq_true rfl) ?_
  intro p e s m below meth c ls hC hr hlk hP hK hD hl
  have hC : CallFix p m c cX5_refreshAll 4 s [.ref ob, .int p1].toArray wA RX5 := hC
  obtain ⟨hx, hb, hml, hown, hts⟩ := id hC
  have hS : va_S (k_A (wX5 cyI cyC ob a1 a2 a3 a4 a5 a6 a7 a8 v_thrown v_z v_saved v_savedMany v_spare v_buffer v_typed v_marksBlown v_rests v_begins v_orders v_orderMany v_spot v_wrong v_isShort v_before v_hash)) s.heap s.heap [] := va_S.rf
  have hl : lv_has ls 4 [(0, .ref ob), (1, .int p1)] := hl
  have h := hf
  unfold fX5_refreshAll at h
  obtain ⟨H, hH⟩ : ∃ H, H = s.heap := ⟨_, rfl⟩
  obtain ⟨locs, hlo⟩ : ∃ locs : List Loc, locs = [] := ⟨_, rfl⟩
  rw [← hH] at hP
  rw [← hlo] at hS
  have hS : va_S (k_A (wX5 cyI cyC ob a1 a2 a3 a4 a5 a6 a7 a8 v_thrown v_z v_saved v_savedMany v_spare v_buffer v_typed v_marksBlown v_rests v_begins v_orders v_orderMany v_spot v_wrong v_isShort v_before v_hash)) s.heap H locs := by rw [hH]; exact hS
  show W p l e (k_rm 3 68) s m [.ref ob, .int p1].toArray below meth c s.heap [] 0 0 _ _
  rw [← hlo, ← hH]
  refine lv_iconst (v := 0) hx hb dX5_refreshAll_0 (by decide) ?_
  refine lv_istore_n (lv' := [(2, .int 0), (0, .ref ob), (1, .int p1)]) hx hb dX5_refreshAll_1 rfl hl (by decide) rfl (fun ls hl => ?_)
  refine lv_iconst (v := 0) hx hb dX5_refreshAll_2 (by decide) ?_
  refine lv_istore_n (lv' := [(3, .int 0), (2, .int 0), (0, .ref ob), (1, .int p1)]) hx hb dX5_refreshAll_3 rfl hl (by decide) rfl (fun ls hl => ?_)
  obtain ⟨S4, hS4⟩ : ∃ z, z = (fX5_refreshAll_s4 p1) := ⟨_, rfl⟩
  rw [← hS4] at h
  have L4 : ∀ (n : Nat) (x1 : Int32) (x2 : Int32) (c3 : Nat → Int32) (H : Heap) (locs : List Loc) (ls : Array Slot), k_l3 S4 n x1 x2 c3 = some (r, r_z) → va_P (dC, dI) vwCl (wX5 cyI cyC ob a1 a2 a3 a4 a5 a6 a7 a8 v_thrown c3 v_saved v_savedMany v_spare v_buffer v_typed v_marksBlown v_rests v_begins v_orders v_orderMany v_spot v_wrong v_isShort v_before v_hash) H → va_S (k_A (wX5 cyI cyC ob a1 a2 a3 a4 a5 a6 a7 a8 v_thrown v_z v_saved v_savedMany v_spare v_buffer v_typed v_marksBlown v_rests v_begins v_orders v_orderMany v_spot v_wrong v_isShort v_before v_hash)) s.heap H locs → lv_has ls 4 [(0, .ref ob), (1, .int p1), (2, .int x1), (3, .int x2)] → W p l e (k_rm 3 68) s m [.ref ob, .int p1].toArray below meth c H locs 0 0 (MQ below (qMI r (dC, dI) (wX5 cyI cyC ob a1 a2 a3 a4 a5 a6 a7 a8 v_thrown v_z v_saved v_savedMany v_spare v_buffer v_typed v_marksBlown v_rests v_begins v_orders v_orderMany v_spot v_wrong v_isShort v_before v_hash) (wX5 cyI cyC ob a1 a2 a3 a4 a5 a6 a7 a8 v_thrown r_z v_saved v_savedMany v_spare v_buffer v_typed v_marksBlown v_rests v_begins v_orders v_orderMany v_spot v_wrong v_isShort v_before v_hash)) [.ref ob, .int p1].toArray s 0 0 (k_A (wX5 cyI cyC ob a1 a2 a3 a4 a5 a6 a7 a8 v_thrown v_z v_saved v_savedMany v_spare v_buffer v_typed v_marksBlown v_rests v_begins v_orders v_orderMany v_spot v_wrong v_isShort v_before v_hash))) (F0 m 4 ls []) := by
    intro n
    induction n with
    | zero =>
      intro x1 x2 c3 H locs ls h
      exact (k_l3_0 h).elim
    | succ n ih4 =>
      intro x1 x2 c3 H locs ls h hP hS hl
      have hD : va_D (k_A (wX5 cyI cyC ob a1 a2 a3 a4 a5 a6 a7 a8 v_thrown v_z v_saved v_savedMany v_spare v_buffer v_typed v_marksBlown v_rests v_begins v_orders v_orderMany v_spot v_wrong v_isShort v_before v_hash)) (wX5 cyI cyC ob a1 a2 a3 a4 a5 a6 a7 a8 v_thrown c3 v_saved v_savedMany v_spare v_buffer v_typed v_marksBlown v_rests v_begins v_orders v_orderMany v_spot v_wrong v_isShort v_before v_hash) := k_Dm hD rfl
      have h := k_l3_s h
      have h := k_a4 hS4 h
      unfold fX5_refreshAll_s4 at h
      refine lv_iload_n hx hb dX5_refreshAll_4 rfl (lv_at hl 3 rfl) ?_
      refine lv_bipush (v := 16) hx hb dX5_refreshAll_5 (by decide) ?_
      refine g_icmp_ge (tgt := 57) hx hb dX5_refreshAll_7 (by decide) h (fun h => ?_) (fun h => ?_)
      · refine lv_iload_n hx hb dX5_refreshAll_57 rfl (lv_at hl 2 rfl) ?_
        obtain ⟨e0, e1⟩ := k_t2 h
        exact g_retMI hx hb hr hlk hS e0 (by rw [← e1]; exact hP) dX5_refreshAll_58
      · refine lv_aload_n hx hb dX5_refreshAll_10 rfl (lv_at hl 0 rfl) ?_
        refine lv_iload_n hx hb dX5_refreshAll_11 rfl (lv_at hl 1 rfl) ?_
        refine lv_iload_n hx hb dX5_refreshAll_12 rfl (lv_at hl 3 rfl) ?_
        refine lv_aload_n hx hb dX5_refreshAll_13 rfl (lv_at hl 0 rfl) ?_
        refine va_get (D := (dC, dI)) (ci := 4) (v := .ref a1) (C := RX5) (T := TX5) (N := 17) hx hb hts iaX5 hown hK hP 0 rfl rfl 1 (by decide) (hts _ q717) (fun _ h9 => h9) rfl dX5_refreshAll_14 ?_
        refine lv_iconst (v := 0) hx hb dX5_refreshAll_17 (by decide) ?_
        refine g_iald hx hb hK hP 1 0 rfl rfl dX5_refreshAll_18 h (fun x4 h => ?_)
        obtain ⟨x5, hc19, h⟩ := k_b1_e h
        refine g_callRI_V (As := [.int p1, .int x2, .int x4]) (rest := []) hC (mX5_thrice l dC dI cyI cyC cyO ob a1 a2 a3 a4 a5 a6 a7 a8 v_thrown c3 v_saved v_savedMany v_spare v_buffer v_typed v_marksBlown v_rests v_begins v_orders v_orderMany v_spot v_wrong v_isShort v_before v_hash p1 x2 x4 hc19) q754 q755 q15 q75 q756 3 hdX5_thrice ⟨Nat.le_of_ble_eq_true rfl, Nat.le_of_ble_eq_true rfl⟩ ⟨Nat.le_of_ble_eq_true rfl, Nat.le_of_ble_eq_true rfl⟩ rfl rfl hl.1 (Nat.le_of_ble_eq_true rfl) hP hK (va_recv hK hP (ci := 4) (q0 := 0) rfl rfl) hS dX5_refreshAll_19 (fun H locs hk hS => ?_)
        have hP := k_kept hP hk
        refine lv_iconst (v := 1) hx hb dX5_refreshAll_22 (by decide) ?_
        obtain ⟨K51, hK51, h⟩ := k_j2_e h
        have J51 : ∀ (x6 : Int32) (c7 : Nat → Int32) (H : Heap) (locs : List Loc) (ls : Array Slot), K51 x6 c7 = some (r, r_z) → va_P (dC, dI) vwCl (wX5 cyI cyC ob a1 a2 a3 a4 a5 a6 a7 a8 v_thrown c7 v_saved v_savedMany v_spare v_buffer v_typed v_marksBlown v_rests v_begins v_orders v_orderMany v_spot v_wrong v_isShort v_before v_hash) H → va_S (k_A (wX5 cyI cyC ob a1 a2 a3 a4 a5 a6 a7 a8 v_thrown v_z v_saved v_savedMany v_spare v_buffer v_typed v_marksBlown v_rests v_begins v_orders v_orderMany v_spot v_wrong v_isShort v_before v_hash)) s.heap H locs → lv_has ls 4 [(0, .ref ob), (1, .int p1), (2, .int x6), (3, .int x2)] → W p l e (k_rm 3 68) s m [.ref ob, .int p1].toArray below meth c H locs 0 0 (MQ below (qMI r (dC, dI) (wX5 cyI cyC ob a1 a2 a3 a4 a5 a6 a7 a8 v_thrown v_z v_saved v_savedMany v_spare v_buffer v_typed v_marksBlown v_rests v_begins v_orders v_orderMany v_spot v_wrong v_isShort v_before v_hash) (wX5 cyI cyC ob a1 a2 a3 a4 a5 a6 a7 a8 v_thrown r_z v_saved v_savedMany v_spare v_buffer v_typed v_marksBlown v_rests v_begins v_orders v_orderMany v_spot v_wrong v_isShort v_before v_hash)) [.ref ob, .int p1].toArray s 0 0 (k_A (wX5 cyI cyC ob a1 a2 a3 a4 a5 a6 a7 a8 v_thrown v_z v_saved v_savedMany v_spare v_buffer v_typed v_marksBlown v_rests v_begins v_orders v_orderMany v_spot v_wrong v_isShort v_before v_hash))) (F0 m 51 ls []) := by
          intro x6 c7 H locs ls h hP hS hl
          have hD : va_D (k_A (wX5 cyI cyC ob a1 a2 a3 a4 a5 a6 a7 a8 v_thrown v_z v_saved v_savedMany v_spare v_buffer v_typed v_marksBlown v_rests v_begins v_orders v_orderMany v_spot v_wrong v_isShort v_before v_hash)) (wX5 cyI cyC ob a1 a2 a3 a4 a5 a6 a7 a8 v_thrown c7 v_saved v_savedMany v_spare v_buffer v_typed v_marksBlown v_rests v_begins v_orders v_orderMany v_spot v_wrong v_isShort v_before v_hash) := k_Dm hD rfl
          have h := k_a2 hK51 h
          refine g_iinc (dv := 1) hx hb dX5_refreshAll_51 hl (j := 3) rfl (by decide) (by decide) h (fun x8 ls h hl => ?_)
          have hl : lv_has ls 4 [(3, .int x8), (0, .ref ob), (1, .int p1), (2, .int x6)] := hl
          refine lv_goto (tgt := 4) hx hb dX5_refreshAll_54 (by decide) ?_
          exact ih4 x6 x8 c7 _ _ _ h hP hS (lv_sub hl [1, 2, 3, 0] rfl)
        refine g_icmp_ne (tgt := 51) hx hb dX5_refreshAll_23 (by decide) h (fun h => ?_) (fun h => ?_)
        · exact J51 x1 c3 _ _ _ h hP hS (lv_sub hl [0, 1, 2, 3] rfl)
        · refine lv_iload_n hx hb dX5_refreshAll_26 rfl (lv_at hl 2 rfl) ?_
          refine lv_aload_n hx hb dX5_refreshAll_27 rfl (lv_at hl 0 rfl) ?_
          refine lv_iload_n hx hb dX5_refreshAll_28 rfl (lv_at hl 1 rfl) ?_
          refine lv_iload_n hx hb dX5_refreshAll_29 rfl (lv_at hl 3 rfl) ?_
          obtain ⟨x9, hc30, h⟩ := k_b1_e h
          refine g_callRI_V (As := [.int p1, .int x2]) (rest := [.int x1]) hC (mX5_strength l dC dI cyI cyC cyO ob a1 a2 a3 a4 a5 a6 a7 a8 v_thrown c3 v_saved v_savedMany v_spare v_buffer v_typed v_marksBlown v_rests v_begins v_orders v_orderMany v_spot v_wrong v_isShort v_before v_hash p1 x2 hc30) q760 q761 q17 q75 q762 2 hdX5_strength ⟨Nat.le_of_ble_eq_true rfl, Nat.le_of_ble_eq_true rfl⟩ ⟨Nat.le_of_ble_eq_true rfl, Nat.le_of_ble_eq_true rfl⟩ rfl rfl hl.1 (Nat.le_of_ble_eq_true rfl) hP hK (va_recv hK hP (ci := 4) (q0 := 0) rfl rfl) hS dX5_refreshAll_30 (fun H locs hk hS => ?_)
          have hP := k_kept hP hk
          refine lv_iconst (v := 3) hx hb dX5_refreshAll_33 (by decide) ?_
          obtain ⟨K42, hK42, h⟩ := k_j1_e h
          have J42 : ∀ (x10 : Int32) (H : Heap) (locs : List Loc) (ls : Array Slot), K42 x10 = some (r, r_z) → va_P (dC, dI) vwCl (wX5 cyI cyC ob a1 a2 a3 a4 a5 a6 a7 a8 v_thrown c3 v_saved v_savedMany v_spare v_buffer v_typed v_marksBlown v_rests v_begins v_orders v_orderMany v_spot v_wrong v_isShort v_before v_hash) H → va_S (k_A (wX5 cyI cyC ob a1 a2 a3 a4 a5 a6 a7 a8 v_thrown v_z v_saved v_savedMany v_spare v_buffer v_typed v_marksBlown v_rests v_begins v_orders v_orderMany v_spot v_wrong v_isShort v_before v_hash)) s.heap H locs → lv_has ls 4 [(0, .ref ob), (1, .int p1), (3, .int x2)] → W p l e (k_rm 3 68) s m [.ref ob, .int p1].toArray below meth c H locs 0 0 (MQ below (qMI r (dC, dI) (wX5 cyI cyC ob a1 a2 a3 a4 a5 a6 a7 a8 v_thrown v_z v_saved v_savedMany v_spare v_buffer v_typed v_marksBlown v_rests v_begins v_orders v_orderMany v_spot v_wrong v_isShort v_before v_hash) (wX5 cyI cyC ob a1 a2 a3 a4 a5 a6 a7 a8 v_thrown r_z v_saved v_savedMany v_spare v_buffer v_typed v_marksBlown v_rests v_begins v_orders v_orderMany v_spot v_wrong v_isShort v_before v_hash)) [.ref ob, .int p1].toArray s 0 0 (k_A (wX5 cyI cyC ob a1 a2 a3 a4 a5 a6 a7 a8 v_thrown v_z v_saved v_savedMany v_spare v_buffer v_typed v_marksBlown v_rests v_begins v_orders v_orderMany v_spot v_wrong v_isShort v_before v_hash))) (F0 m 42 ls [.int x10, .int x1]) := by
            intro x10 H locs ls h hP hS hl
            have h := k_a1 hK42 h
            refine g_iadd hx hb dX5_refreshAll_42 h (fun x11 h => ?_)
            refine lv_istore_n (lv' := [(2, .int x11), (0, .ref ob), (1, .int p1), (3, .int x2)]) hx hb dX5_refreshAll_43 rfl hl (by decide) rfl (fun ls hl => ?_)
            refine lv_aload_n hx hb dX5_refreshAll_44 rfl (lv_at hl 1 rfl) ?_
            refine lv_iload_n hx hb dX5_refreshAll_45 rfl (lv_at hl 2 rfl) ?_
            refine lv_iload_n hx hb dX5_refreshAll_46 rfl (lv_at hl 3 rfl) ?_
            refine lv_iconst (v := 3) hx hb dX5_refreshAll_47 (by decide) ?_
            obtain ⟨c12, hc48, h⟩ := k_b1_e h
            refine g_callMV_V (As := [.int p1, .int x2, .int 3]) (rest := []) hC (mX5_blowOne l dC dI cyI cyC cyO ob a1 a2 a3 a4 a5 a6 a7 a8 v_thrown c3 v_saved v_savedMany v_spare v_buffer v_typed v_marksBlown v_rests v_begins v_orders v_orderMany v_spot v_wrong v_isShort v_before v_hash p1 x2 3 hc48) q766 q767 q19 q75 q768 3 hdX5_blowOne ⟨Nat.le_of_ble_eq_true rfl, Nat.le_of_ble_eq_true rfl⟩ ⟨Nat.le_of_ble_eq_true rfl, Nat.le_of_ble_eq_true rfl⟩ rfl rfl hl.1 (Nat.le_of_ble_eq_true rfl) hP hK hD (va_recv hK hP (ci := 4) (q0 := 0) rfl rfl) hS dX5_refreshAll_48 (fun H locs hPn hk hS => ?_)
            have hP : va_P (dC, dI) vwCl (wX5 cyI cyC ob a1 a2 a3 a4 a5 a6 a7 a8 v_thrown c12 v_saved v_savedMany v_spare v_buffer v_typed v_marksBlown v_rests v_begins v_orders v_orderMany v_spot v_wrong v_isShort v_before v_hash) H := hPn
            have hD : va_D (k_A (wX5 cyI cyC ob a1 a2 a3 a4 a5 a6 a7 a8 v_thrown v_z v_saved v_savedMany v_spare v_buffer v_typed v_marksBlown v_rests v_begins v_orders v_orderMany v_spot v_wrong v_isShort v_before v_hash)) (wX5 cyI cyC ob a1 a2 a3 a4 a5 a6 a7 a8 v_thrown c12 v_saved v_savedMany v_spare v_buffer v_typed v_marksBlown v_rests v_begins v_orders v_orderMany v_spot v_wrong v_isShort v_before v_hash) := k_Dm hD rfl
            exact J51 x11 c12 _ _ _ h hP hS (lv_sub hl [1, 2, 0, 3] rfl)
          refine g_icmp_ge (tgt := 41) hx hb dX5_refreshAll_34 (by decide) h (fun h => ?_) (fun h => ?_)
          · refine lv_iconst (v := 0) hx hb dX5_refreshAll_41 (by decide) ?_
            exact J42 0 _ _ _ h hP hS (lv_sub hl [0, 1, 3] rfl)
          · refine lv_iconst (v := 1) hx hb dX5_refreshAll_37 (by decide) ?_
            refine lv_goto (tgt := 42) hx hb dX5_refreshAll_38 (by decide) ?_
            exact J42 1 _ _ _ h hP hS (lv_sub hl [0, 1, 3] rfl)
  exact L4 5000 0 0 v_z _ _ _ h hP hS (lv_sub hl [2, 3, 1, 0] rfl)
def fX5_refresh (v_thrown : Int32) (v_z : Nat → Int32) (v_saved : Nat → Int32) (v_savedMany : Int32) (p1 : Int32) : Option (Int32 × Int32 × (Nat → Int32) × (Nat → Int32) × Int32) :=
  k_b1 (fX5_whyNotChange v_z p1) fun (x1 : Int32) =>
  k_if (x1 ≤ 0)
  (
    k_b2 (fX5_save v_z v_saved v_savedMany) fun (c2 : Nat → Int32) (c3 : Int32) =>
    k_b2 (fX5_refreshAll v_z p1) fun (x4 : Int32) (c5 : Nat → Int32) =>
    some (x4, x1, c5, c2, c3))
  (
    some (0, x1, v_z, v_saved, v_savedMany))
theorem hdX5_refresh : yX5_refresh.cls = RX5 ∧ yX5_refresh.cls ≠ "java/lang/invoke/MethodHandle" ∧ yX5_refresh.cls ≠ "java/lang/invoke/VarHandle" ∧ (parseMethodDescriptor yX5_refresh.desc).map (fun d => d.parameters.length) = some 1 := by decide +kernel
set_option maxRecDepth 100000 in
set_option maxHeartbeats 4000000 in
theorem mX5_refresh (l : Launch) (dC : Nat → ClassId) (dI : Nat → Nat → Nat) (cyI cyC cyO : ClassId) (ob a1 a2 a3 a4 a5 a6 a7 a8 : Nat) (v_thrown : Int32) (v_z : Nat → Int32) (v_saved : Nat → Int32) (v_savedMany : Int32) (v_spare : Nat → Int32) (v_buffer : Nat → Int32) (v_typed : Int32) (v_marksBlown : Int32) (v_rests : Nat → Int32) (v_begins : Nat → Int32) (v_orders : Nat → Int32) (v_orderMany : Int32) (v_spot : Int32) (v_wrong : Int32) (v_isShort : Int32) (v_before : Nat → Int32) (v_hash : Int64) (p1 : Int32) {r : Int32} {r_thrown : Int32} {r_z : Nat → Int32} {r_saved : Nat → Int32} {r_savedMany : Int32} (hf : fX5_refresh v_thrown v_z v_saved v_savedMany p1 = some (r, r_thrown, r_z, r_saved, r_savedMany)) : MetMI l yX5_refresh cX5_refresh 2 (some .int) 5 110 [.ref ob, .int p1] (dC, dI) (tyS cyI cyC cyO) (wX5 cyI cyC ob a1 a2 a3 a4 a5 a6 a7 a8 v_thrown v_z v_saved v_savedMany v_spare v_buffer v_typed v_marksBlown v_rests v_begins v_orders v_orderMany v_spot v_wrong v_isShort v_before v_hash) (wX5 cyI cyC ob a1 a2 a3 a4 a5 a6 a7 a8 r_thrown r_z r_saved r_savedMany v_spare v_buffer v_typed v_marksBlown v_rests v_begins v_orders v_orderMany v_spot v_wrong v_isShort v_before v_hash) r := by
  refine metMI_of (by decide) (Nat.le_of_ble_eq_true rfl) ?_
  intro p e s m below meth c ls hC hr hlk hP hK hD hl
  have hC : CallFix p m c cX5_refresh 2 s [.ref ob, .int p1].toArray wA RX5 := hC
  obtain ⟨hx, hb, hml, hown, hts⟩ := id hC
  have hS : va_S (k_A (wX5 cyI cyC ob a1 a2 a3 a4 a5 a6 a7 a8 v_thrown v_z v_saved v_savedMany v_spare v_buffer v_typed v_marksBlown v_rests v_begins v_orders v_orderMany v_spot v_wrong v_isShort v_before v_hash)) s.heap s.heap [] := va_S.rf
  have hl : lv_has ls 2 [(0, .ref ob), (1, .int p1)] := hl
  have h := hf
  unfold fX5_refresh at h
  obtain ⟨H, hH⟩ : ∃ H, H = s.heap := ⟨_, rfl⟩
  obtain ⟨locs, hlo⟩ : ∃ locs : List Loc, locs = [] := ⟨_, rfl⟩
  rw [← hH] at hP
  rw [← hlo] at hS
  have hS : va_S (k_A (wX5 cyI cyC ob a1 a2 a3 a4 a5 a6 a7 a8 v_thrown v_z v_saved v_savedMany v_spare v_buffer v_typed v_marksBlown v_rests v_begins v_orders v_orderMany v_spot v_wrong v_isShort v_before v_hash)) s.heap H locs := by rw [hH]; exact hS
  show W p l e (k_rm 5 110) s m [.ref ob, .int p1].toArray below meth c s.heap [] 0 0 _ _
  rw [← hlo, ← hH]
  refine lv_aload_n hx hb dX5_refresh_0 rfl (lv_at hl 0 rfl) ?_
  refine lv_aload_n hx hb dX5_refresh_1 rfl (lv_at hl 0 rfl) ?_
  refine lv_iload_n hx hb dX5_refresh_2 rfl (lv_at hl 1 rfl) ?_
  obtain ⟨x1, hc3, h⟩ := k_b1_e h
  refine g_callRI_V (As := [.int p1]) (rest := [.ref ob]) hC (mX5_whyNotChange l dC dI cyI cyC cyO ob a1 a2 a3 a4 a5 a6 a7 a8 v_thrown v_z v_saved v_savedMany v_spare v_buffer v_typed v_marksBlown v_rests v_begins v_orders v_orderMany v_spot v_wrong v_isShort v_before v_hash p1 hc3) q826 q827 q29 q75 q828 1 hdX5_whyNotChange ⟨Nat.le_of_ble_eq_true rfl, Nat.le_of_ble_eq_true rfl⟩ ⟨Nat.le_of_ble_eq_true rfl, Nat.le_of_ble_eq_true rfl⟩ rfl rfl hl.1 (Nat.le_of_ble_eq_true rfl) hP hK (va_recv hK hP (ci := 4) (q0 := 0) rfl rfl) hS dX5_refresh_3 (fun H locs hk hS => ?_)
  have hP := k_kept hP hk
  refine va_put (D := (dC, dI)) (ci := 4) (v := .int x1) (ty := .int) (C := RX5) (T := TX5) (N := 17) hx hb hts iaX5 tyX5 tyX5_ok nmX5 hown hK hP hD hS 0 rfl rfl 0 (by decide) (hts _ q716) (fun _ h9 => h9) rfl (by decide +kernel) rfl rfl (Nat.le_of_ble_eq_true rfl) dX5_refresh_6 (fun H locs hP _ hS => ?_)
  have hP : va_P (dC, dI) vwCl (wX5 cyI cyC ob a1 a2 a3 a4 a5 a6 a7 a8 x1 v_z v_saved v_savedMany v_spare v_buffer v_typed v_marksBlown v_rests v_begins v_orders v_orderMany v_spot v_wrong v_isShort v_before v_hash) H := hP
  have hD : va_D (k_A (wX5 cyI cyC ob a1 a2 a3 a4 a5 a6 a7 a8 v_thrown v_z v_saved v_savedMany v_spare v_buffer v_typed v_marksBlown v_rests v_begins v_orders v_orderMany v_spot v_wrong v_isShort v_before v_hash)) (wX5 cyI cyC ob a1 a2 a3 a4 a5 a6 a7 a8 x1 v_z v_saved v_savedMany v_spare v_buffer v_typed v_marksBlown v_rests v_begins v_orders v_orderMany v_spot v_wrong v_isShort v_before v_hash) := k_Dm hD rfl
  refine lv_aload_n hx hb dX5_refresh_9 rfl (lv_at hl 0 rfl) ?_
  refine va_get (D := (dC, dI)) (ci := 4) (v := .int x1) (C := RX5) (T := TX5) (N := 17) hx hb hts iaX5 hown hK hP 0 rfl rfl 0 (by decide) (hts _ q716) (fun _ h9 => h9) rfl dX5_refresh_10 ?_
  refine g_if_le (tgt := 18) hx hb dX5_refresh_13 (by decide) h (fun h => ?_) (fun h => ?_)
  · refine lv_aload_n hx hb dX5_refresh_18 rfl (lv_at hl 0 rfl) ?_
    obtain ⟨c2, c3, hc19, h⟩ := k_b2_e h
    refine g_callMV_V (As := []) (rest := []) hC (mX5_save l dC dI cyI cyC cyO ob a1 a2 a3 a4 a5 a6 a7 a8 x1 v_z v_saved v_savedMany v_spare v_buffer v_typed v_marksBlown v_rests v_begins v_orders v_orderMany v_spot v_wrong v_isShort v_before v_hash hc19) q763 q764 q18 q75 q765 0 hdX5_save ⟨Nat.le_of_ble_eq_true rfl, Nat.le_of_ble_eq_true rfl⟩ ⟨Nat.le_of_ble_eq_true rfl, Nat.le_of_ble_eq_true rfl⟩ rfl rfl hl.1 (Nat.le_of_ble_eq_true rfl) hP hK hD (va_recv hK hP (ci := 4) (q0 := 0) rfl rfl) hS dX5_refresh_19 (fun H locs hPn hk hS => ?_)
    have hP : va_P (dC, dI) vwCl (wX5 cyI cyC ob a1 a2 a3 a4 a5 a6 a7 a8 x1 v_z c2 c3 v_spare v_buffer v_typed v_marksBlown v_rests v_begins v_orders v_orderMany v_spot v_wrong v_isShort v_before v_hash) H := hPn
    have hD : va_D (k_A (wX5 cyI cyC ob a1 a2 a3 a4 a5 a6 a7 a8 v_thrown v_z v_saved v_savedMany v_spare v_buffer v_typed v_marksBlown v_rests v_begins v_orders v_orderMany v_spot v_wrong v_isShort v_before v_hash)) (wX5 cyI cyC ob a1 a2 a3 a4 a5 a6 a7 a8 x1 v_z c2 c3 v_spare v_buffer v_typed v_marksBlown v_rests v_begins v_orders v_orderMany v_spot v_wrong v_isShort v_before v_hash) := k_Dm hD rfl
    refine lv_aload_n hx hb dX5_refresh_22 rfl (lv_at hl 0 rfl) ?_
    refine lv_iload_n hx hb dX5_refresh_23 rfl (lv_at hl 1 rfl) ?_
    obtain ⟨x4, c5, hc24, h⟩ := k_b2_e h
    refine g_callMI_V (As := [.int p1]) (rest := []) hC (mX5_refreshAll l dC dI cyI cyC cyO ob a1 a2 a3 a4 a5 a6 a7 a8 x1 v_z c2 c3 v_spare v_buffer v_typed v_marksBlown v_rests v_begins v_orders v_orderMany v_spot v_wrong v_isShort v_before v_hash p1 hc24) q836 q837 q31 q75 q838 1 hdX5_refreshAll ⟨Nat.le_of_ble_eq_true rfl, Nat.le_of_ble_eq_true rfl⟩ ⟨Nat.le_of_ble_eq_true rfl, Nat.le_of_ble_eq_true rfl⟩ rfl rfl hl.1 (Nat.le_of_ble_eq_true rfl) hP hK hD (va_recv hK hP (ci := 4) (q0 := 0) rfl rfl) hS dX5_refresh_24 (fun H locs hPn hk hS => ?_)
    have hP : va_P (dC, dI) vwCl (wX5 cyI cyC ob a1 a2 a3 a4 a5 a6 a7 a8 x1 c5 c2 c3 v_spare v_buffer v_typed v_marksBlown v_rests v_begins v_orders v_orderMany v_spot v_wrong v_isShort v_before v_hash) H := hPn
    have hD : va_D (k_A (wX5 cyI cyC ob a1 a2 a3 a4 a5 a6 a7 a8 v_thrown v_z v_saved v_savedMany v_spare v_buffer v_typed v_marksBlown v_rests v_begins v_orders v_orderMany v_spot v_wrong v_isShort v_before v_hash)) (wX5 cyI cyC ob a1 a2 a3 a4 a5 a6 a7 a8 x1 c5 c2 c3 v_spare v_buffer v_typed v_marksBlown v_rests v_begins v_orders v_orderMany v_spot v_wrong v_isShort v_before v_hash) := k_Dm hD rfl
    obtain ⟨e0, e1, e2, e3, e4⟩ := k_t5 h
    exact g_retMI hx hb hr hlk hS e0 (by rw [← e1, ← e2, ← e3, ← e4]; exact hP) dX5_refresh_27
  · refine lv_iconst (v := 0) hx hb dX5_refresh_16 (by decide) ?_
    obtain ⟨e0, e1, e2, e3, e4⟩ := k_t5 h
    exact g_retMI hx hb hr hlk hS e0 (by rw [← e1, ← e2, ← e3, ← e4]; exact hP) dX5_refresh_17
def fX5_heatAll_s5 (p1 : Int32) (rec5 : Int32 → Int32 → (Nat → Int32) → Option (Int32 × (Nat → Int32))) (x1 : Int32) (x2 : Int32) (c3 : Nat → Int32) : Option (Int32 × (Nat → Int32)) :=
  k_if (327 ≤ x2)
  (
    some (x1, c3))
  (
    k_ck x2 327 <| k_let (c3 x2.toNatClampNeg) fun (x4 : Int32) =>
    k_j1
    (fun (x5 : Int32) =>
      k_ck x2 327 <| k_let (c3 x2.toNatClampNeg) fun (x6 : Int32) =>
      k_j1
      (fun (x7 : Int32) =>
        k_let (x6 - x7) fun (x8 : Int32) =>
        k_ck x2 327 <| k_let (upd c3 x2.toNatClampNeg x8) fun (c9 : Nat → Int32) =>
        k_j1
        (fun (x10 : Int32) =>
          k_let (x1 + x10) fun (x11 : Int32) =>
          k_let (x2 + 1) fun (x12 : Int32) =>
          rec5 x11 x12 c9)
        (fun K80 =>
        k_if (x5 = 0)
        (
          K80 0)
        (
          K80 1)))
      (fun K67 =>
      k_if (x5 = 0)
      (
        K67 0)
      (
        K67 1)))
    (fun K48 =>
    k_j0
    (
      k_ck x2 327 <| k_let (c3 x2.toNatClampNeg) fun (x13 : Int32) =>
      k_if (x13 = 2)
      (
        k_if (p1 < 6)
        (
          K48 0)
        (
          K48 1))
      (
        K48 0))
    (fun K27 =>
    k_if (x4 = 1)
    (
      k_if (3 ≤ p1)
      (
        K48 1)
      (
        K27))
    (
      K27))))
def fX5_heatAll (v_z : Nat → Int32) (p1 : Int32) : Option (Int32 × (Nat → Int32)) :=
  k_l3 (fX5_heatAll_s5 p1) 5000 0 7 v_z
theorem hdX5_heatAll : yX5_heatAll.cls = RX5 ∧ yX5_heatAll.cls ≠ "java/lang/invoke/MethodHandle" ∧ yX5_heatAll.cls ≠ "java/lang/invoke/VarHandle" ∧ (parseMethodDescriptor yX5_heatAll.desc).map (fun d => d.parameters.length) = some 1 := by decide +kernel
set_option maxRecDepth 100000 in
set_option maxHeartbeats 4000000 in
theorem mX5_heatAll (l : Launch) (dC : Nat → ClassId) (dI : Nat → Nat → Nat) (cyI cyC cyO : ClassId) (ob a1 a2 a3 a4 a5 a6 a7 a8 : Nat) (v_thrown : Int32) (v_z : Nat → Int32) (v_saved : Nat → Int32) (v_savedMany : Int32) (v_spare : Nat → Int32) (v_buffer : Nat → Int32) (v_typed : Int32) (v_marksBlown : Int32) (v_rests : Nat → Int32) (v_begins : Nat → Int32) (v_orders : Nat → Int32) (v_orderMany : Int32) (v_spot : Int32) (v_wrong : Int32) (v_isShort : Int32) (v_before : Nat → Int32) (v_hash : Int64) (p1 : Int32) {r : Int32} {r_z : Nat → Int32} (hf : fX5_heatAll v_z p1 = some (r, r_z)) : MetMI l yX5_heatAll cX5_heatAll 5 (some .int) 0 0 [.ref ob, .int p1] (dC, dI) (tyS cyI cyC cyO) (wX5 cyI cyC ob a1 a2 a3 a4 a5 a6 a7 a8 v_thrown v_z v_saved v_savedMany v_spare v_buffer v_typed v_marksBlown v_rests v_begins v_orders v_orderMany v_spot v_wrong v_isShort v_before v_hash) (wX5 cyI cyC ob a1 a2 a3 a4 a5 a6 a7 a8 v_thrown r_z v_saved v_savedMany v_spare v_buffer v_typed v_marksBlown v_rests v_begins v_orders v_orderMany v_spot v_wrong v_isShort v_before v_hash) r := by
  refine metMI_of (by decide) (Nat.le_of_ble_eq_true rfl) ?_
  intro p e s m below meth c ls hC hr hlk hP hK hD hl
  have hC : CallFix p m c cX5_heatAll 5 s [.ref ob, .int p1].toArray wA RX5 := hC
  obtain ⟨hx, hb, hml, hown, hts⟩ := id hC
  have hS : va_S (k_A (wX5 cyI cyC ob a1 a2 a3 a4 a5 a6 a7 a8 v_thrown v_z v_saved v_savedMany v_spare v_buffer v_typed v_marksBlown v_rests v_begins v_orders v_orderMany v_spot v_wrong v_isShort v_before v_hash)) s.heap s.heap [] := va_S.rf
  have hl : lv_has ls 5 [(0, .ref ob), (1, .int p1)] := hl
  have h := hf
  unfold fX5_heatAll at h
  obtain ⟨H, hH⟩ : ∃ H, H = s.heap := ⟨_, rfl⟩
  obtain ⟨locs, hlo⟩ : ∃ locs : List Loc, locs = [] := ⟨_, rfl⟩
  rw [← hH] at hP
  rw [← hlo] at hS
  have hS : va_S (k_A (wX5 cyI cyC ob a1 a2 a3 a4 a5 a6 a7 a8 v_thrown v_z v_saved v_savedMany v_spare v_buffer v_typed v_marksBlown v_rests v_begins v_orders v_orderMany v_spot v_wrong v_isShort v_before v_hash)) s.heap H locs := by rw [hH]; exact hS
  show W p l e (k_rm 0 0) s m [.ref ob, .int p1].toArray below meth c s.heap [] 0 0 _ _
  rw [← hlo, ← hH]
  refine lv_iconst (v := 0) hx hb dX5_heatAll_0 (by decide) ?_
  refine lv_istore_n (lv' := [(2, .int 0), (0, .ref ob), (1, .int p1)]) hx hb dX5_heatAll_1 rfl hl (by decide) rfl (fun ls hl => ?_)
  refine lv_bipush (v := 7) hx hb dX5_heatAll_2 (by decide) ?_
  refine lv_istore_n (lv' := [(3, .int 7), (2, .int 0), (0, .ref ob), (1, .int p1)]) hx hb dX5_heatAll_4 rfl hl (by decide) rfl (fun ls hl => ?_)
  obtain ⟨S5, hS5⟩ : ∃ z, z = (fX5_heatAll_s5 p1) := ⟨_, rfl⟩
  rw [← hS5] at h
  have L5 : ∀ (n : Nat) (x1 : Int32) (x2 : Int32) (c3 : Nat → Int32) (H : Heap) (locs : List Loc) (ls : Array Slot), k_l3 S5 n x1 x2 c3 = some (r, r_z) → va_P (dC, dI) vwCl (wX5 cyI cyC ob a1 a2 a3 a4 a5 a6 a7 a8 v_thrown c3 v_saved v_savedMany v_spare v_buffer v_typed v_marksBlown v_rests v_begins v_orders v_orderMany v_spot v_wrong v_isShort v_before v_hash) H → va_S (k_A (wX5 cyI cyC ob a1 a2 a3 a4 a5 a6 a7 a8 v_thrown v_z v_saved v_savedMany v_spare v_buffer v_typed v_marksBlown v_rests v_begins v_orders v_orderMany v_spot v_wrong v_isShort v_before v_hash)) s.heap H locs → lv_has ls 5 [(0, .ref ob), (1, .int p1), (2, .int x1), (3, .int x2)] → W p l e (k_rm 0 0) s m [.ref ob, .int p1].toArray below meth c H locs 0 0 (MQ below (qMI r (dC, dI) (wX5 cyI cyC ob a1 a2 a3 a4 a5 a6 a7 a8 v_thrown v_z v_saved v_savedMany v_spare v_buffer v_typed v_marksBlown v_rests v_begins v_orders v_orderMany v_spot v_wrong v_isShort v_before v_hash) (wX5 cyI cyC ob a1 a2 a3 a4 a5 a6 a7 a8 v_thrown r_z v_saved v_savedMany v_spare v_buffer v_typed v_marksBlown v_rests v_begins v_orders v_orderMany v_spot v_wrong v_isShort v_before v_hash)) [.ref ob, .int p1].toArray s 0 0 (k_A (wX5 cyI cyC ob a1 a2 a3 a4 a5 a6 a7 a8 v_thrown v_z v_saved v_savedMany v_spare v_buffer v_typed v_marksBlown v_rests v_begins v_orders v_orderMany v_spot v_wrong v_isShort v_before v_hash))) (F0 m 5 ls []) := by
    intro n
    induction n with
    | zero =>
      intro x1 x2 c3 H locs ls h
      exact (k_l3_0 h).elim
    | succ n ih5 =>
      intro x1 x2 c3 H locs ls h hP hS hl
      have hD : va_D (k_A (wX5 cyI cyC ob a1 a2 a3 a4 a5 a6 a7 a8 v_thrown v_z v_saved v_savedMany v_spare v_buffer v_typed v_marksBlown v_rests v_begins v_orders v_orderMany v_spot v_wrong v_isShort v_before v_hash)) (wX5 cyI cyC ob a1 a2 a3 a4 a5 a6 a7 a8 v_thrown c3 v_saved v_savedMany v_spare v_buffer v_typed v_marksBlown v_rests v_begins v_orders v_orderMany v_spot v_wrong v_isShort v_before v_hash) := k_Dm hD rfl
      have h := k_l3_s h
      have h := k_a4 hS5 h
      unfold fX5_heatAll_s5 at h
      refine lv_iload_n hx hb dX5_heatAll_5 rfl (lv_at hl 3 rfl) ?_
      refine lv_sipush (v := 327) hx hb dX5_heatAll_6 (by decide) ?_
      refine g_icmp_ge (tgt := 88) hx hb dX5_heatAll_9 (by decide) h (fun h => ?_) (fun h => ?_)
      · refine lv_iload_n hx hb dX5_heatAll_88 rfl (lv_at hl 2 rfl) ?_
        obtain ⟨e0, e1⟩ := k_t2 h
        exact g_retMI hx hb hr hlk hS e0 (by rw [← e1]; exact hP) dX5_heatAll_89
      · refine lv_aload_n hx hb dX5_heatAll_12 rfl (lv_at hl 0 rfl) ?_
        refine va_get (D := (dC, dI)) (ci := 4) (v := .ref a1) (C := RX5) (T := TX5) (N := 17) hx hb hts iaX5 hown hK hP 0 rfl rfl 1 (by decide) (hts _ q717) (fun _ h9 => h9) rfl dX5_heatAll_13 ?_
        refine lv_iload_n hx hb dX5_heatAll_16 rfl (lv_at hl 3 rfl) ?_
        refine g_iald hx hb hK hP 1 0 rfl rfl dX5_heatAll_17 h (fun x4 h => ?_)
        refine lv_iconst (v := 1) hx hb dX5_heatAll_18 (by decide) ?_
        obtain ⟨K48, hK48, h⟩ := k_j1_e h
        have J48 : ∀ (x5 : Int32) (H : Heap) (locs : List Loc) (ls : Array Slot), K48 x5 = some (r, r_z) → va_P (dC, dI) vwCl (wX5 cyI cyC ob a1 a2 a3 a4 a5 a6 a7 a8 v_thrown c3 v_saved v_savedMany v_spare v_buffer v_typed v_marksBlown v_rests v_begins v_orders v_orderMany v_spot v_wrong v_isShort v_before v_hash) H → va_S (k_A (wX5 cyI cyC ob a1 a2 a3 a4 a5 a6 a7 a8 v_thrown v_z v_saved v_savedMany v_spare v_buffer v_typed v_marksBlown v_rests v_begins v_orders v_orderMany v_spot v_wrong v_isShort v_before v_hash)) s.heap H locs → lv_has ls 5 [(0, .ref ob), (1, .int p1), (2, .int x1), (3, .int x2)] → W p l e (k_rm 0 0) s m [.ref ob, .int p1].toArray below meth c H locs 0 0 (MQ below (qMI r (dC, dI) (wX5 cyI cyC ob a1 a2 a3 a4 a5 a6 a7 a8 v_thrown v_z v_saved v_savedMany v_spare v_buffer v_typed v_marksBlown v_rests v_begins v_orders v_orderMany v_spot v_wrong v_isShort v_before v_hash) (wX5 cyI cyC ob a1 a2 a3 a4 a5 a6 a7 a8 v_thrown r_z v_saved v_savedMany v_spare v_buffer v_typed v_marksBlown v_rests v_begins v_orders v_orderMany v_spot v_wrong v_isShort v_before v_hash)) [.ref ob, .int p1].toArray s 0 0 (k_A (wX5 cyI cyC ob a1 a2 a3 a4 a5 a6 a7 a8 v_thrown v_z v_saved v_savedMany v_spare v_buffer v_typed v_marksBlown v_rests v_begins v_orders v_orderMany v_spot v_wrong v_isShort v_before v_hash))) (F0 m 48 ls [.int x5]) := by
          intro x5 H locs ls h hP hS hl
          have h := k_a1 hK48 h
          refine lv_istore (lv' := [(4, .int x5), (0, .ref ob), (1, .int p1), (2, .int x1), (3, .int x2)]) hx hb dX5_heatAll_48 hl (by decide) rfl (fun ls hl => ?_)
          refine lv_aload_n hx hb dX5_heatAll_50 rfl (lv_at hl 1 rfl) ?_
          refine va_get (D := (dC, dI)) (ci := 4) (v := .ref a1) (C := RX5) (T := TX5) (N := 17) hx hb hts iaX5 hown hK hP 0 rfl rfl 1 (by decide) (hts _ q717) (fun _ h9 => h9) rfl dX5_heatAll_51 ?_
          refine lv_iload_n hx hb dX5_heatAll_54 rfl (lv_at hl 4 rfl) ?_
          refine lv_dup2_11 hx hb dX5_heatAll_55 rfl rfl ?_
          refine g_iald hx hb hK hP 1 0 rfl rfl dX5_heatAll_56 h (fun x6 h => ?_)
          refine lv_iload hx hb dX5_heatAll_57 (lv_at hl 0 rfl) ?_
          obtain ⟨K67, hK67, h⟩ := k_j1_e h
          have J67 : ∀ (x7 : Int32) (H : Heap) (locs : List Loc) (ls : Array Slot), K67 x7 = some (r, r_z) → va_P (dC, dI) vwCl (wX5 cyI cyC ob a1 a2 a3 a4 a5 a6 a7 a8 v_thrown c3 v_saved v_savedMany v_spare v_buffer v_typed v_marksBlown v_rests v_begins v_orders v_orderMany v_spot v_wrong v_isShort v_before v_hash) H → va_S (k_A (wX5 cyI cyC ob a1 a2 a3 a4 a5 a6 a7 a8 v_thrown v_z v_saved v_savedMany v_spare v_buffer v_typed v_marksBlown v_rests v_begins v_orders v_orderMany v_spot v_wrong v_isShort v_before v_hash)) s.heap H locs → lv_has ls 5 [(0, .ref ob), (1, .int p1), (2, .int x1), (3, .int x2), (4, .int x5)] → W p l e (k_rm 0 0) s m [.ref ob, .int p1].toArray below meth c H locs 0 0 (MQ below (qMI r (dC, dI) (wX5 cyI cyC ob a1 a2 a3 a4 a5 a6 a7 a8 v_thrown v_z v_saved v_savedMany v_spare v_buffer v_typed v_marksBlown v_rests v_begins v_orders v_orderMany v_spot v_wrong v_isShort v_before v_hash) (wX5 cyI cyC ob a1 a2 a3 a4 a5 a6 a7 a8 v_thrown r_z v_saved v_savedMany v_spare v_buffer v_typed v_marksBlown v_rests v_begins v_orders v_orderMany v_spot v_wrong v_isShort v_before v_hash)) [.ref ob, .int p1].toArray s 0 0 (k_A (wX5 cyI cyC ob a1 a2 a3 a4 a5 a6 a7 a8 v_thrown v_z v_saved v_savedMany v_spare v_buffer v_typed v_marksBlown v_rests v_begins v_orders v_orderMany v_spot v_wrong v_isShort v_before v_hash))) (F0 m 67 ls [.int x7, .int x6, .int x2, .ref a1]) := by
            intro x7 H locs ls h hP hS hl
            have h := k_a1 hK67 h
            refine g_isub hx hb dX5_heatAll_67 h (fun x8 h => ?_)
            refine g_iast hx hb hK hP hD hS 1 0 rfl rfl dX5_heatAll_68 h (fun c9 H locs h hP hS => ?_)
            have hP : va_P (dC, dI) vwCl (wX5 cyI cyC ob a1 a2 a3 a4 a5 a6 a7 a8 v_thrown c9 v_saved v_savedMany v_spare v_buffer v_typed v_marksBlown v_rests v_begins v_orders v_orderMany v_spot v_wrong v_isShort v_before v_hash) H := hP
            have hD : va_D (k_A (wX5 cyI cyC ob a1 a2 a3 a4 a5 a6 a7 a8 v_thrown v_z v_saved v_savedMany v_spare v_buffer v_typed v_marksBlown v_rests v_begins v_orders v_orderMany v_spot v_wrong v_isShort v_before v_hash)) (wX5 cyI cyC ob a1 a2 a3 a4 a5 a6 a7 a8 v_thrown c9 v_saved v_savedMany v_spare v_buffer v_typed v_marksBlown v_rests v_begins v_orders v_orderMany v_spot v_wrong v_isShort v_before v_hash) := k_Dm hD rfl
            refine lv_iload_n hx hb dX5_heatAll_69 rfl (lv_at hl 2 rfl) ?_
            refine lv_iload hx hb dX5_heatAll_70 (lv_at hl 4 rfl) ?_
            obtain ⟨K80, hK80, h⟩ := k_j1_e h
            have J80 : ∀ (x10 : Int32) (H : Heap) (locs : List Loc) (ls : Array Slot), K80 x10 = some (r, r_z) → va_P (dC, dI) vwCl (wX5 cyI cyC ob a1 a2 a3 a4 a5 a6 a7 a8 v_thrown c9 v_saved v_savedMany v_spare v_buffer v_typed v_marksBlown v_rests v_begins v_orders v_orderMany v_spot v_wrong v_isShort v_before v_hash) H → va_S (k_A (wX5 cyI cyC ob a1 a2 a3 a4 a5 a6 a7 a8 v_thrown v_z v_saved v_savedMany v_spare v_buffer v_typed v_marksBlown v_rests v_begins v_orders v_orderMany v_spot v_wrong v_isShort v_before v_hash)) s.heap H locs → lv_has ls 5 [(0, .ref ob), (1, .int p1), (3, .int x2)] → W p l e (k_rm 0 0) s m [.ref ob, .int p1].toArray below meth c H locs 0 0 (MQ below (qMI r (dC, dI) (wX5 cyI cyC ob a1 a2 a3 a4 a5 a6 a7 a8 v_thrown v_z v_saved v_savedMany v_spare v_buffer v_typed v_marksBlown v_rests v_begins v_orders v_orderMany v_spot v_wrong v_isShort v_before v_hash) (wX5 cyI cyC ob a1 a2 a3 a4 a5 a6 a7 a8 v_thrown r_z v_saved v_savedMany v_spare v_buffer v_typed v_marksBlown v_rests v_begins v_orders v_orderMany v_spot v_wrong v_isShort v_before v_hash)) [.ref ob, .int p1].toArray s 0 0 (k_A (wX5 cyI cyC ob a1 a2 a3 a4 a5 a6 a7 a8 v_thrown v_z v_saved v_savedMany v_spare v_buffer v_typed v_marksBlown v_rests v_begins v_orders v_orderMany v_spot v_wrong v_isShort v_before v_hash))) (F0 m 80 ls [.int x10, .int x1]) := by
              intro x10 H locs ls h hP hS hl
              have h := k_a1 hK80 h
              refine g_iadd hx hb dX5_heatAll_80 h (fun x11 h => ?_)
              refine lv_istore_n (lv' := [(2, .int x11), (0, .ref ob), (1, .int p1), (3, .int x2)]) hx hb dX5_heatAll_81 rfl hl (by decide) rfl (fun ls hl => ?_)
              refine g_iinc (dv := 1) hx hb dX5_heatAll_82 hl (j := 3) rfl (by decide) (by decide) h (fun x12 ls h hl => ?_)
              have hl : lv_has ls 5 [(3, .int x12), (2, .int x11), (0, .ref ob), (1, .int p1)] := hl
              refine lv_goto (tgt := 5) hx hb dX5_heatAll_85 (by decide) ?_
              exact ih5 x11 x12 c9 _ _ _ h hP hS (lv_sub hl [2, 3, 1, 0] rfl)
            refine g_if_eq (tgt := 79) hx hb dX5_heatAll_72 (by decide) h (fun h => ?_) (fun h => ?_)
            · refine lv_iconst (v := 0) hx hb dX5_heatAll_79 (by decide) ?_
              exact J80 0 _ _ _ h hP hS (lv_sub hl [0, 1, 3] rfl)
            · refine lv_iconst (v := 1) hx hb dX5_heatAll_75 (by decide) ?_
              refine lv_goto (tgt := 80) hx hb dX5_heatAll_76 (by decide) ?_
              exact J80 1 _ _ _ h hP hS (lv_sub hl [0, 1, 3] rfl)
          refine g_if_eq (tgt := 66) hx hb dX5_heatAll_59 (by decide) h (fun h => ?_) (fun h => ?_)
          · refine lv_iconst (v := 0) hx hb dX5_heatAll_66 (by decide) ?_
            exact J67 0 _ _ _ h hP hS (lv_sub hl [1, 2, 3, 4, 0] rfl)
          · refine lv_iconst (v := 1) hx hb dX5_heatAll_62 (by decide) ?_
            refine lv_goto (tgt := 67) hx hb dX5_heatAll_63 (by decide) ?_
            exact J67 1 _ _ _ h hP hS (lv_sub hl [1, 2, 3, 4, 0] rfl)
        obtain ⟨K27, hK27, h⟩ := k_j0_e h
        have J27 : ∀ (H : Heap) (locs : List Loc) (ls : Array Slot), K27 = some (r, r_z) → va_P (dC, dI) vwCl (wX5 cyI cyC ob a1 a2 a3 a4 a5 a6 a7 a8 v_thrown c3 v_saved v_savedMany v_spare v_buffer v_typed v_marksBlown v_rests v_begins v_orders v_orderMany v_spot v_wrong v_isShort v_before v_hash) H → va_S (k_A (wX5 cyI cyC ob a1 a2 a3 a4 a5 a6 a7 a8 v_thrown v_z v_saved v_savedMany v_spare v_buffer v_typed v_marksBlown v_rests v_begins v_orders v_orderMany v_spot v_wrong v_isShort v_before v_hash)) s.heap H locs → lv_has ls 5 [(0, .ref ob), (1, .int p1), (2, .int x1), (3, .int x2)] → W p l e (k_rm 0 0) s m [.ref ob, .int p1].toArray below meth c H locs 0 0 (MQ below (qMI r (dC, dI) (wX5 cyI cyC ob a1 a2 a3 a4 a5 a6 a7 a8 v_thrown v_z v_saved v_savedMany v_spare v_buffer v_typed v_marksBlown v_rests v_begins v_orders v_orderMany v_spot v_wrong v_isShort v_before v_hash) (wX5 cyI cyC ob a1 a2 a3 a4 a5 a6 a7 a8 v_thrown r_z v_saved v_savedMany v_spare v_buffer v_typed v_marksBlown v_rests v_begins v_orders v_orderMany v_spot v_wrong v_isShort v_before v_hash)) [.ref ob, .int p1].toArray s 0 0 (k_A (wX5 cyI cyC ob a1 a2 a3 a4 a5 a6 a7 a8 v_thrown v_z v_saved v_savedMany v_spare v_buffer v_typed v_marksBlown v_rests v_begins v_orders v_orderMany v_spot v_wrong v_isShort v_before v_hash))) (F0 m 27 ls []) := by
          intro  H locs ls h hP hS hl
          have h := k_a0 hK27 h
          refine lv_aload_n hx hb dX5_heatAll_27 rfl (lv_at hl 0 rfl) ?_
          refine va_get (D := (dC, dI)) (ci := 4) (v := .ref a1) (C := RX5) (T := TX5) (N := 17) hx hb hts iaX5 hown hK hP 0 rfl rfl 1 (by decide) (hts _ q717) (fun _ h9 => h9) rfl dX5_heatAll_28 ?_
          refine lv_iload_n hx hb dX5_heatAll_31 rfl (lv_at hl 3 rfl) ?_
          refine g_iald hx hb hK hP 1 0 rfl rfl dX5_heatAll_32 h (fun x13 h => ?_)
          refine lv_iconst (v := 2) hx hb dX5_heatAll_33 (by decide) ?_
          refine g_icmp_ne (tgt := 47) hx hb dX5_heatAll_34 (by decide) h (fun h => ?_) (fun h => ?_)
          · refine lv_iconst (v := 0) hx hb dX5_heatAll_47 (by decide) ?_
            exact J48 0 _ _ _ h hP hS (lv_sub hl [0, 1, 2, 3] rfl)
          · refine lv_iload_n hx hb dX5_heatAll_37 rfl (lv_at hl 1 rfl) ?_
            refine lv_bipush (v := 6) hx hb dX5_heatAll_38 (by decide) ?_
            refine g_icmp_lt (tgt := 47) hx hb dX5_heatAll_40 (by decide) h (fun h => ?_) (fun h => ?_)
            · refine lv_iconst (v := 0) hx hb dX5_heatAll_47 (by decide) ?_
              exact J48 0 _ _ _ h hP hS (lv_sub hl [0, 1, 2, 3] rfl)
            · refine lv_iconst (v := 1) hx hb dX5_heatAll_43 (by decide) ?_
              refine lv_goto (tgt := 48) hx hb dX5_heatAll_44 (by decide) ?_
              exact J48 1 _ _ _ h hP hS (lv_sub hl [0, 1, 2, 3] rfl)
        refine g_icmp_ne (tgt := 27) hx hb dX5_heatAll_19 (by decide) h (fun h => ?_) (fun h => ?_)
        · exact J27  _ _ _ h hP hS (lv_sub hl [0, 1, 2, 3] rfl)
        · refine lv_iload_n hx hb dX5_heatAll_22 rfl (lv_at hl 1 rfl) ?_
          refine lv_iconst (v := 3) hx hb dX5_heatAll_23 (by decide) ?_
          refine g_icmp_ge (tgt := 43) hx hb dX5_heatAll_24 (by decide) h (fun h => ?_) (fun h => ?_)
          · refine lv_iconst (v := 1) hx hb dX5_heatAll_43 (by decide) ?_
            refine lv_goto (tgt := 48) hx hb dX5_heatAll_44 (by decide) ?_
            exact J48 1 _ _ _ h hP hS (lv_sub hl [0, 1, 2, 3] rfl)
          · exact J27  _ _ _ h hP hS (lv_sub hl [0, 1, 2, 3] rfl)
  exact L5 5000 0 7 v_z _ _ _ h hP hS (lv_sub hl [2, 3, 1, 0] rfl)
def fX5_heat (v_thrown : Int32) (v_z : Nat → Int32) (v_saved : Nat → Int32) (v_savedMany : Int32) (p1 : Int32) : Option (Int32 × Int32 × (Nat → Int32) × (Nat → Int32) × Int32) :=
  k_b1 (fX5_in p1 1 9) fun (x1 : Int32) =>
  k_j1
  (fun (x2 : Int32) =>
    k_if (x2 ≤ 0)
    (
      k_b2 (fX5_save v_z v_saved v_savedMany) fun (c3 : Nat → Int32) (c4 : Int32) =>
      k_b2 (fX5_heatAll v_z p1) fun (x5 : Int32) (c6 : Nat → Int32) =>
      some (x5, x2, c6, c3, c4))
    (
      some (0, x2, v_z, v_saved, v_savedMany)))
  (fun K16 =>
  k_if (x1 = 0)
  (
    K16 1)
  (
    K16 0))
theorem hdX5_heat : yX5_heat.cls = RX5 ∧ yX5_heat.cls ≠ "java/lang/invoke/MethodHandle" ∧ yX5_heat.cls ≠ "java/lang/invoke/VarHandle" ∧ (parseMethodDescriptor yX5_heat.desc).map (fun d => d.parameters.length) = some 1 := by decide +kernel
set_option maxRecDepth 100000 in
set_option maxHeartbeats 4000000 in
theorem mX5_heat (l : Launch) (dC : Nat → ClassId) (dI : Nat → Nat → Nat) (cyI cyC cyO : ClassId) (ob a1 a2 a3 a4 a5 a6 a7 a8 : Nat) (v_thrown : Int32) (v_z : Nat → Int32) (v_saved : Nat → Int32) (v_savedMany : Int32) (v_spare : Nat → Int32) (v_buffer : Nat → Int32) (v_typed : Int32) (v_marksBlown : Int32) (v_rests : Nat → Int32) (v_begins : Nat → Int32) (v_orders : Nat → Int32) (v_orderMany : Int32) (v_spot : Int32) (v_wrong : Int32) (v_isShort : Int32) (v_before : Nat → Int32) (v_hash : Int64) (p1 : Int32) {r : Int32} {r_thrown : Int32} {r_z : Nat → Int32} {r_saved : Nat → Int32} {r_savedMany : Int32} (hf : fX5_heat v_thrown v_z v_saved v_savedMany p1 = some (r, r_thrown, r_z, r_saved, r_savedMany)) : MetMI l yX5_heat cX5_heat 2 (some .int) 1 24 [.ref ob, .int p1] (dC, dI) (tyS cyI cyC cyO) (wX5 cyI cyC ob a1 a2 a3 a4 a5 a6 a7 a8 v_thrown v_z v_saved v_savedMany v_spare v_buffer v_typed v_marksBlown v_rests v_begins v_orders v_orderMany v_spot v_wrong v_isShort v_before v_hash) (wX5 cyI cyC ob a1 a2 a3 a4 a5 a6 a7 a8 r_thrown r_z r_saved r_savedMany v_spare v_buffer v_typed v_marksBlown v_rests v_begins v_orders v_orderMany v_spot v_wrong v_isShort v_before v_hash) r := by
  refine metMI_of (by decide) (Nat.le_of_ble_eq_true rfl) ?_
  intro p e s m below meth c ls hC hr hlk hP hK hD hl
  have hC : CallFix p m c cX5_heat 2 s [.ref ob, .int p1].toArray wA RX5 := hC
  obtain ⟨hx, hb, hml, hown, hts⟩ := id hC
  have hS : va_S (k_A (wX5 cyI cyC ob a1 a2 a3 a4 a5 a6 a7 a8 v_thrown v_z v_saved v_savedMany v_spare v_buffer v_typed v_marksBlown v_rests v_begins v_orders v_orderMany v_spot v_wrong v_isShort v_before v_hash)) s.heap s.heap [] := va_S.rf
  have hl : lv_has ls 2 [(0, .ref ob), (1, .int p1)] := hl
  have h := hf
  unfold fX5_heat at h
  obtain ⟨H, hH⟩ : ∃ H, H = s.heap := ⟨_, rfl⟩
  obtain ⟨locs, hlo⟩ : ∃ locs : List Loc, locs = [] := ⟨_, rfl⟩
  rw [← hH] at hP
  rw [← hlo] at hS
  have hS : va_S (k_A (wX5 cyI cyC ob a1 a2 a3 a4 a5 a6 a7 a8 v_thrown v_z v_saved v_savedMany v_spare v_buffer v_typed v_marksBlown v_rests v_begins v_orders v_orderMany v_spot v_wrong v_isShort v_before v_hash)) s.heap H locs := by rw [hH]; exact hS
  show W p l e (k_rm 1 24) s m [.ref ob, .int p1].toArray below meth c s.heap [] 0 0 _ _
  rw [← hlo, ← hH]
  refine lv_aload_n hx hb dX5_heat_0 rfl (lv_at hl 0 rfl) ?_
  refine lv_iload_n hx hb dX5_heat_1 rfl (lv_at hl 1 rfl) ?_
  refine lv_iconst (v := 1) hx hb dX5_heat_2 (by decide) ?_
  refine lv_bipush (v := 9) hx hb dX5_heat_3 (by decide) ?_
  obtain ⟨x1, hc5, h⟩ := k_b1_e h
  refine g_callRI_S (As := [.int p1, .int 1, .int 9]) (rest := [.ref ob]) hC (mX5_in l dC dI cyI cyC cyO p1 1 9 hc5) q748 q749 q75 q750 3 hdX5_in ⟨Nat.le_of_ble_eq_true rfl, Nat.le_of_ble_eq_true rfl⟩ ⟨Nat.le_of_ble_eq_true rfl, Nat.le_of_ble_eq_true rfl⟩ rfl rfl hl.1 (Nat.le_of_ble_eq_true rfl) va_P_nil hK hS dX5_heat_5 (fun H locs hk hS => ?_)
  have hP := k_kept hP hk
  obtain ⟨K16, hK16, h⟩ := k_j1_e h
  have J16 : ∀ (x2 : Int32) (H : Heap) (locs : List Loc) (ls : Array Slot), K16 x2 = some (r, r_thrown, r_z, r_saved, r_savedMany) → va_P (dC, dI) vwCl (wX5 cyI cyC ob a1 a2 a3 a4 a5 a6 a7 a8 v_thrown v_z v_saved v_savedMany v_spare v_buffer v_typed v_marksBlown v_rests v_begins v_orders v_orderMany v_spot v_wrong v_isShort v_before v_hash) H → va_S (k_A (wX5 cyI cyC ob a1 a2 a3 a4 a5 a6 a7 a8 v_thrown v_z v_saved v_savedMany v_spare v_buffer v_typed v_marksBlown v_rests v_begins v_orders v_orderMany v_spot v_wrong v_isShort v_before v_hash)) s.heap H locs → lv_has ls 2 [(0, .ref ob), (1, .int p1)] → W p l e (k_rm 1 24) s m [.ref ob, .int p1].toArray below meth c H locs 0 0 (MQ below (qMI r (dC, dI) (wX5 cyI cyC ob a1 a2 a3 a4 a5 a6 a7 a8 v_thrown v_z v_saved v_savedMany v_spare v_buffer v_typed v_marksBlown v_rests v_begins v_orders v_orderMany v_spot v_wrong v_isShort v_before v_hash) (wX5 cyI cyC ob a1 a2 a3 a4 a5 a6 a7 a8 r_thrown r_z r_saved r_savedMany v_spare v_buffer v_typed v_marksBlown v_rests v_begins v_orders v_orderMany v_spot v_wrong v_isShort v_before v_hash)) [.ref ob, .int p1].toArray s 0 0 (k_A (wX5 cyI cyC ob a1 a2 a3 a4 a5 a6 a7 a8 v_thrown v_z v_saved v_savedMany v_spare v_buffer v_typed v_marksBlown v_rests v_begins v_orders v_orderMany v_spot v_wrong v_isShort v_before v_hash))) (F0 m 16 ls [.int x2, .ref ob]) := by
    intro x2 H locs ls h hP hS hl
    have h := k_a1 hK16 h
    refine va_put (D := (dC, dI)) (ci := 4) (v := .int x2) (ty := .int) (C := RX5) (T := TX5) (N := 17) hx hb hts iaX5 tyX5 tyX5_ok nmX5 hown hK hP hD hS 0 rfl rfl 0 (by decide) (hts _ q716) (fun _ h9 => h9) rfl (by decide +kernel) rfl rfl (Nat.le_of_ble_eq_true rfl) dX5_heat_16 (fun H locs hP _ hS => ?_)
    have hP : va_P (dC, dI) vwCl (wX5 cyI cyC ob a1 a2 a3 a4 a5 a6 a7 a8 x2 v_z v_saved v_savedMany v_spare v_buffer v_typed v_marksBlown v_rests v_begins v_orders v_orderMany v_spot v_wrong v_isShort v_before v_hash) H := hP
    have hD : va_D (k_A (wX5 cyI cyC ob a1 a2 a3 a4 a5 a6 a7 a8 v_thrown v_z v_saved v_savedMany v_spare v_buffer v_typed v_marksBlown v_rests v_begins v_orders v_orderMany v_spot v_wrong v_isShort v_before v_hash)) (wX5 cyI cyC ob a1 a2 a3 a4 a5 a6 a7 a8 x2 v_z v_saved v_savedMany v_spare v_buffer v_typed v_marksBlown v_rests v_begins v_orders v_orderMany v_spot v_wrong v_isShort v_before v_hash) := k_Dm hD rfl
    refine lv_aload_n hx hb dX5_heat_19 rfl (lv_at hl 0 rfl) ?_
    refine va_get (D := (dC, dI)) (ci := 4) (v := .int x2) (C := RX5) (T := TX5) (N := 17) hx hb hts iaX5 hown hK hP 0 rfl rfl 0 (by decide) (hts _ q716) (fun _ h9 => h9) rfl dX5_heat_20 ?_
    refine g_if_le (tgt := 28) hx hb dX5_heat_23 (by decide) h (fun h => ?_) (fun h => ?_)
    · refine lv_aload_n hx hb dX5_heat_28 rfl (lv_at hl 0 rfl) ?_
      obtain ⟨c3, c4, hc29, h⟩ := k_b2_e h
      refine g_callMV_V (As := []) (rest := []) hC (mX5_save l dC dI cyI cyC cyO ob a1 a2 a3 a4 a5 a6 a7 a8 x2 v_z v_saved v_savedMany v_spare v_buffer v_typed v_marksBlown v_rests v_begins v_orders v_orderMany v_spot v_wrong v_isShort v_before v_hash hc29) q763 q764 q18 q75 q765 0 hdX5_save ⟨Nat.le_of_ble_eq_true rfl, Nat.le_of_ble_eq_true rfl⟩ ⟨Nat.le_of_ble_eq_true rfl, Nat.le_of_ble_eq_true rfl⟩ rfl rfl hl.1 (Nat.le_of_ble_eq_true rfl) hP hK hD (va_recv hK hP (ci := 4) (q0 := 0) rfl rfl) hS dX5_heat_29 (fun H locs hPn hk hS => ?_)
      have hP : va_P (dC, dI) vwCl (wX5 cyI cyC ob a1 a2 a3 a4 a5 a6 a7 a8 x2 v_z c3 c4 v_spare v_buffer v_typed v_marksBlown v_rests v_begins v_orders v_orderMany v_spot v_wrong v_isShort v_before v_hash) H := hPn
      have hD : va_D (k_A (wX5 cyI cyC ob a1 a2 a3 a4 a5 a6 a7 a8 v_thrown v_z v_saved v_savedMany v_spare v_buffer v_typed v_marksBlown v_rests v_begins v_orders v_orderMany v_spot v_wrong v_isShort v_before v_hash)) (wX5 cyI cyC ob a1 a2 a3 a4 a5 a6 a7 a8 x2 v_z c3 c4 v_spare v_buffer v_typed v_marksBlown v_rests v_begins v_orders v_orderMany v_spot v_wrong v_isShort v_before v_hash) := k_Dm hD rfl
      refine lv_aload_n hx hb dX5_heat_32 rfl (lv_at hl 0 rfl) ?_
      refine lv_iload_n hx hb dX5_heat_33 rfl (lv_at hl 1 rfl) ?_
      obtain ⟨x5, c6, hc34, h⟩ := k_b2_e h
      refine g_callMI_V (As := [.int p1]) (rest := []) hC (mX5_heatAll l dC dI cyI cyC cyO ob a1 a2 a3 a4 a5 a6 a7 a8 x2 v_z c3 c4 v_spare v_buffer v_typed v_marksBlown v_rests v_begins v_orders v_orderMany v_spot v_wrong v_isShort v_before v_hash p1 hc34) q843 q844 q32 q75 q845 1 hdX5_heatAll ⟨Nat.le_of_ble_eq_true rfl, Nat.le_of_ble_eq_true rfl⟩ ⟨Nat.le_of_ble_eq_true rfl, Nat.le_of_ble_eq_true rfl⟩ rfl rfl hl.1 (Nat.le_of_ble_eq_true rfl) hP hK hD (va_recv hK hP (ci := 4) (q0 := 0) rfl rfl) hS dX5_heat_34 (fun H locs hPn hk hS => ?_)
      have hP : va_P (dC, dI) vwCl (wX5 cyI cyC ob a1 a2 a3 a4 a5 a6 a7 a8 x2 c6 c3 c4 v_spare v_buffer v_typed v_marksBlown v_rests v_begins v_orders v_orderMany v_spot v_wrong v_isShort v_before v_hash) H := hPn
      have hD : va_D (k_A (wX5 cyI cyC ob a1 a2 a3 a4 a5 a6 a7 a8 v_thrown v_z v_saved v_savedMany v_spare v_buffer v_typed v_marksBlown v_rests v_begins v_orders v_orderMany v_spot v_wrong v_isShort v_before v_hash)) (wX5 cyI cyC ob a1 a2 a3 a4 a5 a6 a7 a8 x2 c6 c3 c4 v_spare v_buffer v_typed v_marksBlown v_rests v_begins v_orders v_orderMany v_spot v_wrong v_isShort v_before v_hash) := k_Dm hD rfl
      obtain ⟨e0, e1, e2, e3, e4⟩ := k_t5 h
      exact g_retMI hx hb hr hlk hS e0 (by rw [← e1, ← e2, ← e3, ← e4]; exact hP) dX5_heat_37
    · refine lv_iconst (v := 0) hx hb dX5_heat_26 (by decide) ?_
      obtain ⟨e0, e1, e2, e3, e4⟩ := k_t5 h
      exact g_retMI hx hb hr hlk hS e0 (by rw [← e1, ← e2, ← e3, ← e4]; exact hP) dX5_heat_27
  refine g_if_eq (tgt := 15) hx hb dX5_heat_8 (by decide) h (fun h => ?_) (fun h => ?_)
  · refine lv_iconst (v := 1) hx hb dX5_heat_15 (by decide) ?_
    exact J16 1 _ _ _ h hP hS (lv_sub hl [0, 1] rfl)
  · refine lv_iconst (v := 0) hx hb dX5_heat_11 (by decide) ?_
    refine lv_goto (tgt := 16) hx hb dX5_heat_12 (by decide) ?_
    exact J16 0 _ _ _ h hP hS (lv_sub hl [0, 1] rfl)
def fX5_pass (v_thrown : Int32) (v_z : Nat → Int32) (v_saved : Nat → Int32) (v_savedMany : Int32) (p1 : Int32) : Option (Int32 × Int32 × (Nat → Int32) × (Nat → Int32) × Int32) :=
  k_b1 (fX5_in p1 1 99) fun (x1 : Int32) =>
  k_j1
  (fun (x2 : Int32) =>
    k_if (x2 ≤ 0)
    (
      k_b2 (fX5_save v_z v_saved v_savedMany) fun (c3 : Nat → Int32) (c4 : Int32) =>
      k_ck (0 : Int32) 327 <| k_let (v_z (0 : Int32).toNatClampNeg) fun (x5 : Int32) =>
      k_let (x5 + p1) fun (x6 : Int32) =>
      k_ck (0 : Int32) 327 <| k_let (upd v_z (0 : Int32).toNatClampNeg x6) fun (c7 : Nat → Int32) =>
      k_ck (0 : Int32) 327 <| k_let (c7 (0 : Int32).toNatClampNeg) fun (x8 : Int32) =>
      some (x8, x2, c7, c3, c4))
    (
      some (0, x2, v_z, v_saved, v_savedMany)))
  (fun K34 =>
  k_if (x1 = 0)
  (
    K34 1)
  (
    k_ck (0 : Int32) 327 <| k_let (v_z (0 : Int32).toNatClampNeg) fun (x9 : Int32) =>
    k_let (x9 + p1) fun (x10 : Int32) =>
    k_if (x10 ≤ 9999)
    (
      K34 0)
    (
      K34 2)))
theorem hdX5_pass : yX5_pass.cls = RX5 ∧ yX5_pass.cls ≠ "java/lang/invoke/MethodHandle" ∧ yX5_pass.cls ≠ "java/lang/invoke/VarHandle" ∧ (parseMethodDescriptor yX5_pass.desc).map (fun d => d.parameters.length) = some 1 := by decide +kernel
set_option maxRecDepth 100000 in
set_option maxHeartbeats 4000000 in
theorem mX5_pass (l : Launch) (dC : Nat → ClassId) (dI : Nat → Nat → Nat) (cyI cyC cyO : ClassId) (ob a1 a2 a3 a4 a5 a6 a7 a8 : Nat) (v_thrown : Int32) (v_z : Nat → Int32) (v_saved : Nat → Int32) (v_savedMany : Int32) (v_spare : Nat → Int32) (v_buffer : Nat → Int32) (v_typed : Int32) (v_marksBlown : Int32) (v_rests : Nat → Int32) (v_begins : Nat → Int32) (v_orders : Nat → Int32) (v_orderMany : Int32) (v_spot : Int32) (v_wrong : Int32) (v_isShort : Int32) (v_before : Nat → Int32) (v_hash : Int64) (p1 : Int32) {r : Int32} {r_thrown : Int32} {r_z : Nat → Int32} {r_saved : Nat → Int32} {r_savedMany : Int32} (hf : fX5_pass v_thrown v_z v_saved v_savedMany p1 = some (r, r_thrown, r_z, r_saved, r_savedMany)) : MetMI l yX5_pass cX5_pass 2 (some .int) 1 22 [.ref ob, .int p1] (dC, dI) (tyS cyI cyC cyO) (wX5 cyI cyC ob a1 a2 a3 a4 a5 a6 a7 a8 v_thrown v_z v_saved v_savedMany v_spare v_buffer v_typed v_marksBlown v_rests v_begins v_orders v_orderMany v_spot v_wrong v_isShort v_before v_hash) (wX5 cyI cyC ob a1 a2 a3 a4 a5 a6 a7 a8 r_thrown r_z r_saved r_savedMany v_spare v_buffer v_typed v_marksBlown v_rests v_begins v_orders v_orderMany v_spot v_wrong v_isShort v_before v_hash) r := by
  refine metMI_of (by decide) (Nat.le_of_ble_eq_true rfl) ?_
  intro p e s m below meth c ls hC hr hlk hP hK hD hl
  have hC : CallFix p m c cX5_pass 2 s [.ref ob, .int p1].toArray wA RX5 := hC
  obtain ⟨hx, hb, hml, hown, hts⟩ := id hC
  have hS : va_S (k_A (wX5 cyI cyC ob a1 a2 a3 a4 a5 a6 a7 a8 v_thrown v_z v_saved v_savedMany v_spare v_buffer v_typed v_marksBlown v_rests v_begins v_orders v_orderMany v_spot v_wrong v_isShort v_before v_hash)) s.heap s.heap [] := va_S.rf
  have hl : lv_has ls 2 [(0, .ref ob), (1, .int p1)] := hl
  have h := hf
  unfold fX5_pass at h
  obtain ⟨H, hH⟩ : ∃ H, H = s.heap := ⟨_, rfl⟩
  obtain ⟨locs, hlo⟩ : ∃ locs : List Loc, locs = [] := ⟨_, rfl⟩
  rw [← hH] at hP
  rw [← hlo] at hS
  have hS : va_S (k_A (wX5 cyI cyC ob a1 a2 a3 a4 a5 a6 a7 a8 v_thrown v_z v_saved v_savedMany v_spare v_buffer v_typed v_marksBlown v_rests v_begins v_orders v_orderMany v_spot v_wrong v_isShort v_before v_hash)) s.heap H locs := by rw [hH]; exact hS
  show W p l e (k_rm 1 22) s m [.ref ob, .int p1].toArray below meth c s.heap [] 0 0 _ _
  rw [← hlo, ← hH]
  refine lv_aload_n hx hb dX5_pass_0 rfl (lv_at hl 0 rfl) ?_
  refine lv_iload_n hx hb dX5_pass_1 rfl (lv_at hl 1 rfl) ?_
  refine lv_iconst (v := 1) hx hb dX5_pass_2 (by decide) ?_
  refine lv_bipush (v := 99) hx hb dX5_pass_3 (by decide) ?_
  obtain ⟨x1, hc5, h⟩ := k_b1_e h
  refine g_callRI_S (As := [.int p1, .int 1, .int 99]) (rest := [.ref ob]) hC (mX5_in l dC dI cyI cyC cyO p1 1 99 hc5) q748 q749 q75 q750 3 hdX5_in ⟨Nat.le_of_ble_eq_true rfl, Nat.le_of_ble_eq_true rfl⟩ ⟨Nat.le_of_ble_eq_true rfl, Nat.le_of_ble_eq_true rfl⟩ rfl rfl hl.1 (Nat.le_of_ble_eq_true rfl) va_P_nil hK hS dX5_pass_5 (fun H locs hk hS => ?_)
  have hP := k_kept hP hk
  obtain ⟨K34, hK34, h⟩ := k_j1_e h
  have J34 : ∀ (x2 : Int32) (H : Heap) (locs : List Loc) (ls : Array Slot), K34 x2 = some (r, r_thrown, r_z, r_saved, r_savedMany) → va_P (dC, dI) vwCl (wX5 cyI cyC ob a1 a2 a3 a4 a5 a6 a7 a8 v_thrown v_z v_saved v_savedMany v_spare v_buffer v_typed v_marksBlown v_rests v_begins v_orders v_orderMany v_spot v_wrong v_isShort v_before v_hash) H → va_S (k_A (wX5 cyI cyC ob a1 a2 a3 a4 a5 a6 a7 a8 v_thrown v_z v_saved v_savedMany v_spare v_buffer v_typed v_marksBlown v_rests v_begins v_orders v_orderMany v_spot v_wrong v_isShort v_before v_hash)) s.heap H locs → lv_has ls 2 [(0, .ref ob), (1, .int p1)] → W p l e (k_rm 1 22) s m [.ref ob, .int p1].toArray below meth c H locs 0 0 (MQ below (qMI r (dC, dI) (wX5 cyI cyC ob a1 a2 a3 a4 a5 a6 a7 a8 v_thrown v_z v_saved v_savedMany v_spare v_buffer v_typed v_marksBlown v_rests v_begins v_orders v_orderMany v_spot v_wrong v_isShort v_before v_hash) (wX5 cyI cyC ob a1 a2 a3 a4 a5 a6 a7 a8 r_thrown r_z r_saved r_savedMany v_spare v_buffer v_typed v_marksBlown v_rests v_begins v_orders v_orderMany v_spot v_wrong v_isShort v_before v_hash)) [.ref ob, .int p1].toArray s 0 0 (k_A (wX5 cyI cyC ob a1 a2 a3 a4 a5 a6 a7 a8 v_thrown v_z v_saved v_savedMany v_spare v_buffer v_typed v_marksBlown v_rests v_begins v_orders v_orderMany v_spot v_wrong v_isShort v_before v_hash))) (F0 m 34 ls [.int x2, .ref ob]) := by
    intro x2 H locs ls h hP hS hl
    have h := k_a1 hK34 h
    refine va_put (D := (dC, dI)) (ci := 4) (v := .int x2) (ty := .int) (C := RX5) (T := TX5) (N := 17) hx hb hts iaX5 tyX5 tyX5_ok nmX5 hown hK hP hD hS 0 rfl rfl 0 (by decide) (hts _ q716) (fun _ h9 => h9) rfl (by decide +kernel) rfl rfl (Nat.le_of_ble_eq_true rfl) dX5_pass_34 (fun H locs hP _ hS => ?_)
    have hP : va_P (dC, dI) vwCl (wX5 cyI cyC ob a1 a2 a3 a4 a5 a6 a7 a8 x2 v_z v_saved v_savedMany v_spare v_buffer v_typed v_marksBlown v_rests v_begins v_orders v_orderMany v_spot v_wrong v_isShort v_before v_hash) H := hP
    have hD : va_D (k_A (wX5 cyI cyC ob a1 a2 a3 a4 a5 a6 a7 a8 v_thrown v_z v_saved v_savedMany v_spare v_buffer v_typed v_marksBlown v_rests v_begins v_orders v_orderMany v_spot v_wrong v_isShort v_before v_hash)) (wX5 cyI cyC ob a1 a2 a3 a4 a5 a6 a7 a8 x2 v_z v_saved v_savedMany v_spare v_buffer v_typed v_marksBlown v_rests v_begins v_orders v_orderMany v_spot v_wrong v_isShort v_before v_hash) := k_Dm hD rfl
    refine lv_aload_n hx hb dX5_pass_37 rfl (lv_at hl 0 rfl) ?_
    refine va_get (D := (dC, dI)) (ci := 4) (v := .int x2) (C := RX5) (T := TX5) (N := 17) hx hb hts iaX5 hown hK hP 0 rfl rfl 0 (by decide) (hts _ q716) (fun _ h9 => h9) rfl dX5_pass_38 ?_
    refine g_if_le (tgt := 46) hx hb dX5_pass_41 (by decide) h (fun h => ?_) (fun h => ?_)
    · refine lv_aload_n hx hb dX5_pass_46 rfl (lv_at hl 0 rfl) ?_
      obtain ⟨c3, c4, hc47, h⟩ := k_b2_e h
      refine g_callMV_V (As := []) (rest := []) hC (mX5_save l dC dI cyI cyC cyO ob a1 a2 a3 a4 a5 a6 a7 a8 x2 v_z v_saved v_savedMany v_spare v_buffer v_typed v_marksBlown v_rests v_begins v_orders v_orderMany v_spot v_wrong v_isShort v_before v_hash hc47) q763 q764 q18 q75 q765 0 hdX5_save ⟨Nat.le_of_ble_eq_true rfl, Nat.le_of_ble_eq_true rfl⟩ ⟨Nat.le_of_ble_eq_true rfl, Nat.le_of_ble_eq_true rfl⟩ rfl rfl hl.1 (Nat.le_of_ble_eq_true rfl) hP hK hD (va_recv hK hP (ci := 4) (q0 := 0) rfl rfl) hS dX5_pass_47 (fun H locs hPn hk hS => ?_)
      have hP : va_P (dC, dI) vwCl (wX5 cyI cyC ob a1 a2 a3 a4 a5 a6 a7 a8 x2 v_z c3 c4 v_spare v_buffer v_typed v_marksBlown v_rests v_begins v_orders v_orderMany v_spot v_wrong v_isShort v_before v_hash) H := hPn
      have hD : va_D (k_A (wX5 cyI cyC ob a1 a2 a3 a4 a5 a6 a7 a8 v_thrown v_z v_saved v_savedMany v_spare v_buffer v_typed v_marksBlown v_rests v_begins v_orders v_orderMany v_spot v_wrong v_isShort v_before v_hash)) (wX5 cyI cyC ob a1 a2 a3 a4 a5 a6 a7 a8 x2 v_z c3 c4 v_spare v_buffer v_typed v_marksBlown v_rests v_begins v_orders v_orderMany v_spot v_wrong v_isShort v_before v_hash) := k_Dm hD rfl
      refine lv_aload_n hx hb dX5_pass_50 rfl (lv_at hl 0 rfl) ?_
      refine va_get (D := (dC, dI)) (ci := 4) (v := .ref a1) (C := RX5) (T := TX5) (N := 17) hx hb hts iaX5 hown hK hP 0 rfl rfl 1 (by decide) (hts _ q717) (fun _ h9 => h9) rfl dX5_pass_51 ?_
      refine lv_iconst (v := 0) hx hb dX5_pass_54 (by decide) ?_
      refine lv_dup2_11 hx hb dX5_pass_55 rfl rfl ?_
      refine g_iald hx hb hK hP 1 0 rfl rfl dX5_pass_56 h (fun x5 h => ?_)
      refine lv_iload_n hx hb dX5_pass_57 rfl (lv_at hl 1 rfl) ?_
      refine g_iadd hx hb dX5_pass_58 h (fun x6 h => ?_)
      refine g_iast hx hb hK hP hD hS 1 0 rfl rfl dX5_pass_59 h (fun c7 H locs h hP hS => ?_)
      have hP : va_P (dC, dI) vwCl (wX5 cyI cyC ob a1 a2 a3 a4 a5 a6 a7 a8 x2 c7 c3 c4 v_spare v_buffer v_typed v_marksBlown v_rests v_begins v_orders v_orderMany v_spot v_wrong v_isShort v_before v_hash) H := hP
      have hD : va_D (k_A (wX5 cyI cyC ob a1 a2 a3 a4 a5 a6 a7 a8 v_thrown v_z v_saved v_savedMany v_spare v_buffer v_typed v_marksBlown v_rests v_begins v_orders v_orderMany v_spot v_wrong v_isShort v_before v_hash)) (wX5 cyI cyC ob a1 a2 a3 a4 a5 a6 a7 a8 x2 c7 c3 c4 v_spare v_buffer v_typed v_marksBlown v_rests v_begins v_orders v_orderMany v_spot v_wrong v_isShort v_before v_hash) := k_Dm hD rfl
      refine lv_aload_n hx hb dX5_pass_60 rfl (lv_at hl 0 rfl) ?_
      refine va_get (D := (dC, dI)) (ci := 4) (v := .ref a1) (C := RX5) (T := TX5) (N := 17) hx hb hts iaX5 hown hK hP 0 rfl rfl 1 (by decide) (hts _ q717) (fun _ h9 => h9) rfl dX5_pass_61 ?_
      refine lv_iconst (v := 0) hx hb dX5_pass_64 (by decide) ?_
      refine g_iald hx hb hK hP 1 0 rfl rfl dX5_pass_65 h (fun x8 h => ?_)
      obtain ⟨e0, e1, e2, e3, e4⟩ := k_t5 h
      exact g_retMI hx hb hr hlk hS e0 (by rw [← e1, ← e2, ← e3, ← e4]; exact hP) dX5_pass_66
    · refine lv_iconst (v := 0) hx hb dX5_pass_44 (by decide) ?_
      obtain ⟨e0, e1, e2, e3, e4⟩ := k_t5 h
      exact g_retMI hx hb hr hlk hS e0 (by rw [← e1, ← e2, ← e3, ← e4]; exact hP) dX5_pass_45
  refine g_if_ne (tgt := 15) hx hb dX5_pass_8 (by decide) h (fun h => ?_) (fun h => ?_)
  · refine lv_aload_n hx hb dX5_pass_15 rfl (lv_at hl 0 rfl) ?_
    refine va_get (D := (dC, dI)) (ci := 4) (v := .ref a1) (C := RX5) (T := TX5) (N := 17) hx hb hts iaX5 hown hK hP 0 rfl rfl 1 (by decide) (hts _ q717) (fun _ h9 => h9) rfl dX5_pass_16 ?_
    refine lv_iconst (v := 0) hx hb dX5_pass_19 (by decide) ?_
    refine g_iald hx hb hK hP 1 0 rfl rfl dX5_pass_20 h (fun x9 h => ?_)
    refine lv_iload_n hx hb dX5_pass_21 rfl (lv_at hl 1 rfl) ?_
    refine g_iadd hx hb dX5_pass_22 h (fun x10 h => ?_)
    refine lv_sipush (v := 9999) hx hb dX5_pass_23 (by decide) ?_
    refine g_icmp_le (tgt := 33) hx hb dX5_pass_26 (by decide) h (fun h => ?_) (fun h => ?_)
    · refine lv_iconst (v := 0) hx hb dX5_pass_33 (by decide) ?_
      exact J34 0 _ _ _ h hP hS (lv_sub hl [0, 1] rfl)
    · refine lv_iconst (v := 2) hx hb dX5_pass_29 (by decide) ?_
      refine lv_goto (tgt := 34) hx hb dX5_pass_30 (by decide) ?_
      exact J34 2 _ _ _ h hP hS (lv_sub hl [0, 1] rfl)
  · refine lv_iconst (v := 1) hx hb dX5_pass_11 (by decide) ?_
    refine lv_goto (tgt := 34) hx hb dX5_pass_12 (by decide) ?_
    exact J34 1 _ _ _ h hP hS (lv_sub hl [0, 1] rfl)
def fX5_leastOf (p0 : Int32) : Option (Int32) :=
  k_if (p0 = 1)
  (
    some 1)
  (
    k_if (p0 = 2)
    (
      some 1)
    (
      some 0))
theorem hdX5_leastOf : yX5_leastOf.cls ≠ "java/lang/invoke/MethodHandle" ∧ yX5_leastOf.cls ≠ "java/lang/invoke/VarHandle" ∧ (parseMethodDescriptor yX5_leastOf.desc).map (fun d => d.parameters.length) = some 1 := by decide +kernel
set_option maxRecDepth 100000 in
set_option maxHeartbeats 4000000 in
theorem mX5_leastOf (l : Launch) (dC : Nat → ClassId) (dI : Nat → Nat → Nat) (cyI cyC cyO : ClassId)  (p0 : Int32) {r : Int32} (hf : fX5_leastOf p0 = some r) : MetRI l yX5_leastOf cX5_leastOf 1 (some .int) 0 0 [.int p0] (dC, dI) (tyS cyI cyC cyO) [] r := by
  refine metRI_of (by decide) (Nat.le_of_ble_eq_true rfl) ?_
  intro p e s m below meth c ls hC hr hlk hP hK hl
  have hC : CallFix p m c cX5_leastOf 1 s [.int p0].toArray wA RX5 := hC
  obtain ⟨hx, hb, hml, hown, hts⟩ := id hC
  have hS : va_S kF s.heap s.heap [] := va_S.rf
  have hl : lv_has ls 1 [(0, .int p0)] := hl
  have h := hf
  unfold fX5_leastOf at h
  obtain ⟨H, hH⟩ : ∃ H, H = s.heap := ⟨_, rfl⟩
  obtain ⟨locs, hlo⟩ : ∃ locs : List Loc, locs = [] := ⟨_, rfl⟩
  rw [← hH] at hP
  rw [← hlo] at hS
  have hS : va_S kF s.heap H locs := by rw [hH]; exact hS
  show W p l e (k_rm 0 0) s m [.int p0].toArray below meth c s.heap [] 0 0 _ _
  rw [← hlo, ← hH]
  refine lv_iload_n hx hb dX5_leastOf_0 rfl (lv_at hl 0 rfl) ?_
  refine lv_iconst (v := 1) hx hb dX5_leastOf_1 (by decide) ?_
  refine g_icmp_eq (tgt := 10) hx hb dX5_leastOf_2 (by decide) h (fun h => ?_) (fun h => ?_)
  · refine lv_iconst (v := 1) hx hb dX5_leastOf_10 (by decide) ?_
    refine lv_goto (tgt := 15) hx hb dX5_leastOf_11 (by decide) ?_
    exact g_retRI hx hb hr hlk hS h dX5_leastOf_15
  · refine lv_iload_n hx hb dX5_leastOf_5 rfl (lv_at hl 0 rfl) ?_
    refine lv_iconst (v := 2) hx hb dX5_leastOf_6 (by decide) ?_
    refine g_icmp_ne (tgt := 14) hx hb dX5_leastOf_7 (by decide) h (fun h => ?_) (fun h => ?_)
    · refine lv_iconst (v := 0) hx hb dX5_leastOf_14 (by decide) ?_
      exact g_retRI hx hb hr hlk hS h dX5_leastOf_15
    · refine lv_iconst (v := 1) hx hb dX5_leastOf_10 (by decide) ?_
      refine lv_goto (tgt := 15) hx hb dX5_leastOf_11 (by decide) ?_
      exact g_retRI hx hb hr hlk hS h dX5_leastOf_15
def fX5_mostOf (p0 : Int32) : Option (Int32) :=
  k_if (p0 = 1)
  (
    some 3)
  (
    k_if (p0 = 2)
    (
      some 3)
    (
      some 1))
theorem hdX5_mostOf : yX5_mostOf.cls ≠ "java/lang/invoke/MethodHandle" ∧ yX5_mostOf.cls ≠ "java/lang/invoke/VarHandle" ∧ (parseMethodDescriptor yX5_mostOf.desc).map (fun d => d.parameters.length) = some 1 := by decide +kernel
set_option maxRecDepth 100000 in
set_option maxHeartbeats 4000000 in
theorem mX5_mostOf (l : Launch) (dC : Nat → ClassId) (dI : Nat → Nat → Nat) (cyI cyC cyO : ClassId)  (p0 : Int32) {r : Int32} (hf : fX5_mostOf p0 = some r) : MetRI l yX5_mostOf cX5_mostOf 1 (some .int) 0 0 [.int p0] (dC, dI) (tyS cyI cyC cyO) [] r := by
  refine metRI_of (by decide) (Nat.le_of_ble_eq_true rfl) ?_
  intro p e s m below meth c ls hC hr hlk hP hK hl
  have hC : CallFix p m c cX5_mostOf 1 s [.int p0].toArray wA RX5 := hC
  obtain ⟨hx, hb, hml, hown, hts⟩ := id hC
  have hS : va_S kF s.heap s.heap [] := va_S.rf
  have hl : lv_has ls 1 [(0, .int p0)] := hl
  have h := hf
  unfold fX5_mostOf at h
  obtain ⟨H, hH⟩ : ∃ H, H = s.heap := ⟨_, rfl⟩
  obtain ⟨locs, hlo⟩ : ∃ locs : List Loc, locs = [] := ⟨_, rfl⟩
  rw [← hH] at hP
  rw [← hlo] at hS
  have hS : va_S kF s.heap H locs := by rw [hH]; exact hS
  show W p l e (k_rm 0 0) s m [.int p0].toArray below meth c s.heap [] 0 0 _ _
  rw [← hlo, ← hH]
  refine lv_iload_n hx hb dX5_mostOf_0 rfl (lv_at hl 0 rfl) ?_
  refine lv_iconst (v := 1) hx hb dX5_mostOf_1 (by decide) ?_
  refine g_icmp_eq (tgt := 10) hx hb dX5_mostOf_2 (by decide) h (fun h => ?_) (fun h => ?_)
  · refine lv_iconst (v := 3) hx hb dX5_mostOf_10 (by decide) ?_
    refine lv_goto (tgt := 15) hx hb dX5_mostOf_11 (by decide) ?_
    exact g_retRI hx hb hr hlk hS h dX5_mostOf_15
  · refine lv_iload_n hx hb dX5_mostOf_5 rfl (lv_at hl 0 rfl) ?_
    refine lv_iconst (v := 2) hx hb dX5_mostOf_6 (by decide) ?_
    refine g_icmp_ne (tgt := 14) hx hb dX5_mostOf_7 (by decide) h (fun h => ?_) (fun h => ?_)
    · refine lv_iconst (v := 1) hx hb dX5_mostOf_14 (by decide) ?_
      exact g_retRI hx hb hr hlk hS h dX5_mostOf_15
    · refine lv_iconst (v := 3) hx hb dX5_mostOf_10 (by decide) ?_
      refine lv_goto (tgt := 15) hx hb dX5_mostOf_11 (by decide) ?_
      exact g_retRI hx hb hr hlk hS h dX5_mostOf_15
def fX5_set (v_thrown : Int32) (v_z : Nat → Int32) (v_saved : Nat → Int32) (v_savedMany : Int32) (p1 : Int32) (p2 : Int32) : Option (Int32 × Int32 × (Nat → Int32) × (Nat → Int32) × Int32) :=
  k_b1 (fX5_in p1 0 3) fun (x1 : Int32) =>
  k_j1
  (fun (x2 : Int32) =>
    k_if (x2 ≤ 0)
    (
      k_b2 (fX5_save v_z v_saved v_savedMany) fun (c3 : Nat → Int32) (c4 : Int32) =>
      k_let (3 + p1) fun (x5 : Int32) =>
      k_ck x5 327 <| k_let (v_z x5.toNatClampNeg) fun (x6 : Int32) =>
      k_let (3 + p1) fun (x7 : Int32) =>
      k_ck x7 327 <| k_let (upd v_z x7.toNatClampNeg p2) fun (c8 : Nat → Int32) =>
      some (x6, x2, c8, c3, c4))
    (
      some (0, x2, v_z, v_saved, v_savedMany)))
  (fun K34 =>
  k_if (x1 = 0)
  (
    K34 1)
  (
    k_b1 (fX5_leastOf p1) fun (x9 : Int32) =>
    k_b1 (fX5_mostOf p1) fun (x10 : Int32) =>
    k_b1 (fX5_in p2 x9 x10) fun (x11 : Int32) =>
    k_if (x11 = 0)
    (
      K34 2)
    (
      K34 0)))
theorem hdX5_set : yX5_set.cls = RX5 ∧ yX5_set.cls ≠ "java/lang/invoke/MethodHandle" ∧ yX5_set.cls ≠ "java/lang/invoke/VarHandle" ∧ (parseMethodDescriptor yX5_set.desc).map (fun d => d.parameters.length) = some 2 := by decide +kernel
set_option maxRecDepth 100000 in
set_option maxHeartbeats 4000000 in
theorem mX5_set (l : Launch) (dC : Nat → ClassId) (dI : Nat → Nat → Nat) (cyI cyC cyO : ClassId) (ob a1 a2 a3 a4 a5 a6 a7 a8 : Nat) (v_thrown : Int32) (v_z : Nat → Int32) (v_saved : Nat → Int32) (v_savedMany : Int32) (v_spare : Nat → Int32) (v_buffer : Nat → Int32) (v_typed : Int32) (v_marksBlown : Int32) (v_rests : Nat → Int32) (v_begins : Nat → Int32) (v_orders : Nat → Int32) (v_orderMany : Int32) (v_spot : Int32) (v_wrong : Int32) (v_isShort : Int32) (v_before : Nat → Int32) (v_hash : Int64) (p1 : Int32) (p2 : Int32) {r : Int32} {r_thrown : Int32} {r_z : Nat → Int32} {r_saved : Nat → Int32} {r_savedMany : Int32} (hf : fX5_set v_thrown v_z v_saved v_savedMany p1 p2 = some (r, r_thrown, r_z, r_saved, r_savedMany)) : MetMI l yX5_set cX5_set 4 (some .int) 1 22 [.ref ob, .int p1, .int p2] (dC, dI) (tyS cyI cyC cyO) (wX5 cyI cyC ob a1 a2 a3 a4 a5 a6 a7 a8 v_thrown v_z v_saved v_savedMany v_spare v_buffer v_typed v_marksBlown v_rests v_begins v_orders v_orderMany v_spot v_wrong v_isShort v_before v_hash) (wX5 cyI cyC ob a1 a2 a3 a4 a5 a6 a7 a8 r_thrown r_z r_saved r_savedMany v_spare v_buffer v_typed v_marksBlown v_rests v_begins v_orders v_orderMany v_spot v_wrong v_isShort v_before v_hash) r := by
  refine metMI_of (by decide) (Nat.le_of_ble_eq_true rfl) ?_
  intro p e s m below meth c ls hC hr hlk hP hK hD hl
  have hC : CallFix p m c cX5_set 4 s [.ref ob, .int p1, .int p2].toArray wA RX5 := hC
  obtain ⟨hx, hb, hml, hown, hts⟩ := id hC
  have hS : va_S (k_A (wX5 cyI cyC ob a1 a2 a3 a4 a5 a6 a7 a8 v_thrown v_z v_saved v_savedMany v_spare v_buffer v_typed v_marksBlown v_rests v_begins v_orders v_orderMany v_spot v_wrong v_isShort v_before v_hash)) s.heap s.heap [] := va_S.rf
  have hl : lv_has ls 4 [(0, .ref ob), (1, .int p1), (2, .int p2)] := hl
  have h := hf
  unfold fX5_set at h
  obtain ⟨H, hH⟩ : ∃ H, H = s.heap := ⟨_, rfl⟩
  obtain ⟨locs, hlo⟩ : ∃ locs : List Loc, locs = [] := ⟨_, rfl⟩
  rw [← hH] at hP
  rw [← hlo] at hS
  have hS : va_S (k_A (wX5 cyI cyC ob a1 a2 a3 a4 a5 a6 a7 a8 v_thrown v_z v_saved v_savedMany v_spare v_buffer v_typed v_marksBlown v_rests v_begins v_orders v_orderMany v_spot v_wrong v_isShort v_before v_hash)) s.heap H locs := by rw [hH]; exact hS
  show W p l e (k_rm 1 22) s m [.ref ob, .int p1, .int p2].toArray below meth c s.heap [] 0 0 _ _
  rw [← hlo, ← hH]
  refine lv_aload_n hx hb dX5_set_0 rfl (lv_at hl 0 rfl) ?_
  refine lv_iload_n hx hb dX5_set_1 rfl (lv_at hl 1 rfl) ?_
  refine lv_iconst (v := 0) hx hb dX5_set_2 (by decide) ?_
  refine lv_iconst (v := 3) hx hb dX5_set_3 (by decide) ?_
  obtain ⟨x1, hc4, h⟩ := k_b1_e h
  refine g_callRI_S (As := [.int p1, .int 0, .int 3]) (rest := [.ref ob]) hC (mX5_in l dC dI cyI cyC cyO p1 0 3 hc4) q748 q749 q75 q750 3 hdX5_in ⟨Nat.le_of_ble_eq_true rfl, Nat.le_of_ble_eq_true rfl⟩ ⟨Nat.le_of_ble_eq_true rfl, Nat.le_of_ble_eq_true rfl⟩ rfl rfl hl.1 (Nat.le_of_ble_eq_true rfl) va_P_nil hK hS dX5_set_4 (fun H locs hk hS => ?_)
  have hP := k_kept hP hk
  obtain ⟨K34, hK34, h⟩ := k_j1_e h
  have J34 : ∀ (x2 : Int32) (H : Heap) (locs : List Loc) (ls : Array Slot), K34 x2 = some (r, r_thrown, r_z, r_saved, r_savedMany) → va_P (dC, dI) vwCl (wX5 cyI cyC ob a1 a2 a3 a4 a5 a6 a7 a8 v_thrown v_z v_saved v_savedMany v_spare v_buffer v_typed v_marksBlown v_rests v_begins v_orders v_orderMany v_spot v_wrong v_isShort v_before v_hash) H → va_S (k_A (wX5 cyI cyC ob a1 a2 a3 a4 a5 a6 a7 a8 v_thrown v_z v_saved v_savedMany v_spare v_buffer v_typed v_marksBlown v_rests v_begins v_orders v_orderMany v_spot v_wrong v_isShort v_before v_hash)) s.heap H locs → lv_has ls 4 [(0, .ref ob), (1, .int p1), (2, .int p2)] → W p l e (k_rm 1 22) s m [.ref ob, .int p1, .int p2].toArray below meth c H locs 0 0 (MQ below (qMI r (dC, dI) (wX5 cyI cyC ob a1 a2 a3 a4 a5 a6 a7 a8 v_thrown v_z v_saved v_savedMany v_spare v_buffer v_typed v_marksBlown v_rests v_begins v_orders v_orderMany v_spot v_wrong v_isShort v_before v_hash) (wX5 cyI cyC ob a1 a2 a3 a4 a5 a6 a7 a8 r_thrown r_z r_saved r_savedMany v_spare v_buffer v_typed v_marksBlown v_rests v_begins v_orders v_orderMany v_spot v_wrong v_isShort v_before v_hash)) [.ref ob, .int p1, .int p2].toArray s 0 0 (k_A (wX5 cyI cyC ob a1 a2 a3 a4 a5 a6 a7 a8 v_thrown v_z v_saved v_savedMany v_spare v_buffer v_typed v_marksBlown v_rests v_begins v_orders v_orderMany v_spot v_wrong v_isShort v_before v_hash))) (F0 m 34 ls [.int x2, .ref ob]) := by
    intro x2 H locs ls h hP hS hl
    have h := k_a1 hK34 h
    refine va_put (D := (dC, dI)) (ci := 4) (v := .int x2) (ty := .int) (C := RX5) (T := TX5) (N := 17) hx hb hts iaX5 tyX5 tyX5_ok nmX5 hown hK hP hD hS 0 rfl rfl 0 (by decide) (hts _ q716) (fun _ h9 => h9) rfl (by decide +kernel) rfl rfl (Nat.le_of_ble_eq_true rfl) dX5_set_34 (fun H locs hP _ hS => ?_)
    have hP : va_P (dC, dI) vwCl (wX5 cyI cyC ob a1 a2 a3 a4 a5 a6 a7 a8 x2 v_z v_saved v_savedMany v_spare v_buffer v_typed v_marksBlown v_rests v_begins v_orders v_orderMany v_spot v_wrong v_isShort v_before v_hash) H := hP
    have hD : va_D (k_A (wX5 cyI cyC ob a1 a2 a3 a4 a5 a6 a7 a8 v_thrown v_z v_saved v_savedMany v_spare v_buffer v_typed v_marksBlown v_rests v_begins v_orders v_orderMany v_spot v_wrong v_isShort v_before v_hash)) (wX5 cyI cyC ob a1 a2 a3 a4 a5 a6 a7 a8 x2 v_z v_saved v_savedMany v_spare v_buffer v_typed v_marksBlown v_rests v_begins v_orders v_orderMany v_spot v_wrong v_isShort v_before v_hash) := k_Dm hD rfl
    refine lv_aload_n hx hb dX5_set_37 rfl (lv_at hl 0 rfl) ?_
    refine va_get (D := (dC, dI)) (ci := 4) (v := .int x2) (C := RX5) (T := TX5) (N := 17) hx hb hts iaX5 hown hK hP 0 rfl rfl 0 (by decide) (hts _ q716) (fun _ h9 => h9) rfl dX5_set_38 ?_
    refine g_if_le (tgt := 46) hx hb dX5_set_41 (by decide) h (fun h => ?_) (fun h => ?_)
    · refine lv_aload_n hx hb dX5_set_46 rfl (lv_at hl 0 rfl) ?_
      obtain ⟨c3, c4, hc47, h⟩ := k_b2_e h
      refine g_callMV_V (As := []) (rest := []) hC (mX5_save l dC dI cyI cyC cyO ob a1 a2 a3 a4 a5 a6 a7 a8 x2 v_z v_saved v_savedMany v_spare v_buffer v_typed v_marksBlown v_rests v_begins v_orders v_orderMany v_spot v_wrong v_isShort v_before v_hash hc47) q763 q764 q18 q75 q765 0 hdX5_save ⟨Nat.le_of_ble_eq_true rfl, Nat.le_of_ble_eq_true rfl⟩ ⟨Nat.le_of_ble_eq_true rfl, Nat.le_of_ble_eq_true rfl⟩ rfl rfl hl.1 (Nat.le_of_ble_eq_true rfl) hP hK hD (va_recv hK hP (ci := 4) (q0 := 0) rfl rfl) hS dX5_set_47 (fun H locs hPn hk hS => ?_)
      have hP : va_P (dC, dI) vwCl (wX5 cyI cyC ob a1 a2 a3 a4 a5 a6 a7 a8 x2 v_z c3 c4 v_spare v_buffer v_typed v_marksBlown v_rests v_begins v_orders v_orderMany v_spot v_wrong v_isShort v_before v_hash) H := hPn
      have hD : va_D (k_A (wX5 cyI cyC ob a1 a2 a3 a4 a5 a6 a7 a8 v_thrown v_z v_saved v_savedMany v_spare v_buffer v_typed v_marksBlown v_rests v_begins v_orders v_orderMany v_spot v_wrong v_isShort v_before v_hash)) (wX5 cyI cyC ob a1 a2 a3 a4 a5 a6 a7 a8 x2 v_z c3 c4 v_spare v_buffer v_typed v_marksBlown v_rests v_begins v_orders v_orderMany v_spot v_wrong v_isShort v_before v_hash) := k_Dm hD rfl
      refine lv_aload_n hx hb dX5_set_50 rfl (lv_at hl 0 rfl) ?_
      refine va_get (D := (dC, dI)) (ci := 4) (v := .ref a1) (C := RX5) (T := TX5) (N := 17) hx hb hts iaX5 hown hK hP 0 rfl rfl 1 (by decide) (hts _ q717) (fun _ h9 => h9) rfl dX5_set_51 ?_
      refine lv_iconst (v := 3) hx hb dX5_set_54 (by decide) ?_
      refine lv_iload_n hx hb dX5_set_55 rfl (lv_at hl 1 rfl) ?_
      refine g_iadd hx hb dX5_set_56 h (fun x5 h => ?_)
      refine g_iald hx hb hK hP 1 0 rfl rfl dX5_set_57 h (fun x6 h => ?_)
      refine lv_istore_n (lv' := [(3, .int x6), (0, .ref ob), (1, .int p1), (2, .int p2)]) hx hb dX5_set_58 rfl hl (by decide) rfl (fun ls hl => ?_)
      refine lv_aload_n hx hb dX5_set_59 rfl (lv_at hl 1 rfl) ?_
      refine va_get (D := (dC, dI)) (ci := 4) (v := .ref a1) (C := RX5) (T := TX5) (N := 17) hx hb hts iaX5 hown hK hP 0 rfl rfl 1 (by decide) (hts _ q717) (fun _ h9 => h9) rfl dX5_set_60 ?_
      refine lv_iconst (v := 3) hx hb dX5_set_63 (by decide) ?_
      refine lv_iload_n hx hb dX5_set_64 rfl (lv_at hl 2 rfl) ?_
      refine g_iadd hx hb dX5_set_65 h (fun x7 h => ?_)
      refine lv_iload_n hx hb dX5_set_66 rfl (lv_at hl 3 rfl) ?_
      refine g_iast hx hb hK hP hD hS 1 0 rfl rfl dX5_set_67 h (fun c8 H locs h hP hS => ?_)
      have hP : va_P (dC, dI) vwCl (wX5 cyI cyC ob a1 a2 a3 a4 a5 a6 a7 a8 x2 c8 c3 c4 v_spare v_buffer v_typed v_marksBlown v_rests v_begins v_orders v_orderMany v_spot v_wrong v_isShort v_before v_hash) H := hP
      have hD : va_D (k_A (wX5 cyI cyC ob a1 a2 a3 a4 a5 a6 a7 a8 v_thrown v_z v_saved v_savedMany v_spare v_buffer v_typed v_marksBlown v_rests v_begins v_orders v_orderMany v_spot v_wrong v_isShort v_before v_hash)) (wX5 cyI cyC ob a1 a2 a3 a4 a5 a6 a7 a8 x2 c8 c3 c4 v_spare v_buffer v_typed v_marksBlown v_rests v_begins v_orders v_orderMany v_spot v_wrong v_isShort v_before v_hash) := k_Dm hD rfl
      refine lv_iload_n hx hb dX5_set_68 rfl (lv_at hl 0 rfl) ?_
      obtain ⟨e0, e1, e2, e3, e4⟩ := k_t5 h
      exact g_retMI hx hb hr hlk hS e0 (by rw [← e1, ← e2, ← e3, ← e4]; exact hP) dX5_set_69
    · refine lv_iconst (v := 0) hx hb dX5_set_44 (by decide) ?_
      obtain ⟨e0, e1, e2, e3, e4⟩ := k_t5 h
      exact g_retMI hx hb hr hlk hS e0 (by rw [← e1, ← e2, ← e3, ← e4]; exact hP) dX5_set_45
  refine g_if_ne (tgt := 14) hx hb dX5_set_7 (by decide) h (fun h => ?_) (fun h => ?_)
  · refine lv_iload_n hx hb dX5_set_14 rfl (lv_at hl 2 rfl) ?_
    refine lv_iload_n hx hb dX5_set_15 rfl (lv_at hl 1 rfl) ?_
    obtain ⟨x9, hc16, h⟩ := k_b1_e h
    refine g_callRI_S (As := [.int p1]) (rest := [.int p2, .ref ob]) hC (mX5_leastOf l dC dI cyI cyC cyO p1 hc16) q854 q855 q75 q856 1 hdX5_leastOf ⟨Nat.le_of_ble_eq_true rfl, Nat.le_of_ble_eq_true rfl⟩ ⟨Nat.le_of_ble_eq_true rfl, Nat.le_of_ble_eq_true rfl⟩ rfl rfl hl.1 (Nat.le_of_ble_eq_true rfl) va_P_nil hK hS dX5_set_16 (fun H locs hk hS => ?_)
    have hP := k_kept hP hk
    refine lv_iload_n hx hb dX5_set_19 rfl (lv_at hl 1 rfl) ?_
    obtain ⟨x10, hc20, h⟩ := k_b1_e h
    refine g_callRI_S (As := [.int p1]) (rest := [.int x9, .int p2, .ref ob]) hC (mX5_mostOf l dC dI cyI cyC cyO p1 hc20) q857 q858 q75 q859 1 hdX5_mostOf ⟨Nat.le_of_ble_eq_true rfl, Nat.le_of_ble_eq_true rfl⟩ ⟨Nat.le_of_ble_eq_true rfl, Nat.le_of_ble_eq_true rfl⟩ rfl rfl hl.1 (Nat.le_of_ble_eq_true rfl) va_P_nil hK hS dX5_set_20 (fun H locs hk hS => ?_)
    have hP := k_kept hP hk
    obtain ⟨x11, hc23, h⟩ := k_b1_e h
    refine g_callRI_S (As := [.int p2, .int x9, .int x10]) (rest := [.ref ob]) hC (mX5_in l dC dI cyI cyC cyO p2 x9 x10 hc23) q748 q749 q75 q750 3 hdX5_in ⟨Nat.le_of_ble_eq_true rfl, Nat.le_of_ble_eq_true rfl⟩ ⟨Nat.le_of_ble_eq_true rfl, Nat.le_of_ble_eq_true rfl⟩ rfl rfl hl.1 (Nat.le_of_ble_eq_true rfl) va_P_nil hK hS dX5_set_23 (fun H locs hk hS => ?_)
    have hP := k_kept hP hk
    refine g_if_ne (tgt := 33) hx hb dX5_set_26 (by decide) h (fun h => ?_) (fun h => ?_)
    · refine lv_iconst (v := 0) hx hb dX5_set_33 (by decide) ?_
      exact J34 0 _ _ _ h hP hS (lv_sub hl [0, 1, 2] rfl)
    · refine lv_iconst (v := 2) hx hb dX5_set_29 (by decide) ?_
      refine lv_goto (tgt := 34) hx hb dX5_set_30 (by decide) ?_
      exact J34 2 _ _ _ h hP hS (lv_sub hl [0, 1, 2] rfl)
  · refine lv_iconst (v := 1) hx hb dX5_set_10 (by decide) ?_
    refine lv_goto (tgt := 34) hx hb dX5_set_11 (by decide) ?_
    exact J34 1 _ _ _ h hP hS (lv_sub hl [0, 1, 2] rfl)
def fX5_append (v_thrown : Int32) (v_buffer : Nat → Int32) (v_typed : Int32) (p1 : Int32) : Option (Int32 × Int32 × (Nat → Int32) × Int32) :=
  k_b1 (fX5_in p1 33 126) fun (x1 : Int32) =>
  k_j1
  (fun (x2 : Int32) =>
    k_if (x2 ≤ 0)
    (
      k_ck v_typed 60 <| k_let (upd v_buffer v_typed.toNatClampNeg p1) fun (c3 : Nat → Int32) =>
      k_let (v_typed + 1) fun (x4 : Int32) =>
      some (x4, x2, c3, x4))
    (
      some (0, x2, v_buffer, v_typed)))
  (fun K30 =>
  k_if (x1 = 0)
  (
    K30 1)
  (
    k_if (v_typed = 60)
    (
      K30 2)
    (
      K30 0)))
theorem hdX5_append : yX5_append.cls = RX5 ∧ yX5_append.cls ≠ "java/lang/invoke/MethodHandle" ∧ yX5_append.cls ≠ "java/lang/invoke/VarHandle" ∧ (parseMethodDescriptor yX5_append.desc).map (fun d => d.parameters.length) = some 1 := by decide +kernel
set_option maxRecDepth 100000 in
set_option maxHeartbeats 4000000 in
theorem mX5_append (l : Launch) (dC : Nat → ClassId) (dI : Nat → Nat → Nat) (cyI cyC cyO : ClassId) (ob a1 a2 a3 a4 a5 a6 a7 a8 : Nat) (v_thrown : Int32) (v_z : Nat → Int32) (v_saved : Nat → Int32) (v_savedMany : Int32) (v_spare : Nat → Int32) (v_buffer : Nat → Int32) (v_typed : Int32) (v_marksBlown : Int32) (v_rests : Nat → Int32) (v_begins : Nat → Int32) (v_orders : Nat → Int32) (v_orderMany : Int32) (v_spot : Int32) (v_wrong : Int32) (v_isShort : Int32) (v_before : Nat → Int32) (v_hash : Int64) (p1 : Int32) {r : Int32} {r_thrown : Int32} {r_buffer : Nat → Int32} {r_typed : Int32} (hf : fX5_append v_thrown v_buffer v_typed p1 = some (r, r_thrown, r_buffer, r_typed)) : MetMI l yX5_append cX5_append 2 (some .int) 1 22 [.ref ob, .int p1] (dC, dI) (tyS cyI cyC cyO) (wX5 cyI cyC ob a1 a2 a3 a4 a5 a6 a7 a8 v_thrown v_z v_saved v_savedMany v_spare v_buffer v_typed v_marksBlown v_rests v_begins v_orders v_orderMany v_spot v_wrong v_isShort v_before v_hash) (wX5 cyI cyC ob a1 a2 a3 a4 a5 a6 a7 a8 r_thrown v_z v_saved v_savedMany v_spare r_buffer r_typed v_marksBlown v_rests v_begins v_orders v_orderMany v_spot v_wrong v_isShort v_before v_hash) r := by
  refine metMI_of (by decide) (Nat.le_of_ble_eq_true rfl) ?_
  intro p e s m below meth c ls hC hr hlk hP hK hD hl
  have hC : CallFix p m c cX5_append 2 s [.ref ob, .int p1].toArray wA RX5 := hC
  obtain ⟨hx, hb, hml, hown, hts⟩ := id hC
  have hS : va_S (k_A (wX5 cyI cyC ob a1 a2 a3 a4 a5 a6 a7 a8 v_thrown v_z v_saved v_savedMany v_spare v_buffer v_typed v_marksBlown v_rests v_begins v_orders v_orderMany v_spot v_wrong v_isShort v_before v_hash)) s.heap s.heap [] := va_S.rf
  have hl : lv_has ls 2 [(0, .ref ob), (1, .int p1)] := hl
  have h := hf
  unfold fX5_append at h
  obtain ⟨H, hH⟩ : ∃ H, H = s.heap := ⟨_, rfl⟩
  obtain ⟨locs, hlo⟩ : ∃ locs : List Loc, locs = [] := ⟨_, rfl⟩
  rw [← hH] at hP
  rw [← hlo] at hS
  have hS : va_S (k_A (wX5 cyI cyC ob a1 a2 a3 a4 a5 a6 a7 a8 v_thrown v_z v_saved v_savedMany v_spare v_buffer v_typed v_marksBlown v_rests v_begins v_orders v_orderMany v_spot v_wrong v_isShort v_before v_hash)) s.heap H locs := by rw [hH]; exact hS
  show W p l e (k_rm 1 22) s m [.ref ob, .int p1].toArray below meth c s.heap [] 0 0 _ _
  rw [← hlo, ← hH]
  refine lv_aload_n hx hb dX5_append_0 rfl (lv_at hl 0 rfl) ?_
  refine lv_iload_n hx hb dX5_append_1 rfl (lv_at hl 1 rfl) ?_
  refine lv_bipush (v := 33) hx hb dX5_append_2 (by decide) ?_
  refine lv_bipush (v := 126) hx hb dX5_append_4 (by decide) ?_
  obtain ⟨x1, hc6, h⟩ := k_b1_e h
  refine g_callRI_S (As := [.int p1, .int 33, .int 126]) (rest := [.ref ob]) hC (mX5_in l dC dI cyI cyC cyO p1 33 126 hc6) q748 q749 q75 q750 3 hdX5_in ⟨Nat.le_of_ble_eq_true rfl, Nat.le_of_ble_eq_true rfl⟩ ⟨Nat.le_of_ble_eq_true rfl, Nat.le_of_ble_eq_true rfl⟩ rfl rfl hl.1 (Nat.le_of_ble_eq_true rfl) va_P_nil hK hS dX5_append_6 (fun H locs hk hS => ?_)
  have hP := k_kept hP hk
  obtain ⟨K30, hK30, h⟩ := k_j1_e h
  have J30 : ∀ (x2 : Int32) (H : Heap) (locs : List Loc) (ls : Array Slot), K30 x2 = some (r, r_thrown, r_buffer, r_typed) → va_P (dC, dI) vwCl (wX5 cyI cyC ob a1 a2 a3 a4 a5 a6 a7 a8 v_thrown v_z v_saved v_savedMany v_spare v_buffer v_typed v_marksBlown v_rests v_begins v_orders v_orderMany v_spot v_wrong v_isShort v_before v_hash) H → va_S (k_A (wX5 cyI cyC ob a1 a2 a3 a4 a5 a6 a7 a8 v_thrown v_z v_saved v_savedMany v_spare v_buffer v_typed v_marksBlown v_rests v_begins v_orders v_orderMany v_spot v_wrong v_isShort v_before v_hash)) s.heap H locs → lv_has ls 2 [(0, .ref ob), (1, .int p1)] → W p l e (k_rm 1 22) s m [.ref ob, .int p1].toArray below meth c H locs 0 0 (MQ below (qMI r (dC, dI) (wX5 cyI cyC ob a1 a2 a3 a4 a5 a6 a7 a8 v_thrown v_z v_saved v_savedMany v_spare v_buffer v_typed v_marksBlown v_rests v_begins v_orders v_orderMany v_spot v_wrong v_isShort v_before v_hash) (wX5 cyI cyC ob a1 a2 a3 a4 a5 a6 a7 a8 r_thrown v_z v_saved v_savedMany v_spare r_buffer r_typed v_marksBlown v_rests v_begins v_orders v_orderMany v_spot v_wrong v_isShort v_before v_hash)) [.ref ob, .int p1].toArray s 0 0 (k_A (wX5 cyI cyC ob a1 a2 a3 a4 a5 a6 a7 a8 v_thrown v_z v_saved v_savedMany v_spare v_buffer v_typed v_marksBlown v_rests v_begins v_orders v_orderMany v_spot v_wrong v_isShort v_before v_hash))) (F0 m 30 ls [.int x2, .ref ob]) := by
    intro x2 H locs ls h hP hS hl
    have h := k_a1 hK30 h
    refine va_put (D := (dC, dI)) (ci := 4) (v := .int x2) (ty := .int) (C := RX5) (T := TX5) (N := 17) hx hb hts iaX5 tyX5 tyX5_ok nmX5 hown hK hP hD hS 0 rfl rfl 0 (by decide) (hts _ q716) (fun _ h9 => h9) rfl (by decide +kernel) rfl rfl (Nat.le_of_ble_eq_true rfl) dX5_append_30 (fun H locs hP _ hS => ?_)
    have hP : va_P (dC, dI) vwCl (wX5 cyI cyC ob a1 a2 a3 a4 a5 a6 a7 a8 x2 v_z v_saved v_savedMany v_spare v_buffer v_typed v_marksBlown v_rests v_begins v_orders v_orderMany v_spot v_wrong v_isShort v_before v_hash) H := hP
    have hD : va_D (k_A (wX5 cyI cyC ob a1 a2 a3 a4 a5 a6 a7 a8 v_thrown v_z v_saved v_savedMany v_spare v_buffer v_typed v_marksBlown v_rests v_begins v_orders v_orderMany v_spot v_wrong v_isShort v_before v_hash)) (wX5 cyI cyC ob a1 a2 a3 a4 a5 a6 a7 a8 x2 v_z v_saved v_savedMany v_spare v_buffer v_typed v_marksBlown v_rests v_begins v_orders v_orderMany v_spot v_wrong v_isShort v_before v_hash) := k_Dm hD rfl
    refine lv_aload_n hx hb dX5_append_33 rfl (lv_at hl 0 rfl) ?_
    refine va_get (D := (dC, dI)) (ci := 4) (v := .int x2) (C := RX5) (T := TX5) (N := 17) hx hb hts iaX5 hown hK hP 0 rfl rfl 0 (by decide) (hts _ q716) (fun _ h9 => h9) rfl dX5_append_34 ?_
    refine g_if_le (tgt := 42) hx hb dX5_append_37 (by decide) h (fun h => ?_) (fun h => ?_)
    · refine lv_aload_n hx hb dX5_append_42 rfl (lv_at hl 0 rfl) ?_
      refine va_get (D := (dC, dI)) (ci := 4) (v := .ref a4) (C := RX5) (T := TX5) (N := 17) hx hb hts iaX5 hown hK hP 0 rfl rfl 5 (by decide) (hts _ q721) (fun _ h9 => h9) rfl dX5_append_43 ?_
      refine lv_aload_n hx hb dX5_append_46 rfl (lv_at hl 0 rfl) ?_
      refine va_get (D := (dC, dI)) (ci := 4) (v := .int v_typed) (C := RX5) (T := TX5) (N := 17) hx hb hts iaX5 hown hK hP 0 rfl rfl 6 (by decide) (hts _ q722) (fun _ h9 => h9) rfl dX5_append_47 ?_
      refine lv_iload_n hx hb dX5_append_50 rfl (lv_at hl 1 rfl) ?_
      refine g_iast hx hb hK hP hD hS 4 0 rfl rfl dX5_append_51 h (fun c3 H locs h hP hS => ?_)
      have hP : va_P (dC, dI) vwCl (wX5 cyI cyC ob a1 a2 a3 a4 a5 a6 a7 a8 x2 v_z v_saved v_savedMany v_spare c3 v_typed v_marksBlown v_rests v_begins v_orders v_orderMany v_spot v_wrong v_isShort v_before v_hash) H := hP
      have hD : va_D (k_A (wX5 cyI cyC ob a1 a2 a3 a4 a5 a6 a7 a8 v_thrown v_z v_saved v_savedMany v_spare v_buffer v_typed v_marksBlown v_rests v_begins v_orders v_orderMany v_spot v_wrong v_isShort v_before v_hash)) (wX5 cyI cyC ob a1 a2 a3 a4 a5 a6 a7 a8 x2 v_z v_saved v_savedMany v_spare c3 v_typed v_marksBlown v_rests v_begins v_orders v_orderMany v_spot v_wrong v_isShort v_before v_hash) := k_Dm hD rfl
      refine lv_aload_n hx hb dX5_append_52 rfl (lv_at hl 0 rfl) ?_
      refine lv_dup hx hb dX5_append_53 rfl ?_
      refine va_get (D := (dC, dI)) (ci := 4) (v := .int v_typed) (C := RX5) (T := TX5) (N := 17) hx hb hts iaX5 hown hK hP 0 rfl rfl 6 (by decide) (hts _ q722) (fun _ h9 => h9) rfl dX5_append_54 ?_
      refine lv_iconst (v := 1) hx hb dX5_append_57 (by decide) ?_
      refine g_iadd hx hb dX5_append_58 h (fun x4 h => ?_)
      refine va_put (D := (dC, dI)) (ci := 4) (v := .int x4) (ty := .int) (C := RX5) (T := TX5) (N := 17) hx hb hts iaX5 tyX5 tyX5_ok nmX5 hown hK hP hD hS 0 rfl rfl 6 (by decide) (hts _ q722) (fun _ h9 => h9) rfl (by decide +kernel) rfl rfl (Nat.le_of_ble_eq_true rfl) dX5_append_59 (fun H locs hP _ hS => ?_)
      have hP : va_P (dC, dI) vwCl (wX5 cyI cyC ob a1 a2 a3 a4 a5 a6 a7 a8 x2 v_z v_saved v_savedMany v_spare c3 x4 v_marksBlown v_rests v_begins v_orders v_orderMany v_spot v_wrong v_isShort v_before v_hash) H := hP
      have hD : va_D (k_A (wX5 cyI cyC ob a1 a2 a3 a4 a5 a6 a7 a8 v_thrown v_z v_saved v_savedMany v_spare v_buffer v_typed v_marksBlown v_rests v_begins v_orders v_orderMany v_spot v_wrong v_isShort v_before v_hash)) (wX5 cyI cyC ob a1 a2 a3 a4 a5 a6 a7 a8 x2 v_z v_saved v_savedMany v_spare c3 x4 v_marksBlown v_rests v_begins v_orders v_orderMany v_spot v_wrong v_isShort v_before v_hash) := k_Dm hD rfl
      refine lv_aload_n hx hb dX5_append_62 rfl (lv_at hl 0 rfl) ?_
      refine va_get (D := (dC, dI)) (ci := 4) (v := .int x4) (C := RX5) (T := TX5) (N := 17) hx hb hts iaX5 hown hK hP 0 rfl rfl 6 (by decide) (hts _ q722) (fun _ h9 => h9) rfl dX5_append_63 ?_
      obtain ⟨e0, e1, e2, e3⟩ := k_t4 h
      exact g_retMI hx hb hr hlk hS e0 (by rw [← e1, ← e2, ← e3]; exact hP) dX5_append_66
    · refine lv_iconst (v := 0) hx hb dX5_append_40 (by decide) ?_
      obtain ⟨e0, e1, e2, e3⟩ := k_t4 h
      exact g_retMI hx hb hr hlk hS e0 (by rw [← e1, ← e2, ← e3]; exact hP) dX5_append_41
  refine g_if_ne (tgt := 16) hx hb dX5_append_9 (by decide) h (fun h => ?_) (fun h => ?_)
  · refine lv_aload_n hx hb dX5_append_16 rfl (lv_at hl 0 rfl) ?_
    refine va_get (D := (dC, dI)) (ci := 4) (v := .int v_typed) (C := RX5) (T := TX5) (N := 17) hx hb hts iaX5 hown hK hP 0 rfl rfl 6 (by decide) (hts _ q722) (fun _ h9 => h9) rfl dX5_append_17 ?_
    refine lv_bipush (v := 60) hx hb dX5_append_20 (by decide) ?_
    refine g_icmp_ne (tgt := 29) hx hb dX5_append_22 (by decide) h (fun h => ?_) (fun h => ?_)
    · refine lv_iconst (v := 0) hx hb dX5_append_29 (by decide) ?_
      exact J30 0 _ _ _ h hP hS (lv_sub hl [0, 1] rfl)
    · refine lv_iconst (v := 2) hx hb dX5_append_25 (by decide) ?_
      refine lv_goto (tgt := 30) hx hb dX5_append_26 (by decide) ?_
      exact J30 2 _ _ _ h hP hS (lv_sub hl [0, 1] rfl)
  · refine lv_iconst (v := 1) hx hb dX5_append_12 (by decide) ?_
    refine lv_goto (tgt := 30) hx hb dX5_append_13 (by decide) ?_
    exact J30 1 _ _ _ h hP hS (lv_sub hl [0, 1] rfl)
def fX5_clearBuffer (v_thrown : Int32) (v_typed : Int32) : Option (Int32 × Int32 × Int32) :=
  some (v_typed, 0, 0)
theorem hdX5_clearBuffer : yX5_clearBuffer.cls = RX5 ∧ yX5_clearBuffer.cls ≠ "java/lang/invoke/MethodHandle" ∧ yX5_clearBuffer.cls ≠ "java/lang/invoke/VarHandle" ∧ (parseMethodDescriptor yX5_clearBuffer.desc).map (fun d => d.parameters.length) = some 0 := by decide +kernel
set_option maxRecDepth 100000 in
set_option maxHeartbeats 4000000 in
theorem mX5_clearBuffer (l : Launch) (dC : Nat → ClassId) (dI : Nat → Nat → Nat) (cyI cyC cyO : ClassId) (ob a1 a2 a3 a4 a5 a6 a7 a8 : Nat) (v_thrown : Int32) (v_z : Nat → Int32) (v_saved : Nat → Int32) (v_savedMany : Int32) (v_spare : Nat → Int32) (v_buffer : Nat → Int32) (v_typed : Int32) (v_marksBlown : Int32) (v_rests : Nat → Int32) (v_begins : Nat → Int32) (v_orders : Nat → Int32) (v_orderMany : Int32) (v_spot : Int32) (v_wrong : Int32) (v_isShort : Int32) (v_before : Nat → Int32) (v_hash : Int64)  {r : Int32} {r_thrown : Int32} {r_typed : Int32} (hf : fX5_clearBuffer v_thrown v_typed = some (r, r_thrown, r_typed)) : MetMI l yX5_clearBuffer cX5_clearBuffer 2 (some .int) 0 0 [.ref ob] (dC, dI) (tyS cyI cyC cyO) (wX5 cyI cyC ob a1 a2 a3 a4 a5 a6 a7 a8 v_thrown v_z v_saved v_savedMany v_spare v_buffer v_typed v_marksBlown v_rests v_begins v_orders v_orderMany v_spot v_wrong v_isShort v_before v_hash) (wX5 cyI cyC ob a1 a2 a3 a4 a5 a6 a7 a8 r_thrown v_z v_saved v_savedMany v_spare v_buffer r_typed v_marksBlown v_rests v_begins v_orders v_orderMany v_spot v_wrong v_isShort v_before v_hash) r := by
  refine metMI_of (by decide) (Nat.le_of_ble_eq_true rfl) ?_
  intro p e s m below meth c ls hC hr hlk hP hK hD hl
  have hC : CallFix p m c cX5_clearBuffer 2 s [.ref ob].toArray wA RX5 := hC
  obtain ⟨hx, hb, hml, hown, hts⟩ := id hC
  have hS : va_S (k_A (wX5 cyI cyC ob a1 a2 a3 a4 a5 a6 a7 a8 v_thrown v_z v_saved v_savedMany v_spare v_buffer v_typed v_marksBlown v_rests v_begins v_orders v_orderMany v_spot v_wrong v_isShort v_before v_hash)) s.heap s.heap [] := va_S.rf
  have hl : lv_has ls 2 [(0, .ref ob)] := hl
  have h := hf
  unfold fX5_clearBuffer at h
  obtain ⟨H, hH⟩ : ∃ H, H = s.heap := ⟨_, rfl⟩
  obtain ⟨locs, hlo⟩ : ∃ locs : List Loc, locs = [] := ⟨_, rfl⟩
  rw [← hH] at hP
  rw [← hlo] at hS
  have hS : va_S (k_A (wX5 cyI cyC ob a1 a2 a3 a4 a5 a6 a7 a8 v_thrown v_z v_saved v_savedMany v_spare v_buffer v_typed v_marksBlown v_rests v_begins v_orders v_orderMany v_spot v_wrong v_isShort v_before v_hash)) s.heap H locs := by rw [hH]; exact hS
  show W p l e (k_rm 0 0) s m [.ref ob].toArray below meth c s.heap [] 0 0 _ _
  rw [← hlo, ← hH]
  refine lv_aload_n hx hb dX5_clearBuffer_0 rfl (lv_at hl 0 rfl) ?_
  refine lv_iconst (v := 0) hx hb dX5_clearBuffer_1 (by decide) ?_
  refine va_put (D := (dC, dI)) (ci := 4) (v := .int 0) (ty := .int) (C := RX5) (T := TX5) (N := 17) hx hb hts iaX5 tyX5 tyX5_ok nmX5 hown hK hP hD hS 0 rfl rfl 0 (by decide) (hts _ q716) (fun _ h9 => h9) rfl (by decide +kernel) rfl rfl (Nat.le_of_ble_eq_true rfl) dX5_clearBuffer_2 (fun H locs hP _ hS => ?_)
  have hP : va_P (dC, dI) vwCl (wX5 cyI cyC ob a1 a2 a3 a4 a5 a6 a7 a8 0 v_z v_saved v_savedMany v_spare v_buffer v_typed v_marksBlown v_rests v_begins v_orders v_orderMany v_spot v_wrong v_isShort v_before v_hash) H := hP
  have hD : va_D (k_A (wX5 cyI cyC ob a1 a2 a3 a4 a5 a6 a7 a8 v_thrown v_z v_saved v_savedMany v_spare v_buffer v_typed v_marksBlown v_rests v_begins v_orders v_orderMany v_spot v_wrong v_isShort v_before v_hash)) (wX5 cyI cyC ob a1 a2 a3 a4 a5 a6 a7 a8 0 v_z v_saved v_savedMany v_spare v_buffer v_typed v_marksBlown v_rests v_begins v_orders v_orderMany v_spot v_wrong v_isShort v_before v_hash) := k_Dm hD rfl
  refine lv_aload_n hx hb dX5_clearBuffer_5 rfl (lv_at hl 0 rfl) ?_
  refine va_get (D := (dC, dI)) (ci := 4) (v := .int v_typed) (C := RX5) (T := TX5) (N := 17) hx hb hts iaX5 hown hK hP 0 rfl rfl 6 (by decide) (hts _ q722) (fun _ h9 => h9) rfl dX5_clearBuffer_6 ?_
  refine lv_istore_n (lv' := [(1, .int v_typed), (0, .ref ob)]) hx hb dX5_clearBuffer_9 rfl hl (by decide) rfl (fun ls hl => ?_)
  refine lv_aload_n hx hb dX5_clearBuffer_10 rfl (lv_at hl 1 rfl) ?_
  refine lv_iconst (v := 0) hx hb dX5_clearBuffer_11 (by decide) ?_
  refine va_put (D := (dC, dI)) (ci := 4) (v := .int 0) (ty := .int) (C := RX5) (T := TX5) (N := 17) hx hb hts iaX5 tyX5 tyX5_ok nmX5 hown hK hP hD hS 0 rfl rfl 6 (by decide) (hts _ q722) (fun _ h9 => h9) rfl (by decide +kernel) rfl rfl (Nat.le_of_ble_eq_true rfl) dX5_clearBuffer_12 (fun H locs hP _ hS => ?_)
  have hP : va_P (dC, dI) vwCl (wX5 cyI cyC ob a1 a2 a3 a4 a5 a6 a7 a8 0 v_z v_saved v_savedMany v_spare v_buffer 0 v_marksBlown v_rests v_begins v_orders v_orderMany v_spot v_wrong v_isShort v_before v_hash) H := hP
  have hD : va_D (k_A (wX5 cyI cyC ob a1 a2 a3 a4 a5 a6 a7 a8 v_thrown v_z v_saved v_savedMany v_spare v_buffer v_typed v_marksBlown v_rests v_begins v_orders v_orderMany v_spot v_wrong v_isShort v_before v_hash)) (wX5 cyI cyC ob a1 a2 a3 a4 a5 a6 a7 a8 0 v_z v_saved v_savedMany v_spare v_buffer 0 v_marksBlown v_rests v_begins v_orders v_orderMany v_spot v_wrong v_isShort v_before v_hash) := k_Dm hD rfl
  refine lv_iload_n hx hb dX5_clearBuffer_15 rfl (lv_at hl 0 rfl) ?_
  obtain ⟨e0, e1, e2⟩ := k_t3 h
  exact g_retMI hx hb hr hlk hS e0 (by rw [← e1, ← e2]; exact hP) dX5_clearBuffer_16
def fX5_letter (v_buffer : Nat → Int32) (v_typed : Int32) (v_spot : Int32) : Option (Int32) :=
  k_if (v_typed ≤ v_spot)
  (
    some ((-1)))
  (
    k_ck v_spot 60 <| k_let (v_buffer v_spot.toNatClampNeg) fun (x1 : Int32) =>
    some x1)
theorem hdX5_letter : yX5_letter.cls = RX5 ∧ yX5_letter.cls ≠ "java/lang/invoke/MethodHandle" ∧ yX5_letter.cls ≠ "java/lang/invoke/VarHandle" ∧ (parseMethodDescriptor yX5_letter.desc).map (fun d => d.parameters.length) = some 0 := by decide +kernel
set_option maxRecDepth 100000 in
set_option maxHeartbeats 4000000 in
theorem mX5_letter (l : Launch) (dC : Nat → ClassId) (dI : Nat → Nat → Nat) (cyI cyC cyO : ClassId) (ob a1 a2 a3 a4 a5 a6 a7 a8 : Nat) (v_thrown : Int32) (v_z : Nat → Int32) (v_saved : Nat → Int32) (v_savedMany : Int32) (v_spare : Nat → Int32) (v_buffer : Nat → Int32) (v_typed : Int32) (v_marksBlown : Int32) (v_rests : Nat → Int32) (v_begins : Nat → Int32) (v_orders : Nat → Int32) (v_orderMany : Int32) (v_spot : Int32) (v_wrong : Int32) (v_isShort : Int32) (v_before : Nat → Int32) (v_hash : Int64)  {r : Int32} (hf : fX5_letter v_buffer v_typed v_spot = some r) : MetRI l yX5_letter cX5_letter 1 (some .int) 0 0 [.ref ob] (dC, dI) (tyS cyI cyC cyO) (wX5 cyI cyC ob a1 a2 a3 a4 a5 a6 a7 a8 v_thrown v_z v_saved v_savedMany v_spare v_buffer v_typed v_marksBlown v_rests v_begins v_orders v_orderMany v_spot v_wrong v_isShort v_before v_hash) r := by
  refine metRI_of (by decide) (Nat.le_of_ble_eq_true rfl) ?_
  intro p e s m below meth c ls hC hr hlk hP hK hl
  have hC : CallFix p m c cX5_letter 1 s [.ref ob].toArray wA RX5 := hC
  obtain ⟨hx, hb, hml, hown, hts⟩ := id hC
  have hS : va_S kF s.heap s.heap [] := va_S.rf
  have hl : lv_has ls 1 [(0, .ref ob)] := hl
  have h := hf
  unfold fX5_letter at h
  obtain ⟨H, hH⟩ : ∃ H, H = s.heap := ⟨_, rfl⟩
  obtain ⟨locs, hlo⟩ : ∃ locs : List Loc, locs = [] := ⟨_, rfl⟩
  rw [← hH] at hP
  rw [← hlo] at hS
  have hS : va_S kF s.heap H locs := by rw [hH]; exact hS
  show W p l e (k_rm 0 0) s m [.ref ob].toArray below meth c s.heap [] 0 0 _ _
  rw [← hlo, ← hH]
  refine lv_aload_n hx hb dX5_letter_0 rfl (lv_at hl 0 rfl) ?_
  refine va_get (D := (dC, dI)) (ci := 4) (v := .int v_spot) (C := RX5) (T := TX5) (N := 17) hx hb hts iaX5 hown hK hP 0 rfl rfl 12 (by decide) (hts _ q728) (fun _ h9 => h9) rfl dX5_letter_1 ?_
  refine lv_aload_n hx hb dX5_letter_4 rfl (lv_at hl 0 rfl) ?_
  refine va_get (D := (dC, dI)) (ci := 4) (v := .int v_typed) (C := RX5) (T := TX5) (N := 17) hx hb hts iaX5 hown hK hP 0 rfl rfl 6 (by decide) (hts _ q722) (fun _ h9 => h9) rfl dX5_letter_5 ?_
  refine g_icmp_ge (tgt := 23) hx hb dX5_letter_8 (by decide) h (fun h => ?_) (fun h => ?_)
  · refine lv_iconst (v := (-1)) hx hb dX5_letter_23 (by decide) ?_
    exact g_retRI hx hb hr hlk hS h dX5_letter_24
  · refine lv_aload_n hx hb dX5_letter_11 rfl (lv_at hl 0 rfl) ?_
    refine va_get (D := (dC, dI)) (ci := 4) (v := .ref a4) (C := RX5) (T := TX5) (N := 17) hx hb hts iaX5 hown hK hP 0 rfl rfl 5 (by decide) (hts _ q721) (fun _ h9 => h9) rfl dX5_letter_12 ?_
    refine lv_aload_n hx hb dX5_letter_15 rfl (lv_at hl 0 rfl) ?_
    refine va_get (D := (dC, dI)) (ci := 4) (v := .int v_spot) (C := RX5) (T := TX5) (N := 17) hx hb hts iaX5 hown hK hP 0 rfl rfl 12 (by decide) (hts _ q728) (fun _ h9 => h9) rfl dX5_letter_16 ?_
    refine g_iald hx hb hK hP 4 0 rfl rfl dX5_letter_19 h (fun x1 h => ?_)
    refine lv_goto (tgt := 24) hx hb dX5_letter_20 (by decide) ?_
    exact g_retRI hx hb hr hlk hS h dX5_letter_24
def fX5_isFine (v_wrong : Int32) (v_isShort : Int32) : Option (Int32) :=
  k_if (v_wrong = ((-1)))
  (
    k_if (v_isShort = 0)
    (
      some 1)
    (
      some 0))
  (
    some 0)
theorem hdX5_isFine : yX5_isFine.cls = RX5 ∧ yX5_isFine.cls ≠ "java/lang/invoke/MethodHandle" ∧ yX5_isFine.cls ≠ "java/lang/invoke/VarHandle" ∧ (parseMethodDescriptor yX5_isFine.desc).map (fun d => d.parameters.length) = some 0 := by decide +kernel
set_option maxRecDepth 100000 in
set_option maxHeartbeats 4000000 in
theorem mX5_isFine (l : Launch) (dC : Nat → ClassId) (dI : Nat → Nat → Nat) (cyI cyC cyO : ClassId) (ob a1 a2 a3 a4 a5 a6 a7 a8 : Nat) (v_thrown : Int32) (v_z : Nat → Int32) (v_saved : Nat → Int32) (v_savedMany : Int32) (v_spare : Nat → Int32) (v_buffer : Nat → Int32) (v_typed : Int32) (v_marksBlown : Int32) (v_rests : Nat → Int32) (v_begins : Nat → Int32) (v_orders : Nat → Int32) (v_orderMany : Int32) (v_spot : Int32) (v_wrong : Int32) (v_isShort : Int32) (v_before : Nat → Int32) (v_hash : Int64)  {r : Int32} (hf : fX5_isFine v_wrong v_isShort = some r) : MetRI l yX5_isFine cX5_isFine 1 (some .boolean) 0 0 [.ref ob] (dC, dI) (tyS cyI cyC cyO) (wX5 cyI cyC ob a1 a2 a3 a4 a5 a6 a7 a8 v_thrown v_z v_saved v_savedMany v_spare v_buffer v_typed v_marksBlown v_rests v_begins v_orders v_orderMany v_spot v_wrong v_isShort v_before v_hash) r := by
  refine metRI_of (by decide) (Nat.le_of_ble_eq_true rfl) ?_
  intro p e s m below meth c ls hC hr hlk hP hK hl
  have hC : CallFix p m c cX5_isFine 1 s [.ref ob].toArray wA RX5 := hC
  obtain ⟨hx, hb, hml, hown, hts⟩ := id hC
  have hS : va_S kF s.heap s.heap [] := va_S.rf
  have hl : lv_has ls 1 [(0, .ref ob)] := hl
  have h := hf
  unfold fX5_isFine at h
  obtain ⟨H, hH⟩ : ∃ H, H = s.heap := ⟨_, rfl⟩
  obtain ⟨locs, hlo⟩ : ∃ locs : List Loc, locs = [] := ⟨_, rfl⟩
  rw [← hH] at hP
  rw [← hlo] at hS
  have hS : va_S kF s.heap H locs := by rw [hH]; exact hS
  show W p l e (k_rm 0 0) s m [.ref ob].toArray below meth c s.heap [] 0 0 _ _
  rw [← hlo, ← hH]
  refine lv_aload_n hx hb dX5_isFine_0 rfl (lv_at hl 0 rfl) ?_
  refine va_get (D := (dC, dI)) (ci := 4) (v := .int v_wrong) (C := RX5) (T := TX5) (N := 17) hx hb hts iaX5 hown hK hP 0 rfl rfl 13 (by decide) (hts _ q729) (fun _ h9 => h9) rfl dX5_isFine_1 ?_
  refine lv_iconst (v := (-1)) hx hb dX5_isFine_4 (by decide) ?_
  refine g_icmp_ne (tgt := 19) hx hb dX5_isFine_5 (by decide) h (fun h => ?_) (fun h => ?_)
  · refine lv_iconst (v := 0) hx hb dX5_isFine_19 (by decide) ?_
    exact g_retRZ hx hb hr (by decide +kernel) hlk hS h dX5_isFine_20
  · refine lv_aload_n hx hb dX5_isFine_8 rfl (lv_at hl 0 rfl) ?_
    refine va_get (D := (dC, dI)) (ci := 4) (v := .int v_isShort) (C := RX5) (T := TX5) (N := 17) hx hb hts iaX5 hown hK hP 0 rfl rfl 14 (by decide) (hts _ q730) (fun _ h9 => h9) rfl dX5_isFine_9 ?_
    refine g_if_ne (tgt := 19) hx hb dX5_isFine_12 (by decide) h (fun h => ?_) (fun h => ?_)
    · refine lv_iconst (v := 0) hx hb dX5_isFine_19 (by decide) ?_
      exact g_retRZ hx hb hr (by decide +kernel) hlk hS h dX5_isFine_20
    · refine lv_iconst (v := 1) hx hb dX5_isFine_15 (by decide) ?_
      refine lv_goto (tgt := 20) hx hb dX5_isFine_16 (by decide) ?_
      exact g_retRZ hx hb hr (by decide +kernel) hlk hS h dX5_isFine_20
def fX5_takes (v_buffer : Nat → Int32) (v_typed : Int32) (v_spot : Int32) (v_wrong : Int32) (v_isShort : Int32) (p1 : Int32) : Option (Int32 × Int32 × Int32) :=
  k_b1 (fX5_isFine v_wrong v_isShort) fun (x1 : Int32) =>
  k_if (x1 = 0)
  (
    some (v_spot, v_wrong, v_isShort))
  (
    k_j2
    (fun (c2 : Int32) (c3 : Int32) =>
      k_let (v_spot + 1) fun (x4 : Int32) =>
      some (x4, c2, c3))
    (fun K43 =>
    k_if (v_spot = v_typed)
    (
      K43 v_wrong 1)
    (
      k_b1 (fX5_letter v_buffer v_typed v_spot) fun (x5 : Int32) =>
      k_if (x5 = p1)
      (
        K43 v_wrong v_isShort)
      (
        K43 v_spot v_isShort))))
theorem hdX5_takes : yX5_takes.cls = RX5 ∧ yX5_takes.cls ≠ "java/lang/invoke/MethodHandle" ∧ yX5_takes.cls ≠ "java/lang/invoke/VarHandle" ∧ (parseMethodDescriptor yX5_takes.desc).map (fun d => d.parameters.length) = some 1 := by decide +kernel
set_option maxRecDepth 100000 in
set_option maxHeartbeats 4000000 in
theorem mX5_takes (l : Launch) (dC : Nat → ClassId) (dI : Nat → Nat → Nat) (cyI cyC cyO : ClassId) (ob a1 a2 a3 a4 a5 a6 a7 a8 : Nat) (v_thrown : Int32) (v_z : Nat → Int32) (v_saved : Nat → Int32) (v_savedMany : Int32) (v_spare : Nat → Int32) (v_buffer : Nat → Int32) (v_typed : Int32) (v_marksBlown : Int32) (v_rests : Nat → Int32) (v_begins : Nat → Int32) (v_orders : Nat → Int32) (v_orderMany : Int32) (v_spot : Int32) (v_wrong : Int32) (v_isShort : Int32) (v_before : Nat → Int32) (v_hash : Int64) (p1 : Int32) {r_spot : Int32} {r_wrong : Int32} {r_isShort : Int32} (hf : fX5_takes v_buffer v_typed v_spot v_wrong v_isShort p1 = some (r_spot, r_wrong, r_isShort)) : MetMV l yX5_takes cX5_takes 2 none 1 20 [.ref ob, .int p1] (dC, dI) (tyS cyI cyC cyO) (wX5 cyI cyC ob a1 a2 a3 a4 a5 a6 a7 a8 v_thrown v_z v_saved v_savedMany v_spare v_buffer v_typed v_marksBlown v_rests v_begins v_orders v_orderMany v_spot v_wrong v_isShort v_before v_hash) (wX5 cyI cyC ob a1 a2 a3 a4 a5 a6 a7 a8 v_thrown v_z v_saved v_savedMany v_spare v_buffer v_typed v_marksBlown v_rests v_begins v_orders v_orderMany r_spot r_wrong r_isShort v_before v_hash) := by
  refine metMV_of (by decide) (Nat.le_of_ble_eq_true rfl) ?_
  intro p e s m below meth c ls hC hr hlk hP hK hD hl
  have hC : CallFix p m c cX5_takes 2 s [.ref ob, .int p1].toArray wA RX5 := hC
  obtain ⟨hx, hb, hml, hown, hts⟩ := id hC
  have hS : va_S (k_A (wX5 cyI cyC ob a1 a2 a3 a4 a5 a6 a7 a8 v_thrown v_z v_saved v_savedMany v_spare v_buffer v_typed v_marksBlown v_rests v_begins v_orders v_orderMany v_spot v_wrong v_isShort v_before v_hash)) s.heap s.heap [] := va_S.rf
  have hl : lv_has ls 2 [(0, .ref ob), (1, .int p1)] := hl
  have h := hf
  unfold fX5_takes at h
  obtain ⟨H, hH⟩ : ∃ H, H = s.heap := ⟨_, rfl⟩
  obtain ⟨locs, hlo⟩ : ∃ locs : List Loc, locs = [] := ⟨_, rfl⟩
  rw [← hH] at hP
  rw [← hlo] at hS
  have hS : va_S (k_A (wX5 cyI cyC ob a1 a2 a3 a4 a5 a6 a7 a8 v_thrown v_z v_saved v_savedMany v_spare v_buffer v_typed v_marksBlown v_rests v_begins v_orders v_orderMany v_spot v_wrong v_isShort v_before v_hash)) s.heap H locs := by rw [hH]; exact hS
  show W p l e (k_rm 1 20) s m [.ref ob, .int p1].toArray below meth c s.heap [] 0 0 _ _
  rw [← hlo, ← hH]
  refine lv_aload_n hx hb dX5_takes_0 rfl (lv_at hl 0 rfl) ?_
  obtain ⟨x1, hc1, h⟩ := k_b1_e h
  refine g_callRI_V (As := []) (rest := []) hC (mX5_isFine l dC dI cyI cyC cyO ob a1 a2 a3 a4 a5 a6 a7 a8 v_thrown v_z v_saved v_savedMany v_spare v_buffer v_typed v_marksBlown v_rests v_begins v_orders v_orderMany v_spot v_wrong v_isShort v_before v_hash hc1) q890 q891 q39 q75 q892 0 hdX5_isFine ⟨Nat.le_of_ble_eq_true rfl, Nat.le_of_ble_eq_true rfl⟩ ⟨Nat.le_of_ble_eq_true rfl, Nat.le_of_ble_eq_true rfl⟩ rfl rfl hl.1 (Nat.le_of_ble_eq_true rfl) hP hK (va_recv hK hP (ci := 4) (q0 := 0) rfl rfl) hS dX5_takes_1 (fun H locs hk hS => ?_)
  have hP := k_kept hP hk
  refine g_if_ne (tgt := 8) hx hb dX5_takes_4 (by decide) h (fun h => ?_) (fun h => ?_)
  · refine lv_aload_n hx hb dX5_takes_8 rfl (lv_at hl 0 rfl) ?_
    refine va_get (D := (dC, dI)) (ci := 4) (v := .int v_spot) (C := RX5) (T := TX5) (N := 17) hx hb hts iaX5 hown hK hP 0 rfl rfl 12 (by decide) (hts _ q728) (fun _ h9 => h9) rfl dX5_takes_9 ?_
    refine lv_aload_n hx hb dX5_takes_12 rfl (lv_at hl 0 rfl) ?_
    refine va_get (D := (dC, dI)) (ci := 4) (v := .int v_typed) (C := RX5) (T := TX5) (N := 17) hx hb hts iaX5 hown hK hP 0 rfl rfl 6 (by decide) (hts _ q722) (fun _ h9 => h9) rfl dX5_takes_13 ?_
    obtain ⟨K43, hK43, h⟩ := k_j2_e h
    have J43 : ∀ (c2 : Int32) (c3 : Int32) (H : Heap) (locs : List Loc) (ls : Array Slot), K43 c2 c3 = some (r_spot, r_wrong, r_isShort) → va_P (dC, dI) vwCl (wX5 cyI cyC ob a1 a2 a3 a4 a5 a6 a7 a8 v_thrown v_z v_saved v_savedMany v_spare v_buffer v_typed v_marksBlown v_rests v_begins v_orders v_orderMany v_spot c2 c3 v_before v_hash) H → va_S (k_A (wX5 cyI cyC ob a1 a2 a3 a4 a5 a6 a7 a8 v_thrown v_z v_saved v_savedMany v_spare v_buffer v_typed v_marksBlown v_rests v_begins v_orders v_orderMany v_spot v_wrong v_isShort v_before v_hash)) s.heap H locs → lv_has ls 2 [(0, .ref ob)] → W p l e (k_rm 1 20) s m [.ref ob, .int p1].toArray below meth c H locs 0 0 (MQ below (qMV (dC, dI) (wX5 cyI cyC ob a1 a2 a3 a4 a5 a6 a7 a8 v_thrown v_z v_saved v_savedMany v_spare v_buffer v_typed v_marksBlown v_rests v_begins v_orders v_orderMany v_spot v_wrong v_isShort v_before v_hash) (wX5 cyI cyC ob a1 a2 a3 a4 a5 a6 a7 a8 v_thrown v_z v_saved v_savedMany v_spare v_buffer v_typed v_marksBlown v_rests v_begins v_orders v_orderMany r_spot r_wrong r_isShort v_before v_hash)) [.ref ob, .int p1].toArray s 0 0 (k_A (wX5 cyI cyC ob a1 a2 a3 a4 a5 a6 a7 a8 v_thrown v_z v_saved v_savedMany v_spare v_buffer v_typed v_marksBlown v_rests v_begins v_orders v_orderMany v_spot v_wrong v_isShort v_before v_hash))) (F0 m 43 ls []) := by
      intro c2 c3 H locs ls h hP hS hl
      have hD : va_D (k_A (wX5 cyI cyC ob a1 a2 a3 a4 a5 a6 a7 a8 v_thrown v_z v_saved v_savedMany v_spare v_buffer v_typed v_marksBlown v_rests v_begins v_orders v_orderMany v_spot v_wrong v_isShort v_before v_hash)) (wX5 cyI cyC ob a1 a2 a3 a4 a5 a6 a7 a8 v_thrown v_z v_saved v_savedMany v_spare v_buffer v_typed v_marksBlown v_rests v_begins v_orders v_orderMany v_spot c2 c3 v_before v_hash) := k_Dm hD rfl
      have h := k_a2 hK43 h
      refine lv_aload_n hx hb dX5_takes_43 rfl (lv_at hl 0 rfl) ?_
      refine lv_dup hx hb dX5_takes_44 rfl ?_
      refine va_get (D := (dC, dI)) (ci := 4) (v := .int v_spot) (C := RX5) (T := TX5) (N := 17) hx hb hts iaX5 hown hK hP 0 rfl rfl 12 (by decide) (hts _ q728) (fun _ h9 => h9) rfl dX5_takes_45 ?_
      refine lv_iconst (v := 1) hx hb dX5_takes_48 (by decide) ?_
      refine g_iadd hx hb dX5_takes_49 h (fun x4 h => ?_)
      refine va_put (D := (dC, dI)) (ci := 4) (v := .int x4) (ty := .int) (C := RX5) (T := TX5) (N := 17) hx hb hts iaX5 tyX5 tyX5_ok nmX5 hown hK hP hD hS 0 rfl rfl 12 (by decide) (hts _ q728) (fun _ h9 => h9) rfl (by decide +kernel) rfl rfl (Nat.le_of_ble_eq_true rfl) dX5_takes_50 (fun H locs hP _ hS => ?_)
      have hP : va_P (dC, dI) vwCl (wX5 cyI cyC ob a1 a2 a3 a4 a5 a6 a7 a8 v_thrown v_z v_saved v_savedMany v_spare v_buffer v_typed v_marksBlown v_rests v_begins v_orders v_orderMany x4 c2 c3 v_before v_hash) H := hP
      have hD : va_D (k_A (wX5 cyI cyC ob a1 a2 a3 a4 a5 a6 a7 a8 v_thrown v_z v_saved v_savedMany v_spare v_buffer v_typed v_marksBlown v_rests v_begins v_orders v_orderMany v_spot v_wrong v_isShort v_before v_hash)) (wX5 cyI cyC ob a1 a2 a3 a4 a5 a6 a7 a8 v_thrown v_z v_saved v_savedMany v_spare v_buffer v_typed v_marksBlown v_rests v_begins v_orders v_orderMany x4 c2 c3 v_before v_hash) := k_Dm hD rfl
      obtain ⟨e0, e1, e2⟩ := k_t3 h
      exact g_retMV hx hb hr hlk hS (by rw [← e0, ← e1, ← e2]; exact hP) dX5_takes_53
    refine g_icmp_ne (tgt := 27) hx hb dX5_takes_16 (by decide) h (fun h => ?_) (fun h => ?_)
    · refine lv_aload_n hx hb dX5_takes_27 rfl (lv_at hl 0 rfl) ?_
      obtain ⟨x5, hc28, h⟩ := k_b1_e h
      refine g_callRI_V (As := []) (rest := []) hC (mX5_letter l dC dI cyI cyC cyO ob a1 a2 a3 a4 a5 a6 a7 a8 v_thrown v_z v_saved v_savedMany v_spare v_buffer v_typed v_marksBlown v_rests v_begins v_orders v_orderMany v_spot v_wrong v_isShort v_before v_hash hc28) q881 q882 q36 q75 q883 0 hdX5_letter ⟨Nat.le_of_ble_eq_true rfl, Nat.le_of_ble_eq_true rfl⟩ ⟨Nat.le_of_ble_eq_true rfl, Nat.le_of_ble_eq_true rfl⟩ rfl rfl hl.1 (Nat.le_of_ble_eq_true rfl) hP hK (va_recv hK hP (ci := 4) (q0 := 0) rfl rfl) hS dX5_takes_28 (fun H locs hk hS => ?_)
      have hP := k_kept hP hk
      refine lv_iload_n hx hb dX5_takes_31 rfl (lv_at hl 1 rfl) ?_
      refine g_icmp_eq (tgt := 43) hx hb dX5_takes_32 (by decide) h (fun h => ?_) (fun h => ?_)
      · exact J43 v_wrong v_isShort _ _ _ h hP hS (lv_sub hl [0] rfl)
      · refine lv_aload_n hx hb dX5_takes_35 rfl (lv_at hl 0 rfl) ?_
        refine lv_aload_n hx hb dX5_takes_36 rfl (lv_at hl 0 rfl) ?_
        refine va_get (D := (dC, dI)) (ci := 4) (v := .int v_spot) (C := RX5) (T := TX5) (N := 17) hx hb hts iaX5 hown hK hP 0 rfl rfl 12 (by decide) (hts _ q728) (fun _ h9 => h9) rfl dX5_takes_37 ?_
        refine va_put (D := (dC, dI)) (ci := 4) (v := .int v_spot) (ty := .int) (C := RX5) (T := TX5) (N := 17) hx hb hts iaX5 tyX5 tyX5_ok nmX5 hown hK hP hD hS 0 rfl rfl 13 (by decide) (hts _ q729) (fun _ h9 => h9) rfl (by decide +kernel) rfl rfl (Nat.le_of_ble_eq_true rfl) dX5_takes_40 (fun H locs hP _ hS => ?_)
        have hP : va_P (dC, dI) vwCl (wX5 cyI cyC ob a1 a2 a3 a4 a5 a6 a7 a8 v_thrown v_z v_saved v_savedMany v_spare v_buffer v_typed v_marksBlown v_rests v_begins v_orders v_orderMany v_spot v_spot v_isShort v_before v_hash) H := hP
        have hD : va_D (k_A (wX5 cyI cyC ob a1 a2 a3 a4 a5 a6 a7 a8 v_thrown v_z v_saved v_savedMany v_spare v_buffer v_typed v_marksBlown v_rests v_begins v_orders v_orderMany v_spot v_wrong v_isShort v_before v_hash)) (wX5 cyI cyC ob a1 a2 a3 a4 a5 a6 a7 a8 v_thrown v_z v_saved v_savedMany v_spare v_buffer v_typed v_marksBlown v_rests v_begins v_orders v_orderMany v_spot v_spot v_isShort v_before v_hash) := k_Dm hD rfl
        exact J43 v_spot v_isShort _ _ _ h hP hS (lv_sub hl [0] rfl)
    · refine lv_aload_n hx hb dX5_takes_19 rfl (lv_at hl 0 rfl) ?_
      refine lv_iconst (v := 1) hx hb dX5_takes_20 (by decide) ?_
      refine va_put (D := (dC, dI)) (ci := 4) (v := .int 1) (ty := .boolean) (C := RX5) (T := TX5) (N := 17) hx hb hts iaX5 tyX5 tyX5_ok nmX5 hown hK hP hD hS 0 rfl rfl 14 (by decide) (hts _ q730) (fun _ h9 => h9) rfl (by decide +kernel) (by decide +kernel) (by decide +kernel) (Nat.le_of_ble_eq_true rfl) dX5_takes_21 (fun H locs hP _ hS => ?_)
      have hP : va_P (dC, dI) vwCl (wX5 cyI cyC ob a1 a2 a3 a4 a5 a6 a7 a8 v_thrown v_z v_saved v_savedMany v_spare v_buffer v_typed v_marksBlown v_rests v_begins v_orders v_orderMany v_spot v_wrong 1 v_before v_hash) H := hP
      have hD : va_D (k_A (wX5 cyI cyC ob a1 a2 a3 a4 a5 a6 a7 a8 v_thrown v_z v_saved v_savedMany v_spare v_buffer v_typed v_marksBlown v_rests v_begins v_orders v_orderMany v_spot v_wrong v_isShort v_before v_hash)) (wX5 cyI cyC ob a1 a2 a3 a4 a5 a6 a7 a8 v_thrown v_z v_saved v_savedMany v_spare v_buffer v_typed v_marksBlown v_rests v_begins v_orders v_orderMany v_spot v_wrong 1 v_before v_hash) := k_Dm hD rfl
      refine lv_goto (tgt := 43) hx hb dX5_takes_24 (by decide) ?_
      exact J43 v_wrong 1 _ _ _ h hP hS (lv_sub hl [0] rfl)
  · obtain ⟨e0, e1, e2⟩ := k_t3 h
    exact g_retMV hx hb hr hlk hS (by rw [← e0, ← e1, ← e2]; exact hP) dX5_takes_7
def fX5_word_s7 (p1 : Int32) (v_begins : Nat → Int32) (v_rests : Nat → Int32) (v_buffer : Nat → Int32) (v_typed : Int32) (rec7 : Int32 → Int32 → Int32 → Int32 → Option (Int32 × Int32 × Int32)) (x2 : Int32) (c3 : Int32) (c4 : Int32) (c5 : Int32) : Option (Int32 × Int32 × Int32) :=
  k_let (p1 + 1) fun (x6 : Int32) =>
  k_ck x6 6 <| k_let (v_begins x6.toNatClampNeg) fun (x7 : Int32) =>
  k_if (x7 ≤ x2)
  (
    some (c3, c4, c5))
  (
    k_ck x2 16 <| k_let (v_rests x2.toNatClampNeg) fun (x8 : Int32) =>
    k_b3 (fX5_takes v_buffer v_typed c3 c4 c5 x8) fun (c9 : Int32) (c10 : Int32) (c11 : Int32) =>
    k_let (x2 + 1) fun (x12 : Int32) =>
    rec7 x12 c9 c10 c11)
def fX5_word (v_buffer : Nat → Int32) (v_typed : Int32) (v_rests : Nat → Int32) (v_begins : Nat → Int32) (v_spot : Int32) (v_wrong : Int32) (v_isShort : Int32) (p1 : Int32) : Option (Int32 × Int32 × Int32) :=
  k_ck p1 6 <| k_let (v_begins p1.toNatClampNeg) fun (x1 : Int32) =>
  k_l4 (fX5_word_s7 p1 v_begins v_rests v_buffer v_typed) 5000 x1 v_spot v_wrong v_isShort
theorem hdX5_word : yX5_word.cls = RX5 ∧ yX5_word.cls ≠ "java/lang/invoke/MethodHandle" ∧ yX5_word.cls ≠ "java/lang/invoke/VarHandle" ∧ (parseMethodDescriptor yX5_word.desc).map (fun d => d.parameters.length) = some 1 := by decide +kernel
set_option maxRecDepth 100000 in
set_option maxHeartbeats 4000000 in
theorem mX5_word (l : Launch) (dC : Nat → ClassId) (dI : Nat → Nat → Nat) (cyI cyC cyO : ClassId) (ob a1 a2 a3 a4 a5 a6 a7 a8 : Nat) (v_thrown : Int32) (v_z : Nat → Int32) (v_saved : Nat → Int32) (v_savedMany : Int32) (v_spare : Nat → Int32) (v_buffer : Nat → Int32) (v_typed : Int32) (v_marksBlown : Int32) (v_rests : Nat → Int32) (v_begins : Nat → Int32) (v_orders : Nat → Int32) (v_orderMany : Int32) (v_spot : Int32) (v_wrong : Int32) (v_isShort : Int32) (v_before : Nat → Int32) (v_hash : Int64) (p1 : Int32) {r_spot : Int32} {r_wrong : Int32} {r_isShort : Int32} (hf : fX5_word v_buffer v_typed v_rests v_begins v_spot v_wrong v_isShort p1 = some (r_spot, r_wrong, r_isShort)) : MetMV l yX5_word cX5_word 3 none 2 41 [.ref ob, .int p1] (dC, dI) (tyS cyI cyC cyO) (wX5 cyI cyC ob a1 a2 a3 a4 a5 a6 a7 a8 v_thrown v_z v_saved v_savedMany v_spare v_buffer v_typed v_marksBlown v_rests v_begins v_orders v_orderMany v_spot v_wrong v_isShort v_before v_hash) (wX5 cyI cyC ob a1 a2 a3 a4 a5 a6 a7 a8 v_thrown v_z v_saved v_savedMany v_spare v_buffer v_typed v_marksBlown v_rests v_begins v_orders v_orderMany r_spot r_wrong r_isShort v_before v_hash) := by
  refine metMV_of (by decide) (Nat.le_of_ble_eq_true rfl) ?_
  intro p e s m below meth c ls hC hr hlk hP hK hD hl
  have hC : CallFix p m c cX5_word 3 s [.ref ob, .int p1].toArray wA RX5 := hC
  obtain ⟨hx, hb, hml, hown, hts⟩ := id hC
  have hS : va_S (k_A (wX5 cyI cyC ob a1 a2 a3 a4 a5 a6 a7 a8 v_thrown v_z v_saved v_savedMany v_spare v_buffer v_typed v_marksBlown v_rests v_begins v_orders v_orderMany v_spot v_wrong v_isShort v_before v_hash)) s.heap s.heap [] := va_S.rf
  have hl : lv_has ls 3 [(0, .ref ob), (1, .int p1)] := hl
  have h := hf
  unfold fX5_word at h
  obtain ⟨H, hH⟩ : ∃ H, H = s.heap := ⟨_, rfl⟩
  obtain ⟨locs, hlo⟩ : ∃ locs : List Loc, locs = [] := ⟨_, rfl⟩
  rw [← hH] at hP
  rw [← hlo] at hS
  have hS : va_S (k_A (wX5 cyI cyC ob a1 a2 a3 a4 a5 a6 a7 a8 v_thrown v_z v_saved v_savedMany v_spare v_buffer v_typed v_marksBlown v_rests v_begins v_orders v_orderMany v_spot v_wrong v_isShort v_before v_hash)) s.heap H locs := by rw [hH]; exact hS
  show W p l e (k_rm 2 41) s m [.ref ob, .int p1].toArray below meth c s.heap [] 0 0 _ _
  rw [← hlo, ← hH]
  refine lv_aload_n hx hb dX5_word_0 rfl (lv_at hl 0 rfl) ?_
  refine va_get (D := (dC, dI)) (ci := 4) (v := .ref a6) (C := RX5) (T := TX5) (N := 17) hx hb hts iaX5 hown hK hP 0 rfl rfl 9 (by decide) (hts _ q725) (fun _ h9 => h9) rfl dX5_word_1 ?_
  refine lv_iload_n hx hb dX5_word_4 rfl (lv_at hl 1 rfl) ?_
  refine g_iald hx hb hK hP 6 0 rfl rfl dX5_word_5 h (fun x1 h => ?_)
  refine lv_istore_n (lv' := [(2, .int x1), (0, .ref ob), (1, .int p1)]) hx hb dX5_word_6 rfl hl (by decide) rfl (fun ls hl => ?_)
  obtain ⟨S7, hS7⟩ : ∃ z, z = (fX5_word_s7 p1 v_begins v_rests v_buffer v_typed) := ⟨_, rfl⟩
  rw [← hS7] at h
  have L7 : ∀ (n : Nat) (x2 : Int32) (c3 : Int32) (c4 : Int32) (c5 : Int32) (H : Heap) (locs : List Loc) (ls : Array Slot), k_l4 S7 n x2 c3 c4 c5 = some (r_spot, r_wrong, r_isShort) → va_P (dC, dI) vwCl (wX5 cyI cyC ob a1 a2 a3 a4 a5 a6 a7 a8 v_thrown v_z v_saved v_savedMany v_spare v_buffer v_typed v_marksBlown v_rests v_begins v_orders v_orderMany c3 c4 c5 v_before v_hash) H → va_S (k_A (wX5 cyI cyC ob a1 a2 a3 a4 a5 a6 a7 a8 v_thrown v_z v_saved v_savedMany v_spare v_buffer v_typed v_marksBlown v_rests v_begins v_orders v_orderMany v_spot v_wrong v_isShort v_before v_hash)) s.heap H locs → lv_has ls 3 [(0, .ref ob), (1, .int p1), (2, .int x2)] → W p l e (k_rm 2 41) s m [.ref ob, .int p1].toArray below meth c H locs 0 0 (MQ below (qMV (dC, dI) (wX5 cyI cyC ob a1 a2 a3 a4 a5 a6 a7 a8 v_thrown v_z v_saved v_savedMany v_spare v_buffer v_typed v_marksBlown v_rests v_begins v_orders v_orderMany v_spot v_wrong v_isShort v_before v_hash) (wX5 cyI cyC ob a1 a2 a3 a4 a5 a6 a7 a8 v_thrown v_z v_saved v_savedMany v_spare v_buffer v_typed v_marksBlown v_rests v_begins v_orders v_orderMany r_spot r_wrong r_isShort v_before v_hash)) [.ref ob, .int p1].toArray s 0 0 (k_A (wX5 cyI cyC ob a1 a2 a3 a4 a5 a6 a7 a8 v_thrown v_z v_saved v_savedMany v_spare v_buffer v_typed v_marksBlown v_rests v_begins v_orders v_orderMany v_spot v_wrong v_isShort v_before v_hash))) (F0 m 7 ls []) := by
    intro n
    induction n with
    | zero =>
      intro x2 c3 c4 c5 H locs ls h
      exact (k_l4_0 h).elim
    | succ n ih7 =>
      intro x2 c3 c4 c5 H locs ls h hP hS hl
      have hD : va_D (k_A (wX5 cyI cyC ob a1 a2 a3 a4 a5 a6 a7 a8 v_thrown v_z v_saved v_savedMany v_spare v_buffer v_typed v_marksBlown v_rests v_begins v_orders v_orderMany v_spot v_wrong v_isShort v_before v_hash)) (wX5 cyI cyC ob a1 a2 a3 a4 a5 a6 a7 a8 v_thrown v_z v_saved v_savedMany v_spare v_buffer v_typed v_marksBlown v_rests v_begins v_orders v_orderMany c3 c4 c5 v_before v_hash) := k_Dm hD rfl
      have h := k_l4_s h
      have h := k_a5 hS7 h
      unfold fX5_word_s7 at h
      refine lv_iload_n hx hb dX5_word_7 rfl (lv_at hl 2 rfl) ?_
      refine lv_aload_n hx hb dX5_word_8 rfl (lv_at hl 0 rfl) ?_
      refine va_get (D := (dC, dI)) (ci := 4) (v := .ref a6) (C := RX5) (T := TX5) (N := 17) hx hb hts iaX5 hown hK hP 0 rfl rfl 9 (by decide) (hts _ q725) (fun _ h9 => h9) rfl dX5_word_9 ?_
      refine lv_iload_n hx hb dX5_word_12 rfl (lv_at hl 1 rfl) ?_
      refine lv_iconst (v := 1) hx hb dX5_word_13 (by decide) ?_
      refine g_iadd hx hb dX5_word_14 h (fun x6 h => ?_)
      refine g_iald hx hb hK hP 6 0 rfl rfl dX5_word_15 h (fun x7 h => ?_)
      refine g_icmp_ge (tgt := 35) hx hb dX5_word_16 (by decide) h (fun h => ?_) (fun h => ?_)
      · obtain ⟨e0, e1, e2⟩ := k_t3 h
        exact g_retMV hx hb hr hlk hS (by rw [← e0, ← e1, ← e2]; exact hP) dX5_word_35
      · refine lv_aload_n hx hb dX5_word_19 rfl (lv_at hl 0 rfl) ?_
        refine lv_aload_n hx hb dX5_word_20 rfl (lv_at hl 0 rfl) ?_
        refine va_get (D := (dC, dI)) (ci := 4) (v := .ref a5) (C := RX5) (T := TX5) (N := 17) hx hb hts iaX5 hown hK hP 0 rfl rfl 8 (by decide) (hts _ q724) (fun _ h9 => h9) rfl dX5_word_21 ?_
        refine lv_iload_n hx hb dX5_word_24 rfl (lv_at hl 2 rfl) ?_
        refine g_cald hx hb hK hP 5 1 rfl rfl dX5_word_25 h (fun x8 h => ?_)
        obtain ⟨c9, c10, c11, hc26, h⟩ := k_b3_e h
        refine g_callMV_V (As := [.int x8]) (rest := []) hC (mX5_takes l dC dI cyI cyC cyO ob a1 a2 a3 a4 a5 a6 a7 a8 v_thrown v_z v_saved v_savedMany v_spare v_buffer v_typed v_marksBlown v_rests v_begins v_orders v_orderMany c3 c4 c5 v_before v_hash x8 hc26) q887 q888 q38 q75 q889 1 hdX5_takes ⟨Nat.le_of_ble_eq_true rfl, Nat.le_of_ble_eq_true rfl⟩ ⟨Nat.le_of_ble_eq_true rfl, Nat.le_of_ble_eq_true rfl⟩ rfl rfl hl.1 (Nat.le_of_ble_eq_true rfl) hP hK hD (va_recv hK hP (ci := 4) (q0 := 0) rfl rfl) hS dX5_word_26 (fun H locs hPn hk hS => ?_)
        have hP : va_P (dC, dI) vwCl (wX5 cyI cyC ob a1 a2 a3 a4 a5 a6 a7 a8 v_thrown v_z v_saved v_savedMany v_spare v_buffer v_typed v_marksBlown v_rests v_begins v_orders v_orderMany c9 c10 c11 v_before v_hash) H := hPn
        have hD : va_D (k_A (wX5 cyI cyC ob a1 a2 a3 a4 a5 a6 a7 a8 v_thrown v_z v_saved v_savedMany v_spare v_buffer v_typed v_marksBlown v_rests v_begins v_orders v_orderMany v_spot v_wrong v_isShort v_before v_hash)) (wX5 cyI cyC ob a1 a2 a3 a4 a5 a6 a7 a8 v_thrown v_z v_saved v_savedMany v_spare v_buffer v_typed v_marksBlown v_rests v_begins v_orders v_orderMany c9 c10 c11 v_before v_hash) := k_Dm hD rfl
        refine g_iinc (dv := 1) hx hb dX5_word_29 hl (j := 2) rfl (by decide) (by decide) h (fun x12 ls h hl => ?_)
        have hl : lv_has ls 3 [(2, .int x12), (0, .ref ob), (1, .int p1)] := hl
        refine lv_goto (tgt := 7) hx hb dX5_word_32 (by decide) ?_
        exact ih7 x12 c9 c10 c11 _ _ _ h hP hS (lv_sub hl [1, 2, 0] rfl)
  exact L7 5000 x1 v_spot v_wrong v_isShort _ _ _ h hP hS (lv_sub hl [1, 2, 0] rfl)
def fX5_number_s86 (c5 : Int32) (v_isShort : Int32) (p2 : Int32) (v_buffer : Nat → Int32) (v_typed : Int32) (rec86 : Int32 → Int32 → Int32 → Option (Int32 × Int32 × Int32 × Int32)) (x9 : Int32) (x10 : Int32) (c11 : Int32) : Option (Int32 × Int32 × Int32 × Int32) :=
  k_b1 (fX5_isFine c5 v_isShort) fun (x12 : Int32) =>
  k_if (x12 = 0)
  (
    some (x9, c11, c5, v_isShort))
  (
    k_if (x9 ≤ 0)
    (
      some (x9, c11, c5, v_isShort))
    (
      k_b1 (fX5_in x10 0 9) fun (x13 : Int32) =>
      k_if (x13 = 0)
      (
        some (x9, c11, c5, v_isShort))
      (
        k_let (10 * x9) fun (x14 : Int32) =>
        k_let (x14 + x10) fun (x15 : Int32) =>
        k_if (p2 < x15)
        (
          some (x9, c11, c5, v_isShort))
        (
          k_let (10 * x9) fun (x16 : Int32) =>
          k_let (x16 + x10) fun (x17 : Int32) =>
          k_let (c11 + 1) fun (x18 : Int32) =>
          k_b1 (fX5_letter v_buffer v_typed x18) fun (x19 : Int32) =>
          k_let (x19 - 48) fun (x20 : Int32) =>
          rec86 x17 x20 x18))))
def fX5_number (v_buffer : Nat → Int32) (v_typed : Int32) (v_spot : Int32) (v_wrong : Int32) (v_isShort : Int32) (p1 : Int32) (p2 : Int32) : Option (Int32 × Int32 × Int32 × Int32) :=
  k_b1 (fX5_isFine v_wrong v_isShort) fun (x1 : Int32) =>
  k_if (x1 = 0)
  (
    some (0, v_spot, v_wrong, v_isShort))
  (
    k_if (v_spot = v_typed)
    (
      some (0, v_spot, v_wrong, 1))
    (
      k_b1 (fX5_letter v_buffer v_typed v_spot) fun (x2 : Int32) =>
      k_let (x2 - 48) fun (x3 : Int32) =>
      k_b1 (fX5_in x3 0 9) fun (x4 : Int32) =>
      k_j1
      (fun (c5 : Int32) =>
        k_let (v_spot + 1) fun (x6 : Int32) =>
        k_b1 (fX5_letter v_buffer v_typed x6) fun (x7 : Int32) =>
        k_let (x7 - 48) fun (x8 : Int32) =>
        k_l3 (fX5_number_s86 c5 v_isShort p2 v_buffer v_typed) 5000 x3 x8 x6)
      (fun K67 =>
      k_j0
      (
        K67 v_spot)
      (fun K59 =>
      k_if (x4 = 0)
      (
        K59)
      (
        k_j0
        (
          k_if (x3 ≤ p2)
          (
            K67 v_wrong)
          (
            K59))
        (fun K54 =>
        k_if (p1 ≤ x3)
        (
          K54)
        (
          k_if (x3 = 0)
          (
            K59)
          (
            K54))))))))
theorem hdX5_number : yX5_number.cls = RX5 ∧ yX5_number.cls ≠ "java/lang/invoke/MethodHandle" ∧ yX5_number.cls ≠ "java/lang/invoke/VarHandle" ∧ (parseMethodDescriptor yX5_number.desc).map (fun d => d.parameters.length) = some 2 := by decide +kernel
set_option maxRecDepth 100000 in
set_option maxHeartbeats 4000000 in
theorem mX5_number (l : Launch) (dC : Nat → ClassId) (dI : Nat → Nat → Nat) (cyI cyC cyO : ClassId) (ob a1 a2 a3 a4 a5 a6 a7 a8 : Nat) (v_thrown : Int32) (v_z : Nat → Int32) (v_saved : Nat → Int32) (v_savedMany : Int32) (v_spare : Nat → Int32) (v_buffer : Nat → Int32) (v_typed : Int32) (v_marksBlown : Int32) (v_rests : Nat → Int32) (v_begins : Nat → Int32) (v_orders : Nat → Int32) (v_orderMany : Int32) (v_spot : Int32) (v_wrong : Int32) (v_isShort : Int32) (v_before : Nat → Int32) (v_hash : Int64) (p1 : Int32) (p2 : Int32) {r : Int32} {r_spot : Int32} {r_wrong : Int32} {r_isShort : Int32} (hf : fX5_number v_buffer v_typed v_spot v_wrong v_isShort p1 p2 = some (r, r_spot, r_wrong, r_isShort)) : MetMI l yX5_number cX5_number 5 (some .int) 1 22 [.ref ob, .int p1, .int p2] (dC, dI) (tyS cyI cyC cyO) (wX5 cyI cyC ob a1 a2 a3 a4 a5 a6 a7 a8 v_thrown v_z v_saved v_savedMany v_spare v_buffer v_typed v_marksBlown v_rests v_begins v_orders v_orderMany v_spot v_wrong v_isShort v_before v_hash) (wX5 cyI cyC ob a1 a2 a3 a4 a5 a6 a7 a8 v_thrown v_z v_saved v_savedMany v_spare v_buffer v_typed v_marksBlown v_rests v_begins v_orders v_orderMany r_spot r_wrong r_isShort v_before v_hash) r := by
  refine metMI_of (by decide) (Nat.le_of_ble_eq_true rfl) ?_
  intro p e s m below meth c ls hC hr hlk hP hK hD hl
  have hC : CallFix p m c cX5_number 5 s [.ref ob, .int p1, .int p2].toArray wA RX5 := hC
  obtain ⟨hx, hb, hml, hown, hts⟩ := id hC
  have hS : va_S (k_A (wX5 cyI cyC ob a1 a2 a3 a4 a5 a6 a7 a8 v_thrown v_z v_saved v_savedMany v_spare v_buffer v_typed v_marksBlown v_rests v_begins v_orders v_orderMany v_spot v_wrong v_isShort v_before v_hash)) s.heap s.heap [] := va_S.rf
  have hl : lv_has ls 5 [(0, .ref ob), (1, .int p1), (2, .int p2)] := hl
  have h := hf
  unfold fX5_number at h
  obtain ⟨H, hH⟩ : ∃ H, H = s.heap := ⟨_, rfl⟩
  obtain ⟨locs, hlo⟩ : ∃ locs : List Loc, locs = [] := ⟨_, rfl⟩
  rw [← hH] at hP
  rw [← hlo] at hS
  have hS : va_S (k_A (wX5 cyI cyC ob a1 a2 a3 a4 a5 a6 a7 a8 v_thrown v_z v_saved v_savedMany v_spare v_buffer v_typed v_marksBlown v_rests v_begins v_orders v_orderMany v_spot v_wrong v_isShort v_before v_hash)) s.heap H locs := by rw [hH]; exact hS
  show W p l e (k_rm 1 22) s m [.ref ob, .int p1, .int p2].toArray below meth c s.heap [] 0 0 _ _
  rw [← hlo, ← hH]
  refine lv_aload_n hx hb dX5_number_0 rfl (lv_at hl 0 rfl) ?_
  obtain ⟨x1, hc1, h⟩ := k_b1_e h
  refine g_callRI_V (As := []) (rest := []) hC (mX5_isFine l dC dI cyI cyC cyO ob a1 a2 a3 a4 a5 a6 a7 a8 v_thrown v_z v_saved v_savedMany v_spare v_buffer v_typed v_marksBlown v_rests v_begins v_orders v_orderMany v_spot v_wrong v_isShort v_before v_hash hc1) q890 q891 q39 q75 q892 0 hdX5_isFine ⟨Nat.le_of_ble_eq_true rfl, Nat.le_of_ble_eq_true rfl⟩ ⟨Nat.le_of_ble_eq_true rfl, Nat.le_of_ble_eq_true rfl⟩ rfl rfl hl.1 (Nat.le_of_ble_eq_true rfl) hP hK (va_recv hK hP (ci := 4) (q0 := 0) rfl rfl) hS dX5_number_1 (fun H locs hk hS => ?_)
  have hP := k_kept hP hk
  refine g_if_ne (tgt := 9) hx hb dX5_number_4 (by decide) h (fun h => ?_) (fun h => ?_)
  · refine lv_aload_n hx hb dX5_number_9 rfl (lv_at hl 0 rfl) ?_
    refine va_get (D := (dC, dI)) (ci := 4) (v := .int v_spot) (C := RX5) (T := TX5) (N := 17) hx hb hts iaX5 hown hK hP 0 rfl rfl 12 (by decide) (hts _ q728) (fun _ h9 => h9) rfl dX5_number_10 ?_
    refine lv_aload_n hx hb dX5_number_13 rfl (lv_at hl 0 rfl) ?_
    refine va_get (D := (dC, dI)) (ci := 4) (v := .int v_typed) (C := RX5) (T := TX5) (N := 17) hx hb hts iaX5 hown hK hP 0 rfl rfl 6 (by decide) (hts _ q722) (fun _ h9 => h9) rfl dX5_number_14 ?_
    refine g_icmp_ne (tgt := 27) hx hb dX5_number_17 (by decide) h (fun h => ?_) (fun h => ?_)
    · refine lv_aload_n hx hb dX5_number_27 rfl (lv_at hl 0 rfl) ?_
      obtain ⟨x2, hc28, h⟩ := k_b1_e h
      refine g_callRI_V (As := []) (rest := []) hC (mX5_letter l dC dI cyI cyC cyO ob a1 a2 a3 a4 a5 a6 a7 a8 v_thrown v_z v_saved v_savedMany v_spare v_buffer v_typed v_marksBlown v_rests v_begins v_orders v_orderMany v_spot v_wrong v_isShort v_before v_hash hc28) q881 q882 q36 q75 q883 0 hdX5_letter ⟨Nat.le_of_ble_eq_true rfl, Nat.le_of_ble_eq_true rfl⟩ ⟨Nat.le_of_ble_eq_true rfl, Nat.le_of_ble_eq_true rfl⟩ rfl rfl hl.1 (Nat.le_of_ble_eq_true rfl) hP hK (va_recv hK hP (ci := 4) (q0 := 0) rfl rfl) hS dX5_number_28 (fun H locs hk hS => ?_)
      have hP := k_kept hP hk
      refine lv_bipush (v := 48) hx hb dX5_number_31 (by decide) ?_
      refine g_isub hx hb dX5_number_33 h (fun x3 h => ?_)
      refine lv_istore_n (lv' := [(3, .int x3), (0, .ref ob), (1, .int p1), (2, .int p2)]) hx hb dX5_number_34 rfl hl (by decide) rfl (fun ls hl => ?_)
      refine lv_iload_n hx hb dX5_number_35 rfl (lv_at hl 0 rfl) ?_
      refine lv_iconst (v := 0) hx hb dX5_number_36 (by decide) ?_
      refine lv_bipush (v := 9) hx hb dX5_number_37 (by decide) ?_
      obtain ⟨x4, hc39, h⟩ := k_b1_e h
      refine g_callRI_S (As := [.int x3, .int 0, .int 9]) (rest := []) hC (mX5_in l dC dI cyI cyC cyO x3 0 9 hc39) q748 q749 q75 q750 3 hdX5_in ⟨Nat.le_of_ble_eq_true rfl, Nat.le_of_ble_eq_true rfl⟩ ⟨Nat.le_of_ble_eq_true rfl, Nat.le_of_ble_eq_true rfl⟩ rfl rfl hl.1 (Nat.le_of_ble_eq_true rfl) va_P_nil hK hS dX5_number_39 (fun H locs hk hS => ?_)
      have hP := k_kept hP hk
      obtain ⟨K67, hK67, h⟩ := k_j1_e h
      have J67 : ∀ (c5 : Int32) (H : Heap) (locs : List Loc) (ls : Array Slot), K67 c5 = some (r, r_spot, r_wrong, r_isShort) → va_P (dC, dI) vwCl (wX5 cyI cyC ob a1 a2 a3 a4 a5 a6 a7 a8 v_thrown v_z v_saved v_savedMany v_spare v_buffer v_typed v_marksBlown v_rests v_begins v_orders v_orderMany v_spot c5 v_isShort v_before v_hash) H → va_S (k_A (wX5 cyI cyC ob a1 a2 a3 a4 a5 a6 a7 a8 v_thrown v_z v_saved v_savedMany v_spare v_buffer v_typed v_marksBlown v_rests v_begins v_orders v_orderMany v_spot v_wrong v_isShort v_before v_hash)) s.heap H locs → lv_has ls 5 [(0, .ref ob), (2, .int p2), (3, .int x3)] → W p l e (k_rm 1 22) s m [.ref ob, .int p1, .int p2].toArray below meth c H locs 0 0 (MQ below (qMI r (dC, dI) (wX5 cyI cyC ob a1 a2 a3 a4 a5 a6 a7 a8 v_thrown v_z v_saved v_savedMany v_spare v_buffer v_typed v_marksBlown v_rests v_begins v_orders v_orderMany v_spot v_wrong v_isShort v_before v_hash) (wX5 cyI cyC ob a1 a2 a3 a4 a5 a6 a7 a8 v_thrown v_z v_saved v_savedMany v_spare v_buffer v_typed v_marksBlown v_rests v_begins v_orders v_orderMany r_spot r_wrong r_isShort v_before v_hash)) [.ref ob, .int p1, .int p2].toArray s 0 0 (k_A (wX5 cyI cyC ob a1 a2 a3 a4 a5 a6 a7 a8 v_thrown v_z v_saved v_savedMany v_spare v_buffer v_typed v_marksBlown v_rests v_begins v_orders v_orderMany v_spot v_wrong v_isShort v_before v_hash))) (F0 m 67 ls []) := by
        intro c5 H locs ls h hP hS hl
        have hD : va_D (k_A (wX5 cyI cyC ob a1 a2 a3 a4 a5 a6 a7 a8 v_thrown v_z v_saved v_savedMany v_spare v_buffer v_typed v_marksBlown v_rests v_begins v_orders v_orderMany v_spot v_wrong v_isShort v_before v_hash)) (wX5 cyI cyC ob a1 a2 a3 a4 a5 a6 a7 a8 v_thrown v_z v_saved v_savedMany v_spare v_buffer v_typed v_marksBlown v_rests v_begins v_orders v_orderMany v_spot c5 v_isShort v_before v_hash) := k_Dm hD rfl
        have h := k_a1 hK67 h
        refine lv_aload_n hx hb dX5_number_67 rfl (lv_at hl 0 rfl) ?_
        refine lv_dup hx hb dX5_number_68 rfl ?_
        refine va_get (D := (dC, dI)) (ci := 4) (v := .int v_spot) (C := RX5) (T := TX5) (N := 17) hx hb hts iaX5 hown hK hP 0 rfl rfl 12 (by decide) (hts _ q728) (fun _ h9 => h9) rfl dX5_number_69 ?_
        refine lv_iconst (v := 1) hx hb dX5_number_72 (by decide) ?_
        refine g_iadd hx hb dX5_number_73 h (fun x6 h => ?_)
        refine va_put (D := (dC, dI)) (ci := 4) (v := .int x6) (ty := .int) (C := RX5) (T := TX5) (N := 17) hx hb hts iaX5 tyX5 tyX5_ok nmX5 hown hK hP hD hS 0 rfl rfl 12 (by decide) (hts _ q728) (fun _ h9 => h9) rfl (by decide +kernel) rfl rfl (Nat.le_of_ble_eq_true rfl) dX5_number_74 (fun H locs hP _ hS => ?_)
        have hP : va_P (dC, dI) vwCl (wX5 cyI cyC ob a1 a2 a3 a4 a5 a6 a7 a8 v_thrown v_z v_saved v_savedMany v_spare v_buffer v_typed v_marksBlown v_rests v_begins v_orders v_orderMany x6 c5 v_isShort v_before v_hash) H := hP
        have hD : va_D (k_A (wX5 cyI cyC ob a1 a2 a3 a4 a5 a6 a7 a8 v_thrown v_z v_saved v_savedMany v_spare v_buffer v_typed v_marksBlown v_rests v_begins v_orders v_orderMany v_spot v_wrong v_isShort v_before v_hash)) (wX5 cyI cyC ob a1 a2 a3 a4 a5 a6 a7 a8 v_thrown v_z v_saved v_savedMany v_spare v_buffer v_typed v_marksBlown v_rests v_begins v_orders v_orderMany x6 c5 v_isShort v_before v_hash) := k_Dm hD rfl
        refine lv_aload_n hx hb dX5_number_77 rfl (lv_at hl 0 rfl) ?_
        obtain ⟨x7, hc78, h⟩ := k_b1_e h
        refine g_callRI_V (As := []) (rest := []) hC (mX5_letter l dC dI cyI cyC cyO ob a1 a2 a3 a4 a5 a6 a7 a8 v_thrown v_z v_saved v_savedMany v_spare v_buffer v_typed v_marksBlown v_rests v_begins v_orders v_orderMany x6 c5 v_isShort v_before v_hash hc78) q881 q882 q36 q75 q883 0 hdX5_letter ⟨Nat.le_of_ble_eq_true rfl, Nat.le_of_ble_eq_true rfl⟩ ⟨Nat.le_of_ble_eq_true rfl, Nat.le_of_ble_eq_true rfl⟩ rfl rfl hl.1 (Nat.le_of_ble_eq_true rfl) hP hK (va_recv hK hP (ci := 4) (q0 := 0) rfl rfl) hS dX5_number_78 (fun H locs hk hS => ?_)
        have hP := k_kept hP hk
        refine lv_bipush (v := 48) hx hb dX5_number_81 (by decide) ?_
        refine g_isub hx hb dX5_number_83 h (fun x8 h => ?_)
        refine lv_istore (lv' := [(4, .int x8), (0, .ref ob), (2, .int p2), (3, .int x3)]) hx hb dX5_number_84 hl (by decide) rfl (fun ls hl => ?_)
        obtain ⟨S86, hS86⟩ : ∃ z, z = (fX5_number_s86 c5 v_isShort p2 v_buffer v_typed) := ⟨_, rfl⟩
        rw [← hS86] at h
        have L86 : ∀ (n : Nat) (x9 : Int32) (x10 : Int32) (c11 : Int32) (H : Heap) (locs : List Loc) (ls : Array Slot), k_l3 S86 n x9 x10 c11 = some (r, r_spot, r_wrong, r_isShort) → va_P (dC, dI) vwCl (wX5 cyI cyC ob a1 a2 a3 a4 a5 a6 a7 a8 v_thrown v_z v_saved v_savedMany v_spare v_buffer v_typed v_marksBlown v_rests v_begins v_orders v_orderMany c11 c5 v_isShort v_before v_hash) H → va_S (k_A (wX5 cyI cyC ob a1 a2 a3 a4 a5 a6 a7 a8 v_thrown v_z v_saved v_savedMany v_spare v_buffer v_typed v_marksBlown v_rests v_begins v_orders v_orderMany v_spot v_wrong v_isShort v_before v_hash)) s.heap H locs → lv_has ls 5 [(0, .ref ob), (2, .int p2), (3, .int x9), (4, .int x10)] → W p l e (k_rm 1 22) s m [.ref ob, .int p1, .int p2].toArray below meth c H locs 0 0 (MQ below (qMI r (dC, dI) (wX5 cyI cyC ob a1 a2 a3 a4 a5 a6 a7 a8 v_thrown v_z v_saved v_savedMany v_spare v_buffer v_typed v_marksBlown v_rests v_begins v_orders v_orderMany v_spot v_wrong v_isShort v_before v_hash) (wX5 cyI cyC ob a1 a2 a3 a4 a5 a6 a7 a8 v_thrown v_z v_saved v_savedMany v_spare v_buffer v_typed v_marksBlown v_rests v_begins v_orders v_orderMany r_spot r_wrong r_isShort v_before v_hash)) [.ref ob, .int p1, .int p2].toArray s 0 0 (k_A (wX5 cyI cyC ob a1 a2 a3 a4 a5 a6 a7 a8 v_thrown v_z v_saved v_savedMany v_spare v_buffer v_typed v_marksBlown v_rests v_begins v_orders v_orderMany v_spot v_wrong v_isShort v_before v_hash))) (F0 m 86 ls []) := by
          intro n
          induction n with
          | zero =>
            intro x9 x10 c11 H locs ls h
            exact (k_l3_0 h).elim
          | succ n ih86 =>
            intro x9 x10 c11 H locs ls h hP hS hl
            have hD : va_D (k_A (wX5 cyI cyC ob a1 a2 a3 a4 a5 a6 a7 a8 v_thrown v_z v_saved v_savedMany v_spare v_buffer v_typed v_marksBlown v_rests v_begins v_orders v_orderMany v_spot v_wrong v_isShort v_before v_hash)) (wX5 cyI cyC ob a1 a2 a3 a4 a5 a6 a7 a8 v_thrown v_z v_saved v_savedMany v_spare v_buffer v_typed v_marksBlown v_rests v_begins v_orders v_orderMany c11 c5 v_isShort v_before v_hash) := k_Dm hD rfl
            have h := k_l3_s h
            have h := k_a4 hS86 h
            unfold fX5_number_s86 at h
            refine lv_aload_n hx hb dX5_number_86 rfl (lv_at hl 0 rfl) ?_
            obtain ⟨x12, hc87, h⟩ := k_b1_e h
            refine g_callRI_V (As := []) (rest := []) hC (mX5_isFine l dC dI cyI cyC cyO ob a1 a2 a3 a4 a5 a6 a7 a8 v_thrown v_z v_saved v_savedMany v_spare v_buffer v_typed v_marksBlown v_rests v_begins v_orders v_orderMany c11 c5 v_isShort v_before v_hash hc87) q890 q891 q39 q75 q892 0 hdX5_isFine ⟨Nat.le_of_ble_eq_true rfl, Nat.le_of_ble_eq_true rfl⟩ ⟨Nat.le_of_ble_eq_true rfl, Nat.le_of_ble_eq_true rfl⟩ rfl rfl hl.1 (Nat.le_of_ble_eq_true rfl) hP hK (va_recv hK hP (ci := 4) (q0 := 0) rfl rfl) hS dX5_number_87 (fun H locs hk hS => ?_)
            have hP := k_kept hP hk
            refine g_if_eq (tgt := 149) hx hb dX5_number_90 (by decide) h (fun h => ?_) (fun h => ?_)
            · refine lv_iload_n hx hb dX5_number_149 rfl (lv_at hl 2 rfl) ?_
              obtain ⟨e0, e1, e2, e3⟩ := k_t4 h
              exact g_retMI hx hb hr hlk hS e0 (by rw [← e1, ← e2, ← e3]; exact hP) dX5_number_150
            · refine lv_iload_n hx hb dX5_number_93 rfl (lv_at hl 2 rfl) ?_
              refine g_if_le (tgt := 149) hx hb dX5_number_94 (by decide) h (fun h => ?_) (fun h => ?_)
              · refine lv_iload_n hx hb dX5_number_149 rfl (lv_at hl 2 rfl) ?_
                obtain ⟨e0, e1, e2, e3⟩ := k_t4 h
                exact g_retMI hx hb hr hlk hS e0 (by rw [← e1, ← e2, ← e3]; exact hP) dX5_number_150
              · refine lv_iload hx hb dX5_number_97 (lv_at hl 3 rfl) ?_
                refine lv_iconst (v := 0) hx hb dX5_number_99 (by decide) ?_
                refine lv_bipush (v := 9) hx hb dX5_number_100 (by decide) ?_
                obtain ⟨x13, hc102, h⟩ := k_b1_e h
                refine g_callRI_S (As := [.int x10, .int 0, .int 9]) (rest := []) hC (mX5_in l dC dI cyI cyC cyO x10 0 9 hc102) q748 q749 q75 q750 3 hdX5_in ⟨Nat.le_of_ble_eq_true rfl, Nat.le_of_ble_eq_true rfl⟩ ⟨Nat.le_of_ble_eq_true rfl, Nat.le_of_ble_eq_true rfl⟩ rfl rfl hl.1 (Nat.le_of_ble_eq_true rfl) va_P_nil hK hS dX5_number_102 (fun H locs hk hS => ?_)
                have hP := k_kept hP hk
                refine g_if_eq (tgt := 149) hx hb dX5_number_105 (by decide) h (fun h => ?_) (fun h => ?_)
                · refine lv_iload_n hx hb dX5_number_149 rfl (lv_at hl 2 rfl) ?_
                  obtain ⟨e0, e1, e2, e3⟩ := k_t4 h
                  exact g_retMI hx hb hr hlk hS e0 (by rw [← e1, ← e2, ← e3]; exact hP) dX5_number_150
                · refine lv_bipush (v := 10) hx hb dX5_number_108 (by decide) ?_
                  refine lv_iload_n hx hb dX5_number_110 rfl (lv_at hl 2 rfl) ?_
                  refine g_imul hx hb dX5_number_111 h (fun x14 h => ?_)
                  refine lv_iload hx hb dX5_number_112 (lv_at hl 3 rfl) ?_
                  refine g_iadd hx hb dX5_number_114 h (fun x15 h => ?_)
                  refine lv_iload_n hx hb dX5_number_115 rfl (lv_at hl 1 rfl) ?_
                  refine g_icmp_gt (tgt := 149) hx hb dX5_number_116 (by decide) h (fun h => ?_) (fun h => ?_)
                  · refine lv_iload_n hx hb dX5_number_149 rfl (lv_at hl 2 rfl) ?_
                    obtain ⟨e0, e1, e2, e3⟩ := k_t4 h
                    exact g_retMI hx hb hr hlk hS e0 (by rw [← e1, ← e2, ← e3]; exact hP) dX5_number_150
                  · refine lv_bipush (v := 10) hx hb dX5_number_119 (by decide) ?_
                    refine lv_iload_n hx hb dX5_number_121 rfl (lv_at hl 2 rfl) ?_
                    refine g_imul hx hb dX5_number_122 h (fun x16 h => ?_)
                    refine lv_iload hx hb dX5_number_123 (lv_at hl 3 rfl) ?_
                    refine g_iadd hx hb dX5_number_125 h (fun x17 h => ?_)
                    refine lv_istore_n (lv' := [(3, .int x17), (0, .ref ob), (2, .int p2), (4, .int x10)]) hx hb dX5_number_126 rfl hl (by decide) rfl (fun ls hl => ?_)
                    refine lv_aload_n hx hb dX5_number_127 rfl (lv_at hl 1 rfl) ?_
                    refine lv_dup hx hb dX5_number_128 rfl ?_
                    refine va_get (D := (dC, dI)) (ci := 4) (v := .int c11) (C := RX5) (T := TX5) (N := 17) hx hb hts iaX5 hown hK hP 0 rfl rfl 12 (by decide) (hts _ q728) (fun _ h9 => h9) rfl dX5_number_129 ?_
                    refine lv_iconst (v := 1) hx hb dX5_number_132 (by decide) ?_
                    refine g_iadd hx hb dX5_number_133 h (fun x18 h => ?_)
                    refine va_put (D := (dC, dI)) (ci := 4) (v := .int x18) (ty := .int) (C := RX5) (T := TX5) (N := 17) hx hb hts iaX5 tyX5 tyX5_ok nmX5 hown hK hP hD hS 0 rfl rfl 12 (by decide) (hts _ q728) (fun _ h9 => h9) rfl (by decide +kernel) rfl rfl (Nat.le_of_ble_eq_true rfl) dX5_number_134 (fun H locs hP _ hS => ?_)
                    have hP : va_P (dC, dI) vwCl (wX5 cyI cyC ob a1 a2 a3 a4 a5 a6 a7 a8 v_thrown v_z v_saved v_savedMany v_spare v_buffer v_typed v_marksBlown v_rests v_begins v_orders v_orderMany x18 c5 v_isShort v_before v_hash) H := hP
                    have hD : va_D (k_A (wX5 cyI cyC ob a1 a2 a3 a4 a5 a6 a7 a8 v_thrown v_z v_saved v_savedMany v_spare v_buffer v_typed v_marksBlown v_rests v_begins v_orders v_orderMany v_spot v_wrong v_isShort v_before v_hash)) (wX5 cyI cyC ob a1 a2 a3 a4 a5 a6 a7 a8 v_thrown v_z v_saved v_savedMany v_spare v_buffer v_typed v_marksBlown v_rests v_begins v_orders v_orderMany x18 c5 v_isShort v_before v_hash) := k_Dm hD rfl
                    refine lv_aload_n hx hb dX5_number_137 rfl (lv_at hl 1 rfl) ?_
                    obtain ⟨x19, hc138, h⟩ := k_b1_e h
                    refine g_callRI_V (As := []) (rest := []) hC (mX5_letter l dC dI cyI cyC cyO ob a1 a2 a3 a4 a5 a6 a7 a8 v_thrown v_z v_saved v_savedMany v_spare v_buffer v_typed v_marksBlown v_rests v_begins v_orders v_orderMany x18 c5 v_isShort v_before v_hash hc138) q881 q882 q36 q75 q883 0 hdX5_letter ⟨Nat.le_of_ble_eq_true rfl, Nat.le_of_ble_eq_true rfl⟩ ⟨Nat.le_of_ble_eq_true rfl, Nat.le_of_ble_eq_true rfl⟩ rfl rfl hl.1 (Nat.le_of_ble_eq_true rfl) hP hK (va_recv hK hP (ci := 4) (q0 := 0) rfl rfl) hS dX5_number_138 (fun H locs hk hS => ?_)
                    have hP := k_kept hP hk
                    refine lv_bipush (v := 48) hx hb dX5_number_141 (by decide) ?_
                    refine g_isub hx hb dX5_number_143 h (fun x20 h => ?_)
                    refine lv_istore (lv' := [(4, .int x20), (3, .int x17), (0, .ref ob), (2, .int p2)]) hx hb dX5_number_144 hl (by decide) rfl (fun ls hl => ?_)
                    refine lv_goto (tgt := 86) hx hb dX5_number_146 (by decide) ?_
                    exact ih86 x17 x20 x18 _ _ _ h hP hS (lv_sub hl [2, 3, 1, 0] rfl)
        exact L86 5000 x3 x8 x6 _ _ _ h hP hS (lv_sub hl [1, 2, 3, 0] rfl)
      obtain ⟨K59, hK59, h⟩ := k_j0_e h
      have J59 : ∀ (H : Heap) (locs : List Loc) (ls : Array Slot), K59 = some (r, r_spot, r_wrong, r_isShort) → va_P (dC, dI) vwCl (wX5 cyI cyC ob a1 a2 a3 a4 a5 a6 a7 a8 v_thrown v_z v_saved v_savedMany v_spare v_buffer v_typed v_marksBlown v_rests v_begins v_orders v_orderMany v_spot v_wrong v_isShort v_before v_hash) H → va_S (k_A (wX5 cyI cyC ob a1 a2 a3 a4 a5 a6 a7 a8 v_thrown v_z v_saved v_savedMany v_spare v_buffer v_typed v_marksBlown v_rests v_begins v_orders v_orderMany v_spot v_wrong v_isShort v_before v_hash)) s.heap H locs → lv_has ls 5 [(0, .ref ob), (2, .int p2), (3, .int x3)] → W p l e (k_rm 1 22) s m [.ref ob, .int p1, .int p2].toArray below meth c H locs 0 0 (MQ below (qMI r (dC, dI) (wX5 cyI cyC ob a1 a2 a3 a4 a5 a6 a7 a8 v_thrown v_z v_saved v_savedMany v_spare v_buffer v_typed v_marksBlown v_rests v_begins v_orders v_orderMany v_spot v_wrong v_isShort v_before v_hash) (wX5 cyI cyC ob a1 a2 a3 a4 a5 a6 a7 a8 v_thrown v_z v_saved v_savedMany v_spare v_buffer v_typed v_marksBlown v_rests v_begins v_orders v_orderMany r_spot r_wrong r_isShort v_before v_hash)) [.ref ob, .int p1, .int p2].toArray s 0 0 (k_A (wX5 cyI cyC ob a1 a2 a3 a4 a5 a6 a7 a8 v_thrown v_z v_saved v_savedMany v_spare v_buffer v_typed v_marksBlown v_rests v_begins v_orders v_orderMany v_spot v_wrong v_isShort v_before v_hash))) (F0 m 59 ls []) := by
        intro  H locs ls h hP hS hl
        have h := k_a0 hK59 h
        refine lv_aload_n hx hb dX5_number_59 rfl (lv_at hl 0 rfl) ?_
        refine lv_aload_n hx hb dX5_number_60 rfl (lv_at hl 0 rfl) ?_
        refine va_get (D := (dC, dI)) (ci := 4) (v := .int v_spot) (C := RX5) (T := TX5) (N := 17) hx hb hts iaX5 hown hK hP 0 rfl rfl 12 (by decide) (hts _ q728) (fun _ h9 => h9) rfl dX5_number_61 ?_
        refine va_put (D := (dC, dI)) (ci := 4) (v := .int v_spot) (ty := .int) (C := RX5) (T := TX5) (N := 17) hx hb hts iaX5 tyX5 tyX5_ok nmX5 hown hK hP hD hS 0 rfl rfl 13 (by decide) (hts _ q729) (fun _ h9 => h9) rfl (by decide +kernel) rfl rfl (Nat.le_of_ble_eq_true rfl) dX5_number_64 (fun H locs hP _ hS => ?_)
        have hP : va_P (dC, dI) vwCl (wX5 cyI cyC ob a1 a2 a3 a4 a5 a6 a7 a8 v_thrown v_z v_saved v_savedMany v_spare v_buffer v_typed v_marksBlown v_rests v_begins v_orders v_orderMany v_spot v_spot v_isShort v_before v_hash) H := hP
        have hD : va_D (k_A (wX5 cyI cyC ob a1 a2 a3 a4 a5 a6 a7 a8 v_thrown v_z v_saved v_savedMany v_spare v_buffer v_typed v_marksBlown v_rests v_begins v_orders v_orderMany v_spot v_wrong v_isShort v_before v_hash)) (wX5 cyI cyC ob a1 a2 a3 a4 a5 a6 a7 a8 v_thrown v_z v_saved v_savedMany v_spare v_buffer v_typed v_marksBlown v_rests v_begins v_orders v_orderMany v_spot v_spot v_isShort v_before v_hash) := k_Dm hD rfl
        exact J67 v_spot _ _ _ h hP hS (lv_sub hl [0, 1, 2] rfl)
      refine g_if_eq (tgt := 59) hx hb dX5_number_42 (by decide) h (fun h => ?_) (fun h => ?_)
      · exact J59  _ _ _ h hP hS (lv_sub hl [1, 3, 0] rfl)
      · refine lv_iload_n hx hb dX5_number_45 rfl (lv_at hl 0 rfl) ?_
        refine lv_iload_n hx hb dX5_number_46 rfl (lv_at hl 2 rfl) ?_
        obtain ⟨K54, hK54, h⟩ := k_j0_e h
        have J54 : ∀ (H : Heap) (locs : List Loc) (ls : Array Slot), K54 = some (r, r_spot, r_wrong, r_isShort) → va_P (dC, dI) vwCl (wX5 cyI cyC ob a1 a2 a3 a4 a5 a6 a7 a8 v_thrown v_z v_saved v_savedMany v_spare v_buffer v_typed v_marksBlown v_rests v_begins v_orders v_orderMany v_spot v_wrong v_isShort v_before v_hash) H → va_S (k_A (wX5 cyI cyC ob a1 a2 a3 a4 a5 a6 a7 a8 v_thrown v_z v_saved v_savedMany v_spare v_buffer v_typed v_marksBlown v_rests v_begins v_orders v_orderMany v_spot v_wrong v_isShort v_before v_hash)) s.heap H locs → lv_has ls 5 [(0, .ref ob), (2, .int p2), (3, .int x3)] → W p l e (k_rm 1 22) s m [.ref ob, .int p1, .int p2].toArray below meth c H locs 0 0 (MQ below (qMI r (dC, dI) (wX5 cyI cyC ob a1 a2 a3 a4 a5 a6 a7 a8 v_thrown v_z v_saved v_savedMany v_spare v_buffer v_typed v_marksBlown v_rests v_begins v_orders v_orderMany v_spot v_wrong v_isShort v_before v_hash) (wX5 cyI cyC ob a1 a2 a3 a4 a5 a6 a7 a8 v_thrown v_z v_saved v_savedMany v_spare v_buffer v_typed v_marksBlown v_rests v_begins v_orders v_orderMany r_spot r_wrong r_isShort v_before v_hash)) [.ref ob, .int p1, .int p2].toArray s 0 0 (k_A (wX5 cyI cyC ob a1 a2 a3 a4 a5 a6 a7 a8 v_thrown v_z v_saved v_savedMany v_spare v_buffer v_typed v_marksBlown v_rests v_begins v_orders v_orderMany v_spot v_wrong v_isShort v_before v_hash))) (F0 m 54 ls []) := by
          intro  H locs ls h hP hS hl
          have h := k_a0 hK54 h
          refine lv_iload_n hx hb dX5_number_54 rfl (lv_at hl 2 rfl) ?_
          refine lv_iload_n hx hb dX5_number_55 rfl (lv_at hl 1 rfl) ?_
          refine g_icmp_le (tgt := 67) hx hb dX5_number_56 (by decide) h (fun h => ?_) (fun h => ?_)
          · exact J67 v_wrong _ _ _ h hP hS (lv_sub hl [0, 1, 2] rfl)
          · exact J59  _ _ _ h hP hS (lv_sub hl [0, 1, 2] rfl)
        refine g_icmp_ge (tgt := 54) hx hb dX5_number_47 (by decide) h (fun h => ?_) (fun h => ?_)
        · exact J54  _ _ _ h hP hS (lv_sub hl [1, 3, 0] rfl)
        · refine lv_iload_n hx hb dX5_number_50 rfl (lv_at hl 0 rfl) ?_
          refine g_if_eq (tgt := 59) hx hb dX5_number_51 (by decide) h (fun h => ?_) (fun h => ?_)
          · exact J59  _ _ _ h hP hS (lv_sub hl [1, 3, 0] rfl)
          · exact J54  _ _ _ h hP hS (lv_sub hl [1, 3, 0] rfl)
    · refine lv_aload_n hx hb dX5_number_20 rfl (lv_at hl 0 rfl) ?_
      refine lv_iconst (v := 1) hx hb dX5_number_21 (by decide) ?_
      refine va_put (D := (dC, dI)) (ci := 4) (v := .int 1) (ty := .boolean) (C := RX5) (T := TX5) (N := 17) hx hb hts iaX5 tyX5 tyX5_ok nmX5 hown hK hP hD hS 0 rfl rfl 14 (by decide) (hts _ q730) (fun _ h9 => h9) rfl (by decide +kernel) (by decide +kernel) (by decide +kernel) (Nat.le_of_ble_eq_true rfl) dX5_number_22 (fun H locs hP _ hS => ?_)
      have hP : va_P (dC, dI) vwCl (wX5 cyI cyC ob a1 a2 a3 a4 a5 a6 a7 a8 v_thrown v_z v_saved v_savedMany v_spare v_buffer v_typed v_marksBlown v_rests v_begins v_orders v_orderMany v_spot v_wrong 1 v_before v_hash) H := hP
      have hD : va_D (k_A (wX5 cyI cyC ob a1 a2 a3 a4 a5 a6 a7 a8 v_thrown v_z v_saved v_savedMany v_spare v_buffer v_typed v_marksBlown v_rests v_begins v_orders v_orderMany v_spot v_wrong v_isShort v_before v_hash)) (wX5 cyI cyC ob a1 a2 a3 a4 a5 a6 a7 a8 v_thrown v_z v_saved v_savedMany v_spare v_buffer v_typed v_marksBlown v_rests v_begins v_orders v_orderMany v_spot v_wrong 1 v_before v_hash) := k_Dm hD rfl
      refine lv_iconst (v := 0) hx hb dX5_number_25 (by decide) ?_
      obtain ⟨e0, e1, e2, e3⟩ := k_t4 h
      exact g_retMI hx hb hr hlk hS e0 (by rw [← e1, ← e2, ← e3]; exact hP) dX5_number_26
  · refine lv_iconst (v := 0) hx hb dX5_number_7 (by decide) ?_
    obtain ⟨e0, e1, e2, e3⟩ := k_t4 h
    exact g_retMI hx hb hr hlk hS e0 (by rw [← e1, ← e2, ← e3]; exact hP) dX5_number_8
