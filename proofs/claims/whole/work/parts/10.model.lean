abbrev wX5 (cyI cyC : ClassId) (ob a1 a2 a3 a4 a5 a6 a7 a8 : Nat) (v_thrown : Int32) (v_z : Nat → Int32) (v_saved : Nat → Int32) (v_savedMany : Int32) (v_spare : Nat → Int32) (v_buffer : Nat → Int32) (v_typed : Int32) (v_marksBlown : Int32) (v_rests : Nat → Int32) (v_begins : Nat → Int32) (v_orders : Nat → Int32) (v_orderMany : Int32) (v_spot : Int32) (v_wrong : Int32) (v_isShort : Int32) (v_before : Nat → Int32) (v_hash : Int64) : va_W := [(ob, .inr (4, [.int v_thrown, .ref a1, .ref a2, .int v_savedMany, .ref a3, .ref a4, .int v_typed, .int v_marksBlown, .ref a5, .ref a6, .ref a7, .int v_orderMany, .int v_spot, .int v_wrong, .int v_isShort, .ref a8, .long v_hash])), (a1, .inl (cyI, 327, .inl v_z)), (a2, .inl (cyI, 1962, .inl v_saved)), (a3, .inl (cyI, 327, .inl v_spare)), (a4, .inl (cyI, 60, .inl v_buffer)), (a5, .inl (cyC, 16, .inl v_rests)), (a6, .inl (cyI, 6, .inl v_begins)), (a7, .inl (cyI, 48, .inl v_orders)), (a8, .inl (cyI, 36, .inl v_before))]
def fX5_in (p0 : Int32) (p1 : Int32) (p2 : Int32) : Option (Int32) :=
  k_if (p0 < p1)
  (
    some 0)
  (
    k_if (p2 < p0)
    (
      some 0)
    (
      some 1))
theorem hdX5_in : yX5_in.cls ≠ "java/lang/invoke/MethodHandle" ∧ yX5_in.cls ≠ "java/lang/invoke/VarHandle" ∧ (parseMethodDescriptor yX5_in.desc).map (fun d => d.parameters.length) = some 3 := by decide +kernel
set_option maxRecDepth 100000 in
set_option maxHeartbeats 4000000 in
theorem mX5_in (l : Launch) (dC : Nat → ClassId) (dI : Nat → Nat → Nat) (cyI cyC cyO : ClassId)  (p0 : Int32) (p1 : Int32) (p2 : Int32) {r : Int32} (hf : fX5_in p0 p1 p2 = some r) : MetRI l yX5_in cX5_in 3 (some .boolean) 0 0 [.int p0, .int p1, .int p2] (dC, dI) (tyS cyI cyC cyO) [] r := by
  refine metRI_of (by decide) (Nat.le_of_ble_eq_true rfl) ?_
  intro p e s m below meth c ls hC hr hlk hP hK hl
  have hC : CallFix p m c cX5_in 3 s [.int p0, .int p1, .int p2].toArray wA RX5 := hC
  obtain ⟨hx, hb, hml, hown, hts⟩ := id hC
  have hS : va_S kF s.heap s.heap [] := va_S.rf
  have hl : lv_has ls 3 [(0, .int p0), (1, .int p1), (2, .int p2)] := hl
  have h := hf
  unfold fX5_in at h
  obtain ⟨H, hH⟩ : ∃ H, H = s.heap := ⟨_, rfl⟩
  obtain ⟨locs, hlo⟩ : ∃ locs : List Loc, locs = [] := ⟨_, rfl⟩
  rw [← hH] at hP
  rw [← hlo] at hS
  have hS : va_S kF s.heap H locs := by rw [hH]; exact hS
  show W p l e (k_rm 0 0) s m [.int p0, .int p1, .int p2].toArray below meth c s.heap [] 0 0 _ _
  rw [← hlo, ← hH]
  refine lv_iload_n hx hb dX5_in_0 rfl (lv_at hl 0 rfl) ?_
  refine lv_iload_n hx hb dX5_in_1 rfl (lv_at hl 1 rfl) ?_
  refine g_icmp_lt (tgt := 14) hx hb dX5_in_2 (by decide) h (fun h => ?_) (fun h => ?_)
  · refine lv_iconst (v := 0) hx hb dX5_in_14 (by decide) ?_
    exact g_retRZ hx hb hr (by decide +kernel) hlk hS h dX5_in_15
  · refine lv_iload_n hx hb dX5_in_5 rfl (lv_at hl 0 rfl) ?_
    refine lv_iload_n hx hb dX5_in_6 rfl (lv_at hl 2 rfl) ?_
    refine g_icmp_gt (tgt := 14) hx hb dX5_in_7 (by decide) h (fun h => ?_) (fun h => ?_)
    · refine lv_iconst (v := 0) hx hb dX5_in_14 (by decide) ?_
      exact g_retRZ hx hb hr (by decide +kernel) hlk hS h dX5_in_15
    · refine lv_iconst (v := 1) hx hb dX5_in_10 (by decide) ?_
      refine lv_goto (tgt := 15) hx hb dX5_in_11 (by decide) ?_
      exact g_retRZ hx hb hr (by decide +kernel) hlk hS h dX5_in_15
def fX5_isRow (p0 : Int32) : Option (Int32) :=
  k_b1 (fX5_in p0 0 19) fun (x1 : Int32) =>
  k_bz x1 <| some x1
theorem hdX5_isRow : yX5_isRow.cls ≠ "java/lang/invoke/MethodHandle" ∧ yX5_isRow.cls ≠ "java/lang/invoke/VarHandle" ∧ (parseMethodDescriptor yX5_isRow.desc).map (fun d => d.parameters.length) = some 1 := by decide +kernel
set_option maxRecDepth 100000 in
set_option maxHeartbeats 4000000 in
theorem mX5_isRow (l : Launch) (dC : Nat → ClassId) (dI : Nat → Nat → Nat) (cyI cyC cyO : ClassId)  (p0 : Int32) {r : Int32} (hf : fX5_isRow p0 = some r) : MetRI l yX5_isRow cX5_isRow 1 (some .boolean) 1 22 [.int p0] (dC, dI) (tyS cyI cyC cyO) [] r := by
  refine metRI_of (by decide) (Nat.le_of_ble_eq_true rfl) ?_
  intro p e s m below meth c ls hC hr hlk hP hK hl
  have hC : CallFix p m c cX5_isRow 1 s [.int p0].toArray wA RX5 := hC
  obtain ⟨hx, hb, hml, hown, hts⟩ := id hC
  have hS : va_S kF s.heap s.heap [] := va_S.rf
  have hl : lv_has ls 1 [(0, .int p0)] := hl
  have h := hf
  unfold fX5_isRow at h
  obtain ⟨H, hH⟩ : ∃ H, H = s.heap := ⟨_, rfl⟩
  obtain ⟨locs, hlo⟩ : ∃ locs : List Loc, locs = [] := ⟨_, rfl⟩
  rw [← hH] at hP
  rw [← hlo] at hS
  have hS : va_S kF s.heap H locs := by rw [hH]; exact hS
  show W p l e (k_rm 1 22) s m [.int p0].toArray below meth c s.heap [] 0 0 _ _
  rw [← hlo, ← hH]
  refine lv_iload_n hx hb dX5_isRow_0 rfl (lv_at hl 0 rfl) ?_
  refine lv_iconst (v := 0) hx hb dX5_isRow_1 (by decide) ?_
  refine lv_bipush (v := 19) hx hb dX5_isRow_2 (by decide) ?_
  obtain ⟨x1, hc4, h⟩ := k_b1_e h
  refine g_callRI_S (As := [.int p0, .int 0, .int 19]) (rest := []) hC (mX5_in l dC dI cyI cyC cyO p0 0 19 hc4) q748 q749 q75 q750 3 hdX5_in ⟨Nat.le_of_ble_eq_true rfl, Nat.le_of_ble_eq_true rfl⟩ ⟨Nat.le_of_ble_eq_true rfl, Nat.le_of_ble_eq_true rfl⟩ rfl rfl hl.1 (Nat.le_of_ble_eq_true rfl) va_P_nil hK hS dX5_isRow_4 (fun H locs hk hS => ?_)
  obtain ⟨hz, h⟩ := k_bz_e h
  exact g_retRZ hx hb hr (k_bool hz).1 hlk hS h dX5_isRow_7
def fX5_isKey (p0 : Int32) : Option (Int32) :=
  k_b1 (fX5_in p0 0 15) fun (x1 : Int32) =>
  k_bz x1 <| some x1
theorem hdX5_isKey : yX5_isKey.cls ≠ "java/lang/invoke/MethodHandle" ∧ yX5_isKey.cls ≠ "java/lang/invoke/VarHandle" ∧ (parseMethodDescriptor yX5_isKey.desc).map (fun d => d.parameters.length) = some 1 := by decide +kernel
set_option maxRecDepth 100000 in
set_option maxHeartbeats 4000000 in
theorem mX5_isKey (l : Launch) (dC : Nat → ClassId) (dI : Nat → Nat → Nat) (cyI cyC cyO : ClassId)  (p0 : Int32) {r : Int32} (hf : fX5_isKey p0 = some r) : MetRI l yX5_isKey cX5_isKey 1 (some .boolean) 1 22 [.int p0] (dC, dI) (tyS cyI cyC cyO) [] r := by
  refine metRI_of (by decide) (Nat.le_of_ble_eq_true rfl) ?_
  intro p e s m below meth c ls hC hr hlk hP hK hl
  have hC : CallFix p m c cX5_isKey 1 s [.int p0].toArray wA RX5 := hC
  obtain ⟨hx, hb, hml, hown, hts⟩ := id hC
  have hS : va_S kF s.heap s.heap [] := va_S.rf
  have hl : lv_has ls 1 [(0, .int p0)] := hl
  have h := hf
  unfold fX5_isKey at h
  obtain ⟨H, hH⟩ : ∃ H, H = s.heap := ⟨_, rfl⟩
  obtain ⟨locs, hlo⟩ : ∃ locs : List Loc, locs = [] := ⟨_, rfl⟩
  rw [← hH] at hP
  rw [← hlo] at hS
  have hS : va_S kF s.heap H locs := by rw [hH]; exact hS
  show W p l e (k_rm 1 22) s m [.int p0].toArray below meth c s.heap [] 0 0 _ _
  rw [← hlo, ← hH]
  refine lv_iload_n hx hb dX5_isKey_0 rfl (lv_at hl 0 rfl) ?_
  refine lv_iconst (v := 0) hx hb dX5_isKey_1 (by decide) ?_
  refine lv_bipush (v := 15) hx hb dX5_isKey_2 (by decide) ?_
  obtain ⟨x1, hc4, h⟩ := k_b1_e h
  refine g_callRI_S (As := [.int p0, .int 0, .int 15]) (rest := []) hC (mX5_in l dC dI cyI cyC cyO p0 0 15 hc4) q748 q749 q75 q750 3 hdX5_in ⟨Nat.le_of_ble_eq_true rfl, Nat.le_of_ble_eq_true rfl⟩ ⟨Nat.le_of_ble_eq_true rfl, Nat.le_of_ble_eq_true rfl⟩ rfl rfl hl.1 (Nat.le_of_ble_eq_true rfl) va_P_nil hK hS dX5_isKey_4 (fun H locs hk hS => ?_)
  obtain ⟨hz, h⟩ := k_bz_e h
  exact g_retRZ hx hb hr (k_bool hz).1 hlk hS h dX5_isKey_7
def fX5_strength (v_z : Nat → Int32) (p1 : Int32) (p2 : Int32) : Option (Int32) :=
  k_let (16 * p1) fun (x1 : Int32) =>
  k_let (7 + x1) fun (x2 : Int32) =>
  k_let (x2 + p2) fun (x3 : Int32) =>
  k_ck x3 327 <| k_let (v_z x3.toNatClampNeg) fun (x4 : Int32) =>
  some x4
theorem hdX5_strength : yX5_strength.cls = RX5 ∧ yX5_strength.cls ≠ "java/lang/invoke/MethodHandle" ∧ yX5_strength.cls ≠ "java/lang/invoke/VarHandle" ∧ (parseMethodDescriptor yX5_strength.desc).map (fun d => d.parameters.length) = some 2 := by decide +kernel
set_option maxRecDepth 100000 in
set_option maxHeartbeats 4000000 in
theorem mX5_strength (l : Launch) (dC : Nat → ClassId) (dI : Nat → Nat → Nat) (cyI cyC cyO : ClassId) (ob a1 a2 a3 a4 a5 a6 a7 a8 : Nat) (v_thrown : Int32) (v_z : Nat → Int32) (v_saved : Nat → Int32) (v_savedMany : Int32) (v_spare : Nat → Int32) (v_buffer : Nat → Int32) (v_typed : Int32) (v_marksBlown : Int32) (v_rests : Nat → Int32) (v_begins : Nat → Int32) (v_orders : Nat → Int32) (v_orderMany : Int32) (v_spot : Int32) (v_wrong : Int32) (v_isShort : Int32) (v_before : Nat → Int32) (v_hash : Int64) (p1 : Int32) (p2 : Int32) {r : Int32} (hf : fX5_strength v_z p1 p2 = some r) : MetRI l yX5_strength cX5_strength 3 (some .int) 0 0 [.ref ob, .int p1, .int p2] (dC, dI) (tyS cyI cyC cyO) (wX5 cyI cyC ob a1 a2 a3 a4 a5 a6 a7 a8 v_thrown v_z v_saved v_savedMany v_spare v_buffer v_typed v_marksBlown v_rests v_begins v_orders v_orderMany v_spot v_wrong v_isShort v_before v_hash) r := by
  refine metRI_of (by decide) (Nat.le_of_ble_eq_true rfl) ?_
  intro p e s m below meth c ls hC hr hlk hP hK hl
  have hC : CallFix p m c cX5_strength 3 s [.ref ob, .int p1, .int p2].toArray wA RX5 := hC
  obtain ⟨hx, hb, hml, hown, hts⟩ := id hC
  have hS : va_S kF s.heap s.heap [] := va_S.rf
  have hl : lv_has ls 3 [(0, .ref ob), (1, .int p1), (2, .int p2)] := hl
  have h := hf
  unfold fX5_strength at h
  obtain ⟨H, hH⟩ : ∃ H, H = s.heap := ⟨_, rfl⟩
  obtain ⟨locs, hlo⟩ : ∃ locs : List Loc, locs = [] := ⟨_, rfl⟩
  rw [← hH] at hP
  rw [← hlo] at hS
  have hS : va_S kF s.heap H locs := by rw [hH]; exact hS
  show W p l e (k_rm 0 0) s m [.ref ob, .int p1, .int p2].toArray below meth c s.heap [] 0 0 _ _
  rw [← hlo, ← hH]
  refine lv_aload_n hx hb dX5_strength_0 rfl (lv_at hl 0 rfl) ?_
  refine va_get (D := (dC, dI)) (ci := 4) (v := .ref a1) (C := RX5) (T := TX5) (N := 17) hx hb hts iaX5 hown hK hP 0 rfl rfl 1 (by decide) (hts _ q717) (fun _ h9 => h9) rfl dX5_strength_1 ?_
  refine lv_bipush (v := 7) hx hb dX5_strength_4 (by decide) ?_
  refine lv_bipush (v := 16) hx hb dX5_strength_6 (by decide) ?_
  refine lv_iload_n hx hb dX5_strength_8 rfl (lv_at hl 1 rfl) ?_
  refine g_imul hx hb dX5_strength_9 h (fun x1 h => ?_)
  refine g_iadd hx hb dX5_strength_10 h (fun x2 h => ?_)
  refine lv_iload_n hx hb dX5_strength_11 rfl (lv_at hl 2 rfl) ?_
  refine g_iadd hx hb dX5_strength_12 h (fun x3 h => ?_)
  refine g_iald hx hb hK hP 1 0 rfl rfl dX5_strength_13 h (fun x4 h => ?_)
  exact g_retRI hx hb hr hlk hS h dX5_strength_14
def fX5_once (v_z : Nat → Int32) (p1 : Int32) (p2 : Int32) (p3 : Int32) : Option (Int32) :=
  k_b1 (fX5_strength v_z p1 p2) fun (x1 : Int32) =>
  k_let (p3 + p1) fun (x2 : Int32) =>
  k_let (x2 + p2) fun (x3 : Int32) =>
  k_let (x3 - x3 / 3 * 3) fun (x4 : Int32) =>
  k_if (x1 ≤ x4)
  (
    some 0)
  (
    some 1)
theorem hdX5_once : yX5_once.cls = RX5 ∧ yX5_once.cls ≠ "java/lang/invoke/MethodHandle" ∧ yX5_once.cls ≠ "java/lang/invoke/VarHandle" ∧ (parseMethodDescriptor yX5_once.desc).map (fun d => d.parameters.length) = some 3 := by decide +kernel
set_option maxRecDepth 100000 in
set_option maxHeartbeats 4000000 in
theorem mX5_once (l : Launch) (dC : Nat → ClassId) (dI : Nat → Nat → Nat) (cyI cyC cyO : ClassId) (ob a1 a2 a3 a4 a5 a6 a7 a8 : Nat) (v_thrown : Int32) (v_z : Nat → Int32) (v_saved : Nat → Int32) (v_savedMany : Int32) (v_spare : Nat → Int32) (v_buffer : Nat → Int32) (v_typed : Int32) (v_marksBlown : Int32) (v_rests : Nat → Int32) (v_begins : Nat → Int32) (v_orders : Nat → Int32) (v_orderMany : Int32) (v_spot : Int32) (v_wrong : Int32) (v_isShort : Int32) (v_before : Nat → Int32) (v_hash : Int64) (p1 : Int32) (p2 : Int32) (p3 : Int32) {r : Int32} (hf : fX5_once v_z p1 p2 p3 = some r) : MetRI l yX5_once cX5_once 4 (some .int) 1 22 [.ref ob, .int p1, .int p2, .int p3] (dC, dI) (tyS cyI cyC cyO) (wX5 cyI cyC ob a1 a2 a3 a4 a5 a6 a7 a8 v_thrown v_z v_saved v_savedMany v_spare v_buffer v_typed v_marksBlown v_rests v_begins v_orders v_orderMany v_spot v_wrong v_isShort v_before v_hash) r := by
  refine metRI_of (by decide) (Nat.le_of_ble_eq_true rfl) ?_
  intro p e s m below meth c ls hC hr hlk hP hK hl
  have hC : CallFix p m c cX5_once 4 s [.ref ob, .int p1, .int p2, .int p3].toArray wA RX5 := hC
  obtain ⟨hx, hb, hml, hown, hts⟩ := id hC
  have hS : va_S kF s.heap s.heap [] := va_S.rf
  have hl : lv_has ls 4 [(0, .ref ob), (1, .int p1), (2, .int p2), (3, .int p3)] := hl
  have h := hf
  unfold fX5_once at h
  obtain ⟨H, hH⟩ : ∃ H, H = s.heap := ⟨_, rfl⟩
  obtain ⟨locs, hlo⟩ : ∃ locs : List Loc, locs = [] := ⟨_, rfl⟩
  rw [← hH] at hP
  rw [← hlo] at hS
  have hS : va_S kF s.heap H locs := by rw [hH]; exact hS
  show W p l e (k_rm 1 22) s m [.ref ob, .int p1, .int p2, .int p3].toArray below meth c s.heap [] 0 0 _ _
  rw [← hlo, ← hH]
  refine lv_aload_n hx hb dX5_once_0 rfl (lv_at hl 0 rfl) ?_
  refine lv_iload_n hx hb dX5_once_1 rfl (lv_at hl 1 rfl) ?_
  refine lv_iload_n hx hb dX5_once_2 rfl (lv_at hl 2 rfl) ?_
  obtain ⟨x1, hc3, h⟩ := k_b1_e h
  refine g_callRI_V (As := [.int p1, .int p2]) (rest := []) hC (mX5_strength l dC dI cyI cyC cyO ob a1 a2 a3 a4 a5 a6 a7 a8 v_thrown v_z v_saved v_savedMany v_spare v_buffer v_typed v_marksBlown v_rests v_begins v_orders v_orderMany v_spot v_wrong v_isShort v_before v_hash p1 p2 hc3) q760 q761 q17 q75 q762 2 hdX5_strength ⟨Nat.le_of_ble_eq_true rfl, Nat.le_of_ble_eq_true rfl⟩ ⟨Nat.le_of_ble_eq_true rfl, Nat.le_of_ble_eq_true rfl⟩ rfl rfl hl.1 (Nat.le_of_ble_eq_true rfl) hP hK (va_recv hK hP (ci := 4) (q0 := 0) rfl rfl) hS dX5_once_3 (fun H locs hk hS => ?_)
  have hP := k_kept hP hk
  refine lv_iload_n hx hb dX5_once_6 rfl (lv_at hl 3 rfl) ?_
  refine lv_iload_n hx hb dX5_once_7 rfl (lv_at hl 1 rfl) ?_
  refine g_iadd hx hb dX5_once_8 h (fun x2 h => ?_)
  refine lv_iload_n hx hb dX5_once_9 rfl (lv_at hl 2 rfl) ?_
  refine g_iadd hx hb dX5_once_10 h (fun x3 h => ?_)
  refine lv_iconst (v := 3) hx hb dX5_once_11 (by decide) ?_
  refine g_irem hx hb dX5_once_12 (by decide) h (fun x4 h => ?_)
  refine g_icmp_le (tgt := 20) hx hb dX5_once_13 (by decide) h (fun h => ?_) (fun h => ?_)
  · refine lv_iconst (v := 0) hx hb dX5_once_20 (by decide) ?_
    exact g_retRI hx hb hr hlk hS h dX5_once_21
  · refine lv_iconst (v := 1) hx hb dX5_once_16 (by decide) ?_
    refine lv_goto (tgt := 21) hx hb dX5_once_17 (by decide) ?_
    exact g_retRI hx hb hr hlk hS h dX5_once_21
def fX5_thrice (v_z : Nat → Int32) (p1 : Int32) (p2 : Int32) (p3 : Int32) : Option (Int32) :=
  k_b1 (fX5_once v_z p1 p2 p3) fun (x1 : Int32) =>
  k_let (p3 + 1) fun (x2 : Int32) =>
  k_b1 (fX5_once v_z p1 p2 x2) fun (x3 : Int32) =>
  k_let (x1 + x3) fun (x4 : Int32) =>
  k_let (p3 + 2) fun (x5 : Int32) =>
  k_b1 (fX5_once v_z p1 p2 x5) fun (x6 : Int32) =>
  k_let (x4 + x6) fun (x7 : Int32) =>
  k_if (x7 ≤ 1)
  (
    some 0)
  (
    some 1)
theorem hdX5_thrice : yX5_thrice.cls = RX5 ∧ yX5_thrice.cls ≠ "java/lang/invoke/MethodHandle" ∧ yX5_thrice.cls ≠ "java/lang/invoke/VarHandle" ∧ (parseMethodDescriptor yX5_thrice.desc).map (fun d => d.parameters.length) = some 3 := by decide +kernel
set_option maxRecDepth 100000 in
set_option maxHeartbeats 4000000 in
theorem mX5_thrice (l : Launch) (dC : Nat → ClassId) (dI : Nat → Nat → Nat) (cyI cyC cyO : ClassId) (ob a1 a2 a3 a4 a5 a6 a7 a8 : Nat) (v_thrown : Int32) (v_z : Nat → Int32) (v_saved : Nat → Int32) (v_savedMany : Int32) (v_spare : Nat → Int32) (v_buffer : Nat → Int32) (v_typed : Int32) (v_marksBlown : Int32) (v_rests : Nat → Int32) (v_begins : Nat → Int32) (v_orders : Nat → Int32) (v_orderMany : Int32) (v_spot : Int32) (v_wrong : Int32) (v_isShort : Int32) (v_before : Nat → Int32) (v_hash : Int64) (p1 : Int32) (p2 : Int32) (p3 : Int32) {r : Int32} (hf : fX5_thrice v_z p1 p2 p3 = some r) : MetRI l yX5_thrice cX5_thrice 4 (some .int) 2 45 [.ref ob, .int p1, .int p2, .int p3] (dC, dI) (tyS cyI cyC cyO) (wX5 cyI cyC ob a1 a2 a3 a4 a5 a6 a7 a8 v_thrown v_z v_saved v_savedMany v_spare v_buffer v_typed v_marksBlown v_rests v_begins v_orders v_orderMany v_spot v_wrong v_isShort v_before v_hash) r := by
  refine metRI_of (by decide) (Nat.le_of_ble_eq_true rfl) ?_
  intro p e s m below meth c ls hC hr hlk hP hK hl
  have hC : CallFix p m c cX5_thrice 4 s [.ref ob, .int p1, .int p2, .int p3].toArray wA RX5 := hC
  obtain ⟨hx, hb, hml, hown, hts⟩ := id hC
  have hS : va_S kF s.heap s.heap [] := va_S.rf
  have hl : lv_has ls 4 [(0, .ref ob), (1, .int p1), (2, .int p2), (3, .int p3)] := hl
  have h := hf
  unfold fX5_thrice at h
  obtain ⟨H, hH⟩ : ∃ H, H = s.heap := ⟨_, rfl⟩
  obtain ⟨locs, hlo⟩ : ∃ locs : List Loc, locs = [] := ⟨_, rfl⟩
  rw [← hH] at hP
  rw [← hlo] at hS
  have hS : va_S kF s.heap H locs := by rw [hH]; exact hS
  show W p l e (k_rm 2 45) s m [.ref ob, .int p1, .int p2, .int p3].toArray below meth c s.heap [] 0 0 _ _
  rw [← hlo, ← hH]
  refine lv_aload_n hx hb dX5_thrice_0 rfl (lv_at hl 0 rfl) ?_
  refine lv_iload_n hx hb dX5_thrice_1 rfl (lv_at hl 1 rfl) ?_
  refine lv_iload_n hx hb dX5_thrice_2 rfl (lv_at hl 2 rfl) ?_
  refine lv_iload_n hx hb dX5_thrice_3 rfl (lv_at hl 3 rfl) ?_
  obtain ⟨x1, hc4, h⟩ := k_b1_e h
  refine g_callRI_V (As := [.int p1, .int p2, .int p3]) (rest := []) hC (mX5_once l dC dI cyI cyC cyO ob a1 a2 a3 a4 a5 a6 a7 a8 v_thrown v_z v_saved v_savedMany v_spare v_buffer v_typed v_marksBlown v_rests v_begins v_orders v_orderMany v_spot v_wrong v_isShort v_before v_hash p1 p2 p3 hc4) q757 q758 q16 q75 q759 3 hdX5_once ⟨Nat.le_of_ble_eq_true rfl, Nat.le_of_ble_eq_true rfl⟩ ⟨Nat.le_of_ble_eq_true rfl, Nat.le_of_ble_eq_true rfl⟩ rfl rfl hl.1 (Nat.le_of_ble_eq_true rfl) hP hK (va_recv hK hP (ci := 4) (q0 := 0) rfl rfl) hS dX5_thrice_4 (fun H locs hk hS => ?_)
  have hP := k_kept hP hk
  refine lv_aload_n hx hb dX5_thrice_7 rfl (lv_at hl 0 rfl) ?_
  refine lv_iload_n hx hb dX5_thrice_8 rfl (lv_at hl 1 rfl) ?_
  refine lv_iload_n hx hb dX5_thrice_9 rfl (lv_at hl 2 rfl) ?_
  refine lv_iload_n hx hb dX5_thrice_10 rfl (lv_at hl 3 rfl) ?_
  refine lv_iconst (v := 1) hx hb dX5_thrice_11 (by decide) ?_
  refine g_iadd hx hb dX5_thrice_12 h (fun x2 h => ?_)
  obtain ⟨x3, hc13, h⟩ := k_b1_e h
  refine g_callRI_V (As := [.int p1, .int p2, .int x2]) (rest := [.int x1]) hC (mX5_once l dC dI cyI cyC cyO ob a1 a2 a3 a4 a5 a6 a7 a8 v_thrown v_z v_saved v_savedMany v_spare v_buffer v_typed v_marksBlown v_rests v_begins v_orders v_orderMany v_spot v_wrong v_isShort v_before v_hash p1 p2 x2 hc13) q757 q758 q16 q75 q759 3 hdX5_once ⟨Nat.le_of_ble_eq_true rfl, Nat.le_of_ble_eq_true rfl⟩ ⟨Nat.le_of_ble_eq_true rfl, Nat.le_of_ble_eq_true rfl⟩ rfl rfl hl.1 (Nat.le_of_ble_eq_true rfl) hP hK (va_recv hK hP (ci := 4) (q0 := 0) rfl rfl) hS dX5_thrice_13 (fun H locs hk hS => ?_)
  have hP := k_kept hP hk
  refine g_iadd hx hb dX5_thrice_16 h (fun x4 h => ?_)
  refine lv_aload_n hx hb dX5_thrice_17 rfl (lv_at hl 0 rfl) ?_
  refine lv_iload_n hx hb dX5_thrice_18 rfl (lv_at hl 1 rfl) ?_
  refine lv_iload_n hx hb dX5_thrice_19 rfl (lv_at hl 2 rfl) ?_
  refine lv_iload_n hx hb dX5_thrice_20 rfl (lv_at hl 3 rfl) ?_
  refine lv_iconst (v := 2) hx hb dX5_thrice_21 (by decide) ?_
  refine g_iadd hx hb dX5_thrice_22 h (fun x5 h => ?_)
  obtain ⟨x6, hc23, h⟩ := k_b1_e h
  refine g_callRI_V (As := [.int p1, .int p2, .int x5]) (rest := [.int x4]) hC (mX5_once l dC dI cyI cyC cyO ob a1 a2 a3 a4 a5 a6 a7 a8 v_thrown v_z v_saved v_savedMany v_spare v_buffer v_typed v_marksBlown v_rests v_begins v_orders v_orderMany v_spot v_wrong v_isShort v_before v_hash p1 p2 x5 hc23) q757 q758 q16 q75 q759 3 hdX5_once ⟨Nat.le_of_ble_eq_true rfl, Nat.le_of_ble_eq_true rfl⟩ ⟨Nat.le_of_ble_eq_true rfl, Nat.le_of_ble_eq_true rfl⟩ rfl rfl hl.1 (Nat.le_of_ble_eq_true rfl) hP hK (va_recv hK hP (ci := 4) (q0 := 0) rfl rfl) hS dX5_thrice_23 (fun H locs hk hS => ?_)
  have hP := k_kept hP hk
  refine g_iadd hx hb dX5_thrice_26 h (fun x7 h => ?_)
  refine lv_iconst (v := 1) hx hb dX5_thrice_27 (by decide) ?_
  refine g_icmp_le (tgt := 35) hx hb dX5_thrice_28 (by decide) h (fun h => ?_) (fun h => ?_)
  · refine lv_iconst (v := 0) hx hb dX5_thrice_35 (by decide) ?_
    exact g_retRI hx hb hr hlk hS h dX5_thrice_36
  · refine lv_iconst (v := 1) hx hb dX5_thrice_31 (by decide) ?_
    refine lv_goto (tgt := 36) hx hb dX5_thrice_32 (by decide) ?_
    exact g_retRI hx hb hr hlk hS h dX5_thrice_36
def fX5_reads (v_z : Nat → Int32) (p1 : Int32) (p2 : Int32) (p3 : Int32) (p4 : Int32) : Option (Int32) :=
  k_if (p4 = 0)
  (
    k_b1 (fX5_once v_z p1 p2 p3) fun (x1 : Int32) =>
    some x1)
  (
    k_b1 (fX5_thrice v_z p1 p2 p3) fun (x2 : Int32) =>
    some x2)
theorem hdX5_reads : yX5_reads.cls = RX5 ∧ yX5_reads.cls ≠ "java/lang/invoke/MethodHandle" ∧ yX5_reads.cls ≠ "java/lang/invoke/VarHandle" ∧ (parseMethodDescriptor yX5_reads.desc).map (fun d => d.parameters.length) = some 4 := by decide +kernel
set_option maxRecDepth 100000 in
set_option maxHeartbeats 4000000 in
theorem mX5_reads (l : Launch) (dC : Nat → ClassId) (dI : Nat → Nat → Nat) (cyI cyC cyO : ClassId) (ob a1 a2 a3 a4 a5 a6 a7 a8 : Nat) (v_thrown : Int32) (v_z : Nat → Int32) (v_saved : Nat → Int32) (v_savedMany : Int32) (v_spare : Nat → Int32) (v_buffer : Nat → Int32) (v_typed : Int32) (v_marksBlown : Int32) (v_rests : Nat → Int32) (v_begins : Nat → Int32) (v_orders : Nat → Int32) (v_orderMany : Int32) (v_spot : Int32) (v_wrong : Int32) (v_isShort : Int32) (v_before : Nat → Int32) (v_hash : Int64) (p1 : Int32) (p2 : Int32) (p3 : Int32) (p4 : Int32) {r : Int32} (hf : fX5_reads v_z p1 p2 p3 p4 = some r) : MetRI l yX5_reads cX5_reads 5 (some .int) 3 68 [.ref ob, .int p1, .int p2, .int p3, .int p4] (dC, dI) (tyS cyI cyC cyO) (wX5 cyI cyC ob a1 a2 a3 a4 a5 a6 a7 a8 v_thrown v_z v_saved v_savedMany v_spare v_buffer v_typed v_marksBlown v_rests v_begins v_orders v_orderMany v_spot v_wrong v_isShort v_before v_hash) r := by
  refine metRI_of (by decide) (Nat.le_of_ble_eq_true rfl) ?_
  intro p e s m below meth c ls hC hr hlk hP hK hl
  have hC : CallFix p m c cX5_reads 5 s [.ref ob, .int p1, .int p2, .int p3, .int p4].toArray wA RX5 := hC
  obtain ⟨hx, hb, hml, hown, hts⟩ := id hC
  have hS : va_S kF s.heap s.heap [] := va_S.rf
  have hl : lv_has ls 5 [(0, .ref ob), (1, .int p1), (2, .int p2), (3, .int p3), (4, .int p4)] := hl
  have h := hf
  unfold fX5_reads at h
  obtain ⟨H, hH⟩ : ∃ H, H = s.heap := ⟨_, rfl⟩
  obtain ⟨locs, hlo⟩ : ∃ locs : List Loc, locs = [] := ⟨_, rfl⟩
  rw [← hH] at hP
  rw [← hlo] at hS
  have hS : va_S kF s.heap H locs := by rw [hH]; exact hS
  show W p l e (k_rm 3 68) s m [.ref ob, .int p1, .int p2, .int p3, .int p4].toArray below meth c s.heap [] 0 0 _ _
  rw [← hlo, ← hH]
  refine lv_iload hx hb dX5_reads_0 (lv_at hl 4 rfl) ?_
  refine g_if_eq (tgt := 15) hx hb dX5_reads_2 (by decide) h (fun h => ?_) (fun h => ?_)
  · refine lv_aload_n hx hb dX5_reads_15 rfl (lv_at hl 0 rfl) ?_
    refine lv_iload_n hx hb dX5_reads_16 rfl (lv_at hl 1 rfl) ?_
    refine lv_iload_n hx hb dX5_reads_17 rfl (lv_at hl 2 rfl) ?_
    refine lv_iload_n hx hb dX5_reads_18 rfl (lv_at hl 3 rfl) ?_
    obtain ⟨x1, hc19, h⟩ := k_b1_e h
    refine g_callRI_V (As := [.int p1, .int p2, .int p3]) (rest := []) hC (mX5_once l dC dI cyI cyC cyO ob a1 a2 a3 a4 a5 a6 a7 a8 v_thrown v_z v_saved v_savedMany v_spare v_buffer v_typed v_marksBlown v_rests v_begins v_orders v_orderMany v_spot v_wrong v_isShort v_before v_hash p1 p2 p3 hc19) q757 q758 q16 q75 q759 3 hdX5_once ⟨Nat.le_of_ble_eq_true rfl, Nat.le_of_ble_eq_true rfl⟩ ⟨Nat.le_of_ble_eq_true rfl, Nat.le_of_ble_eq_true rfl⟩ rfl rfl hl.1 (Nat.le_of_ble_eq_true rfl) hP hK (va_recv hK hP (ci := 4) (q0 := 0) rfl rfl) hS dX5_reads_19 (fun H locs hk hS => ?_)
    have hP := k_kept hP hk
    exact g_retRI hx hb hr hlk hS h dX5_reads_22
  · refine lv_aload_n hx hb dX5_reads_5 rfl (lv_at hl 0 rfl) ?_
    refine lv_iload_n hx hb dX5_reads_6 rfl (lv_at hl 1 rfl) ?_
    refine lv_iload_n hx hb dX5_reads_7 rfl (lv_at hl 2 rfl) ?_
    refine lv_iload_n hx hb dX5_reads_8 rfl (lv_at hl 3 rfl) ?_
    obtain ⟨x2, hc9, h⟩ := k_b1_e h
    refine g_callRI_V (As := [.int p1, .int p2, .int p3]) (rest := []) hC (mX5_thrice l dC dI cyI cyC cyO ob a1 a2 a3 a4 a5 a6 a7 a8 v_thrown v_z v_saved v_savedMany v_spare v_buffer v_typed v_marksBlown v_rests v_begins v_orders v_orderMany v_spot v_wrong v_isShort v_before v_hash p1 p2 p3 hc9) q754 q755 q15 q75 q756 3 hdX5_thrice ⟨Nat.le_of_ble_eq_true rfl, Nat.le_of_ble_eq_true rfl⟩ ⟨Nat.le_of_ble_eq_true rfl, Nat.le_of_ble_eq_true rfl⟩ rfl rfl hl.1 (Nat.le_of_ble_eq_true rfl) hP hK (va_recv hK hP (ci := 4) (q0 := 0) rfl rfl) hS dX5_reads_9 (fun H locs hk hS => ?_)
    have hP := k_kept hP hk
    refine lv_goto (tgt := 22) hx hb dX5_reads_12 (by decide) ?_
    exact g_retRI hx hb hr hlk hS h dX5_reads_22
def fX5_mask_s6 (v_z : Nat → Int32) (p1 : Int32) (p2 : Int32) (p3 : Int32) (rec6 : Int32 → Int32 → Option (Int32)) (x1 : Int32) (x2 : Int32) : Option (Int32) :=
  k_if (16 ≤ x2)
  (
    some x1)
  (
    k_b1 (fX5_reads v_z p1 x2 p2 p3) fun (x3 : Int32) =>
    k_let ((x3 : Int32) <<< (x2 &&& 31)) fun (x4 : Int32) =>
    k_let (x1 ||| x4) fun (x5 : Int32) =>
    k_let (x2 + 1) fun (x6 : Int32) =>
    rec6 x5 x6)
def fX5_mask (v_z : Nat → Int32) (p1 : Int32) (p2 : Int32) (p3 : Int32) : Option (Int32) :=
  k_l2 (fX5_mask_s6 v_z p1 p2 p3) 5000 0 0
theorem hdX5_mask : yX5_mask.cls = RX5 ∧ yX5_mask.cls ≠ "java/lang/invoke/MethodHandle" ∧ yX5_mask.cls ≠ "java/lang/invoke/VarHandle" ∧ (parseMethodDescriptor yX5_mask.desc).map (fun d => d.parameters.length) = some 3 := by decide +kernel
set_option maxRecDepth 100000 in
set_option maxHeartbeats 4000000 in
theorem mX5_mask (l : Launch) (dC : Nat → ClassId) (dI : Nat → Nat → Nat) (cyI cyC cyO : ClassId) (ob a1 a2 a3 a4 a5 a6 a7 a8 : Nat) (v_thrown : Int32) (v_z : Nat → Int32) (v_saved : Nat → Int32) (v_savedMany : Int32) (v_spare : Nat → Int32) (v_buffer : Nat → Int32) (v_typed : Int32) (v_marksBlown : Int32) (v_rests : Nat → Int32) (v_begins : Nat → Int32) (v_orders : Nat → Int32) (v_orderMany : Int32) (v_spot : Int32) (v_wrong : Int32) (v_isShort : Int32) (v_before : Nat → Int32) (v_hash : Int64) (p1 : Int32) (p2 : Int32) (p3 : Int32) {r : Int32} (hf : fX5_mask v_z p1 p2 p3 = some r) : MetRI l yX5_mask cX5_mask 6 (some .int) 4 92 [.ref ob, .int p1, .int p2, .int p3] (dC, dI) (tyS cyI cyC cyO) (wX5 cyI cyC ob a1 a2 a3 a4 a5 a6 a7 a8 v_thrown v_z v_saved v_savedMany v_spare v_buffer v_typed v_marksBlown v_rests v_begins v_orders v_orderMany v_spot v_wrong v_isShort v_before v_hash) r := by
  refine metRI_of (by decide) (Nat.le_of_ble_eq_true rfl) ?_
  intro p e s m below meth c ls hC hr hlk hP hK hl
  have hC : CallFix p m c cX5_mask 6 s [.ref ob, .int p1, .int p2, .int p3].toArray wA RX5 := hC
  obtain ⟨hx, hb, hml, hown, hts⟩ := id hC
  have hS : va_S kF s.heap s.heap [] := va_S.rf
  have hl : lv_has ls 6 [(0, .ref ob), (1, .int p1), (2, .int p2), (3, .int p3)] := hl
  have h := hf
  unfold fX5_mask at h
  obtain ⟨H, hH⟩ : ∃ H, H = s.heap := ⟨_, rfl⟩
  obtain ⟨locs, hlo⟩ : ∃ locs : List Loc, locs = [] := ⟨_, rfl⟩
  rw [← hH] at hP
  rw [← hlo] at hS
  have hS : va_S kF s.heap H locs := by rw [hH]; exact hS
  show W p l e (k_rm 4 92) s m [.ref ob, .int p1, .int p2, .int p3].toArray below meth c s.heap [] 0 0 _ _
  rw [← hlo, ← hH]
  refine lv_iconst (v := 0) hx hb dX5_mask_0 (by decide) ?_
  refine lv_istore (lv' := [(4, .int 0), (0, .ref ob), (1, .int p1), (2, .int p2), (3, .int p3)]) hx hb dX5_mask_1 hl (by decide) rfl (fun ls hl => ?_)
  refine lv_iconst (v := 0) hx hb dX5_mask_3 (by decide) ?_
  refine lv_istore (lv' := [(5, .int 0), (4, .int 0), (0, .ref ob), (1, .int p1), (2, .int p2), (3, .int p3)]) hx hb dX5_mask_4 hl (by decide) rfl (fun ls hl => ?_)
  obtain ⟨S6, hS6⟩ : ∃ z, z = (fX5_mask_s6 v_z p1 p2 p3) := ⟨_, rfl⟩
  rw [← hS6] at h
  have L6 : ∀ (n : Nat) (x1 : Int32) (x2 : Int32) (H : Heap) (locs : List Loc) (ls : Array Slot), k_l2 S6 n x1 x2 = some r → va_P (dC, dI) vwCl (wX5 cyI cyC ob a1 a2 a3 a4 a5 a6 a7 a8 v_thrown v_z v_saved v_savedMany v_spare v_buffer v_typed v_marksBlown v_rests v_begins v_orders v_orderMany v_spot v_wrong v_isShort v_before v_hash) H → va_S kF s.heap H locs → lv_has ls 6 [(0, .ref ob), (1, .int p1), (2, .int p2), (3, .int p3), (4, .int x1), (5, .int x2)] → W p l e (k_rm 4 92) s m [.ref ob, .int p1, .int p2, .int p3].toArray below meth c H locs 0 0 (MQ below (qRI r) [.ref ob, .int p1, .int p2, .int p3].toArray s 0 0 kF) (F0 m 6 ls []) := by
    intro n
    induction n with
    | zero =>
      intro x1 x2 H locs ls h
      exact (k_l2_0 h).elim
    | succ n ih6 =>
      intro x1 x2 H locs ls h hP hS hl
      have h := k_l2_s h
      have h := k_a3 hS6 h
      unfold fX5_mask_s6 at h
      refine lv_iload hx hb dX5_mask_6 (lv_at hl 5 rfl) ?_
      refine lv_bipush (v := 16) hx hb dX5_mask_8 (by decide) ?_
      refine g_icmp_ge (tgt := 36) hx hb dX5_mask_10 (by decide) h (fun h => ?_) (fun h => ?_)
      · refine lv_iload hx hb dX5_mask_36 (lv_at hl 4 rfl) ?_
        exact g_retRI hx hb hr hlk hS h dX5_mask_38
      · refine lv_iload hx hb dX5_mask_13 (lv_at hl 4 rfl) ?_
        refine lv_aload_n hx hb dX5_mask_15 rfl (lv_at hl 0 rfl) ?_
        refine lv_iload_n hx hb dX5_mask_16 rfl (lv_at hl 1 rfl) ?_
        refine lv_iload hx hb dX5_mask_17 (lv_at hl 5 rfl) ?_
        refine lv_iload_n hx hb dX5_mask_19 rfl (lv_at hl 2 rfl) ?_
        refine lv_iload_n hx hb dX5_mask_20 rfl (lv_at hl 3 rfl) ?_
        obtain ⟨x3, hc21, h⟩ := k_b1_e h
        refine g_callRI_V (As := [.int p1, .int x2, .int p2, .int p3]) (rest := [.int x1]) hC (mX5_reads l dC dI cyI cyC cyO ob a1 a2 a3 a4 a5 a6 a7 a8 v_thrown v_z v_saved v_savedMany v_spare v_buffer v_typed v_marksBlown v_rests v_begins v_orders v_orderMany v_spot v_wrong v_isShort v_before v_hash p1 x2 p2 p3 hc21) q791 q792 q25 q75 q793 4 hdX5_reads ⟨Nat.le_of_ble_eq_true rfl, Nat.le_of_ble_eq_true rfl⟩ ⟨Nat.le_of_ble_eq_true rfl, Nat.le_of_ble_eq_true rfl⟩ rfl rfl hl.1 (Nat.le_of_ble_eq_true rfl) hP hK (va_recv hK hP (ci := 4) (q0 := 0) rfl rfl) hS dX5_mask_21 (fun H locs hk hS => ?_)
        have hP := k_kept hP hk
        refine lv_iload hx hb dX5_mask_24 (lv_at hl 5 rfl) ?_
        refine g_ishl hx hb dX5_mask_26 h (fun x4 h => ?_)
        refine g_ior hx hb dX5_mask_27 h (fun x5 h => ?_)
        refine lv_istore (lv' := [(4, .int x5), (0, .ref ob), (1, .int p1), (2, .int p2), (3, .int p3), (5, .int x2)]) hx hb dX5_mask_28 hl (by decide) rfl (fun ls hl => ?_)
        refine g_iinc (dv := 1) hx hb dX5_mask_30 hl (j := 5) rfl (by decide) (by decide) h (fun x6 ls h hl => ?_)
        have hl : lv_has ls 6 [(5, .int x6), (4, .int x5), (0, .ref ob), (1, .int p1), (2, .int p2), (3, .int p3)] := hl
        refine lv_goto (tgt := 6) hx hb dX5_mask_33 (by decide) ?_
        exact ih6 x5 x6 _ _ _ h hP hS (lv_sub hl [2, 3, 4, 5, 1, 0] rfl)
  exact L6 5000 0 0 _ _ _ h hP hS (lv_sub hl [2, 3, 4, 5, 1, 0] rfl)
def fX5_isThriceNow (v_z : Nat → Int32) : Option (Int32) :=
  k_ck (3 : Int32) 327 <| k_let (v_z (3 : Int32).toNatClampNeg) fun (x1 : Int32) =>
  k_if (x1 = 1)
  (
    some 1)
  (
    some 0)
theorem hdX5_isThriceNow : yX5_isThriceNow.cls = RX5 ∧ yX5_isThriceNow.cls ≠ "java/lang/invoke/MethodHandle" ∧ yX5_isThriceNow.cls ≠ "java/lang/invoke/VarHandle" ∧ (parseMethodDescriptor yX5_isThriceNow.desc).map (fun d => d.parameters.length) = some 0 := by decide +kernel
set_option maxRecDepth 100000 in
set_option maxHeartbeats 4000000 in
theorem mX5_isThriceNow (l : Launch) (dC : Nat → ClassId) (dI : Nat → Nat → Nat) (cyI cyC cyO : ClassId) (ob a1 a2 a3 a4 a5 a6 a7 a8 : Nat) (v_thrown : Int32) (v_z : Nat → Int32) (v_saved : Nat → Int32) (v_savedMany : Int32) (v_spare : Nat → Int32) (v_buffer : Nat → Int32) (v_typed : Int32) (v_marksBlown : Int32) (v_rests : Nat → Int32) (v_begins : Nat → Int32) (v_orders : Nat → Int32) (v_orderMany : Int32) (v_spot : Int32) (v_wrong : Int32) (v_isShort : Int32) (v_before : Nat → Int32) (v_hash : Int64)  {r : Int32} (hf : fX5_isThriceNow v_z = some r) : MetRI l yX5_isThriceNow cX5_isThriceNow 1 (some .boolean) 0 0 [.ref ob] (dC, dI) (tyS cyI cyC cyO) (wX5 cyI cyC ob a1 a2 a3 a4 a5 a6 a7 a8 v_thrown v_z v_saved v_savedMany v_spare v_buffer v_typed v_marksBlown v_rests v_begins v_orders v_orderMany v_spot v_wrong v_isShort v_before v_hash) r := by
  refine metRI_of (by decide) (Nat.le_of_ble_eq_true rfl) ?_
  intro p e s m below meth c ls hC hr hlk hP hK hl
  have hC : CallFix p m c cX5_isThriceNow 1 s [.ref ob].toArray wA RX5 := hC
  obtain ⟨hx, hb, hml, hown, hts⟩ := id hC
  have hS : va_S kF s.heap s.heap [] := va_S.rf
  have hl : lv_has ls 1 [(0, .ref ob)] := hl
  have h := hf
  unfold fX5_isThriceNow at h
  obtain ⟨H, hH⟩ : ∃ H, H = s.heap := ⟨_, rfl⟩
  obtain ⟨locs, hlo⟩ : ∃ locs : List Loc, locs = [] := ⟨_, rfl⟩
  rw [← hH] at hP
  rw [← hlo] at hS
  have hS : va_S kF s.heap H locs := by rw [hH]; exact hS
  show W p l e (k_rm 0 0) s m [.ref ob].toArray below meth c s.heap [] 0 0 _ _
  rw [← hlo, ← hH]
  refine lv_aload_n hx hb dX5_isThriceNow_0 rfl (lv_at hl 0 rfl) ?_
  refine va_get (D := (dC, dI)) (ci := 4) (v := .ref a1) (C := RX5) (T := TX5) (N := 17) hx hb hts iaX5 hown hK hP 0 rfl rfl 1 (by decide) (hts _ q717) (fun _ h9 => h9) rfl dX5_isThriceNow_1 ?_
  refine lv_iconst (v := 3) hx hb dX5_isThriceNow_4 (by decide) ?_
  refine g_iald hx hb hK hP 1 0 rfl rfl dX5_isThriceNow_5 h (fun x1 h => ?_)
  refine lv_iconst (v := 1) hx hb dX5_isThriceNow_6 (by decide) ?_
  refine g_icmp_ne (tgt := 14) hx hb dX5_isThriceNow_7 (by decide) h (fun h => ?_) (fun h => ?_)
  · refine lv_iconst (v := 0) hx hb dX5_isThriceNow_14 (by decide) ?_
    exact g_retRZ hx hb hr (by decide +kernel) hlk hS h dX5_isThriceNow_15
  · refine lv_iconst (v := 1) hx hb dX5_isThriceNow_10 (by decide) ?_
    refine lv_goto (tgt := 15) hx hb dX5_isThriceNow_11 (by decide) ?_
    exact g_retRZ hx hb hr (by decide +kernel) hlk hS h dX5_isThriceNow_15
def fX5_maskNow (v_z : Nat → Int32) (p1 : Int32) : Option (Int32) :=
  k_ck (0 : Int32) 327 <| k_let (v_z (0 : Int32).toNatClampNeg) fun (x1 : Int32) =>
  k_b1 (fX5_isThriceNow v_z) fun (x2 : Int32) =>
  k_b1 (fX5_mask v_z p1 x1 x2) fun (x3 : Int32) =>
  some x3
theorem hdX5_maskNow : yX5_maskNow.cls = RX5 ∧ yX5_maskNow.cls ≠ "java/lang/invoke/MethodHandle" ∧ yX5_maskNow.cls ≠ "java/lang/invoke/VarHandle" ∧ (parseMethodDescriptor yX5_maskNow.desc).map (fun d => d.parameters.length) = some 1 := by decide +kernel
set_option maxRecDepth 100000 in
set_option maxHeartbeats 4000000 in
theorem mX5_maskNow (l : Launch) (dC : Nat → ClassId) (dI : Nat → Nat → Nat) (cyI cyC cyO : ClassId) (ob a1 a2 a3 a4 a5 a6 a7 a8 : Nat) (v_thrown : Int32) (v_z : Nat → Int32) (v_saved : Nat → Int32) (v_savedMany : Int32) (v_spare : Nat → Int32) (v_buffer : Nat → Int32) (v_typed : Int32) (v_marksBlown : Int32) (v_rests : Nat → Int32) (v_begins : Nat → Int32) (v_orders : Nat → Int32) (v_orderMany : Int32) (v_spot : Int32) (v_wrong : Int32) (v_isShort : Int32) (v_before : Nat → Int32) (v_hash : Int64) (p1 : Int32) {r : Int32} (hf : fX5_maskNow v_z p1 = some r) : MetRI l yX5_maskNow cX5_maskNow 2 (some .int) 5 117 [.ref ob, .int p1] (dC, dI) (tyS cyI cyC cyO) (wX5 cyI cyC ob a1 a2 a3 a4 a5 a6 a7 a8 v_thrown v_z v_saved v_savedMany v_spare v_buffer v_typed v_marksBlown v_rests v_begins v_orders v_orderMany v_spot v_wrong v_isShort v_before v_hash) r := by
  refine metRI_of (by decide) (Nat.le_of_ble_eq_true rfl) ?_
  intro p e s m below meth c ls hC hr hlk hP hK hl
  have hC : CallFix p m c cX5_maskNow 2 s [.ref ob, .int p1].toArray wA RX5 := hC
  obtain ⟨hx, hb, hml, hown, hts⟩ := id hC
  have hS : va_S kF s.heap s.heap [] := va_S.rf
  have hl : lv_has ls 2 [(0, .ref ob), (1, .int p1)] := hl
  have h := hf
  unfold fX5_maskNow at h
  obtain ⟨H, hH⟩ : ∃ H, H = s.heap := ⟨_, rfl⟩
  obtain ⟨locs, hlo⟩ : ∃ locs : List Loc, locs = [] := ⟨_, rfl⟩
  rw [← hH] at hP
  rw [← hlo] at hS
  have hS : va_S kF s.heap H locs := by rw [hH]; exact hS
  show W p l e (k_rm 5 117) s m [.ref ob, .int p1].toArray below meth c s.heap [] 0 0 _ _
  rw [← hlo, ← hH]
  refine lv_aload_n hx hb dX5_maskNow_0 rfl (lv_at hl 0 rfl) ?_
  refine lv_iload_n hx hb dX5_maskNow_1 rfl (lv_at hl 1 rfl) ?_
  refine lv_aload_n hx hb dX5_maskNow_2 rfl (lv_at hl 0 rfl) ?_
  refine va_get (D := (dC, dI)) (ci := 4) (v := .ref a1) (C := RX5) (T := TX5) (N := 17) hx hb hts iaX5 hown hK hP 0 rfl rfl 1 (by decide) (hts _ q717) (fun _ h9 => h9) rfl dX5_maskNow_3 ?_
  refine lv_iconst (v := 0) hx hb dX5_maskNow_6 (by decide) ?_
  refine g_iald hx hb hK hP 1 0 rfl rfl dX5_maskNow_7 h (fun x1 h => ?_)
  refine lv_aload_n hx hb dX5_maskNow_8 rfl (lv_at hl 0 rfl) ?_
  obtain ⟨x2, hc9, h⟩ := k_b1_e h
  refine g_callRI_V (As := []) (rest := [.int x1, .int p1, .ref ob]) hC (mX5_isThriceNow l dC dI cyI cyC cyO ob a1 a2 a3 a4 a5 a6 a7 a8 v_thrown v_z v_saved v_savedMany v_spare v_buffer v_typed v_marksBlown v_rests v_begins v_orders v_orderMany v_spot v_wrong v_isShort v_before v_hash hc9) q785 q786 q23 q75 q787 0 hdX5_isThriceNow ⟨Nat.le_of_ble_eq_true rfl, Nat.le_of_ble_eq_true rfl⟩ ⟨Nat.le_of_ble_eq_true rfl, Nat.le_of_ble_eq_true rfl⟩ rfl rfl hl.1 (Nat.le_of_ble_eq_true rfl) hP hK (va_recv hK hP (ci := 4) (q0 := 0) rfl rfl) hS dX5_maskNow_9 (fun H locs hk hS => ?_)
  have hP := k_kept hP hk
  obtain ⟨x3, hc12, h⟩ := k_b1_e h
  refine g_callRI_V (As := [.int p1, .int x1, .int x2]) (rest := []) hC (mX5_mask l dC dI cyI cyC cyO ob a1 a2 a3 a4 a5 a6 a7 a8 v_thrown v_z v_saved v_savedMany v_spare v_buffer v_typed v_marksBlown v_rests v_begins v_orders v_orderMany v_spot v_wrong v_isShort v_before v_hash p1 x1 x2 hc12) q788 q789 q24 q75 q790 3 hdX5_mask ⟨Nat.le_of_ble_eq_true rfl, Nat.le_of_ble_eq_true rfl⟩ ⟨Nat.le_of_ble_eq_true rfl, Nat.le_of_ble_eq_true rfl⟩ rfl rfl hl.1 (Nat.le_of_ble_eq_true rfl) hP hK (va_recv hK hP (ci := 4) (q0 := 0) rfl rfl) hS dX5_maskNow_12 (fun H locs hk hS => ?_)
  have hP := k_kept hP hk
  exact g_retRI hx hb hr hlk hS h dX5_maskNow_15
def fX5_bits_s4  (rec4 : Int32 → Int32 → Option (Int32)) (x1 : Int32) (x2 : Int32) : Option (Int32) :=
  k_if (x2 = 0)
  (
    some x1)
  (
    k_let (x1 + 1) fun (x3 : Int32) =>
    k_let (x2 - 1) fun (x4 : Int32) =>
    k_let (x2 &&& x4) fun (x5 : Int32) =>
    rec4 x3 x5)
def fX5_bits (p0 : Int32) : Option (Int32) :=
  k_l2 fX5_bits_s4 5000 0 p0
theorem hdX5_bits : yX5_bits.cls ≠ "java/lang/invoke/MethodHandle" ∧ yX5_bits.cls ≠ "java/lang/invoke/VarHandle" ∧ (parseMethodDescriptor yX5_bits.desc).map (fun d => d.parameters.length) = some 1 := by decide +kernel
set_option maxRecDepth 100000 in
set_option maxHeartbeats 4000000 in
theorem mX5_bits (l : Launch) (dC : Nat → ClassId) (dI : Nat → Nat → Nat) (cyI cyC cyO : ClassId)  (p0 : Int32) {r : Int32} (hf : fX5_bits p0 = some r) : MetRI l yX5_bits cX5_bits 3 (some .int) 0 0 [.int p0] (dC, dI) (tyS cyI cyC cyO) [] r := by
  refine metRI_of (by decide) (Nat.le_of_ble_eq_true rfl) ?_
  intro p e s m below meth c ls hC hr hlk hP hK hl
  have hC : CallFix p m c cX5_bits 3 s [.int p0].toArray wA RX5 := hC
  obtain ⟨hx, hb, hml, hown, hts⟩ := id hC
  have hS : va_S kF s.heap s.heap [] := va_S.rf
  have hl : lv_has ls 3 [(0, .int p0)] := hl
  have h := hf
  unfold fX5_bits at h
  obtain ⟨H, hH⟩ : ∃ H, H = s.heap := ⟨_, rfl⟩
  obtain ⟨locs, hlo⟩ : ∃ locs : List Loc, locs = [] := ⟨_, rfl⟩
  rw [← hH] at hP
  rw [← hlo] at hS
  have hS : va_S kF s.heap H locs := by rw [hH]; exact hS
  show W p l e (k_rm 0 0) s m [.int p0].toArray below meth c s.heap [] 0 0 _ _
  rw [← hlo, ← hH]
  refine lv_iconst (v := 0) hx hb dX5_bits_0 (by decide) ?_
  refine lv_istore_n (lv' := [(1, .int 0), (0, .int p0)]) hx hb dX5_bits_1 rfl hl (by decide) rfl (fun ls hl => ?_)
  refine lv_iload_n hx hb dX5_bits_2 rfl (lv_at hl 1 rfl) ?_
  refine lv_istore_n (lv' := [(2, .int p0), (1, .int 0), (0, .int p0)]) hx hb dX5_bits_3 rfl hl (by decide) rfl (fun ls hl => ?_)
  obtain ⟨S4, hS4⟩ : ∃ z, z = fX5_bits_s4 := ⟨_, rfl⟩
  rw [← hS4] at h
  have L4 : ∀ (n : Nat) (x1 : Int32) (x2 : Int32) (H : Heap) (locs : List Loc) (ls : Array Slot), k_l2 S4 n x1 x2 = some r → va_S kF s.heap H locs → lv_has ls 3 [(1, .int x1), (2, .int x2)] → W p l e (k_rm 0 0) s m [.int p0].toArray below meth c H locs 0 0 (MQ below (qRI r) [.int p0].toArray s 0 0 kF) (F0 m 4 ls []) := by
    intro n
    induction n with
    | zero =>
      intro x1 x2 H locs ls h
      exact (k_l2_0 h).elim
    | succ n ih4 =>
      intro x1 x2 H locs ls h hS hl
      have h := k_l2_s h
      have h := k_a3 hS4 h
      unfold fX5_bits_s4 at h
      refine lv_iload_n hx hb dX5_bits_4 rfl (lv_at hl 1 rfl) ?_
      refine g_if_eq (tgt := 20) hx hb dX5_bits_5 (by decide) h (fun h => ?_) (fun h => ?_)
      · refine lv_iload_n hx hb dX5_bits_20 rfl (lv_at hl 0 rfl) ?_
        exact g_retRI hx hb hr hlk hS h dX5_bits_21
      · refine g_iinc (dv := 1) hx hb dX5_bits_8 hl (j := 0) rfl (by decide) (by decide) h (fun x3 ls h hl => ?_)
        have hl : lv_has ls 3 [(1, .int x3), (2, .int x2)] := hl
        refine lv_iload_n hx hb dX5_bits_11 rfl (lv_at hl 1 rfl) ?_
        refine lv_iload_n hx hb dX5_bits_12 rfl (lv_at hl 1 rfl) ?_
        refine lv_iconst (v := 1) hx hb dX5_bits_13 (by decide) ?_
        refine g_isub hx hb dX5_bits_14 h (fun x4 h => ?_)
        refine g_iand hx hb dX5_bits_15 h (fun x5 h => ?_)
        refine lv_istore_n (lv' := [(2, .int x5), (1, .int x3)]) hx hb dX5_bits_16 rfl hl (by decide) rfl (fun ls hl => ?_)
        refine lv_goto (tgt := 4) hx hb dX5_bits_17 (by decide) ?_
        exact ih4 x3 x5 _ _ _ h hS (lv_sub hl [1, 0] rfl)
  exact L4 5000 0 p0 _ _ _ h hS (lv_sub hl [1, 0] rfl)
def fX5_keyIn (p0 : Int32) : Option (Int32) :=
  k_let (p0 &&& 15) fun (x1 : Int32) =>
  some x1
theorem hdX5_keyIn : yX5_keyIn.cls ≠ "java/lang/invoke/MethodHandle" ∧ yX5_keyIn.cls ≠ "java/lang/invoke/VarHandle" ∧ (parseMethodDescriptor yX5_keyIn.desc).map (fun d => d.parameters.length) = some 1 := by decide +kernel
set_option maxRecDepth 100000 in
set_option maxHeartbeats 4000000 in
theorem mX5_keyIn (l : Launch) (dC : Nat → ClassId) (dI : Nat → Nat → Nat) (cyI cyC cyO : ClassId)  (p0 : Int32) {r : Int32} (hf : fX5_keyIn p0 = some r) : MetRI l yX5_keyIn cX5_keyIn 1 (some .int) 0 0 [.int p0] (dC, dI) (tyS cyI cyC cyO) [] r := by
  refine metRI_of (by decide) (Nat.le_of_ble_eq_true rfl) ?_
  intro p e s m below meth c ls hC hr hlk hP hK hl
  have hC : CallFix p m c cX5_keyIn 1 s [.int p0].toArray wA RX5 := hC
  obtain ⟨hx, hb, hml, hown, hts⟩ := id hC
  have hS : va_S kF s.heap s.heap [] := va_S.rf
  have hl : lv_has ls 1 [(0, .int p0)] := hl
  have h := hf
  unfold fX5_keyIn at h
  obtain ⟨H, hH⟩ : ∃ H, H = s.heap := ⟨_, rfl⟩
  obtain ⟨locs, hlo⟩ : ∃ locs : List Loc, locs = [] := ⟨_, rfl⟩
  rw [← hH] at hP
  rw [← hlo] at hS
  have hS : va_S kF s.heap H locs := by rw [hH]; exact hS
  show W p l e (k_rm 0 0) s m [.int p0].toArray below meth c s.heap [] 0 0 _ _
  rw [← hlo, ← hH]
  refine lv_iload_n hx hb dX5_keyIn_0 rfl (lv_at hl 0 rfl) ?_
  refine lv_bipush (v := 15) hx hb dX5_keyIn_1 (by decide) ?_
  refine g_iand hx hb dX5_keyIn_3 h (fun x1 h => ?_)
  exact g_retRI hx hb hr hlk hS h dX5_keyIn_4
def fX5_valueIn (p0 : Int32) : Option (Int32) :=
  k_let (p0 >>> (4 &&& 31)) fun (x1 : Int32) =>
  k_let (x1 &&& 63) fun (x2 : Int32) =>
  some x2
theorem hdX5_valueIn : yX5_valueIn.cls ≠ "java/lang/invoke/MethodHandle" ∧ yX5_valueIn.cls ≠ "java/lang/invoke/VarHandle" ∧ (parseMethodDescriptor yX5_valueIn.desc).map (fun d => d.parameters.length) = some 1 := by decide +kernel
set_option maxRecDepth 100000 in
set_option maxHeartbeats 4000000 in
theorem mX5_valueIn (l : Launch) (dC : Nat → ClassId) (dI : Nat → Nat → Nat) (cyI cyC cyO : ClassId)  (p0 : Int32) {r : Int32} (hf : fX5_valueIn p0 = some r) : MetRI l yX5_valueIn cX5_valueIn 1 (some .int) 0 0 [.int p0] (dC, dI) (tyS cyI cyC cyO) [] r := by
  refine metRI_of (by decide) (Nat.le_of_ble_eq_true rfl) ?_
  intro p e s m below meth c ls hC hr hlk hP hK hl
  have hC : CallFix p m c cX5_valueIn 1 s [.int p0].toArray wA RX5 := hC
  obtain ⟨hx, hb, hml, hown, hts⟩ := id hC
  have hS : va_S kF s.heap s.heap [] := va_S.rf
  have hl : lv_has ls 1 [(0, .int p0)] := hl
  have h := hf
  unfold fX5_valueIn at h
  obtain ⟨H, hH⟩ : ∃ H, H = s.heap := ⟨_, rfl⟩
  obtain ⟨locs, hlo⟩ : ∃ locs : List Loc, locs = [] := ⟨_, rfl⟩
  rw [← hH] at hP
  rw [← hlo] at hS
  have hS : va_S kF s.heap H locs := by rw [hH]; exact hS
  show W p l e (k_rm 0 0) s m [.int p0].toArray below meth c s.heap [] 0 0 _ _
  rw [← hlo, ← hH]
  refine lv_iload_n hx hb dX5_valueIn_0 rfl (lv_at hl 0 rfl) ?_
  refine lv_iconst (v := 4) hx hb dX5_valueIn_1 (by decide) ?_
  refine g_ishr hx hb dX5_valueIn_2 h (fun x1 h => ?_)
  refine lv_bipush (v := 63) hx hb dX5_valueIn_3 (by decide) ?_
  refine g_iand hx hb dX5_valueIn_5 h (fun x2 h => ?_)
  exact g_retRI hx hb hr hlk hS h dX5_valueIn_6
def fX5_zerosIn (p0 : Int32) : Option (Int32) :=
  k_let (p0 &&& 1023) fun (x1 : Int32) =>
  k_b1 (fX5_bits x1) fun (x2 : Int32) =>
  k_let (10 - x2) fun (x3 : Int32) =>
  some x3
theorem hdX5_zerosIn : yX5_zerosIn.cls ≠ "java/lang/invoke/MethodHandle" ∧ yX5_zerosIn.cls ≠ "java/lang/invoke/VarHandle" ∧ (parseMethodDescriptor yX5_zerosIn.desc).map (fun d => d.parameters.length) = some 1 := by decide +kernel
set_option maxRecDepth 100000 in
set_option maxHeartbeats 4000000 in
theorem mX5_zerosIn (l : Launch) (dC : Nat → ClassId) (dI : Nat → Nat → Nat) (cyI cyC cyO : ClassId)  (p0 : Int32) {r : Int32} (hf : fX5_zerosIn p0 = some r) : MetRI l yX5_zerosIn cX5_zerosIn 1 (some .int) 1 22 [.int p0] (dC, dI) (tyS cyI cyC cyO) [] r := by
  refine metRI_of (by decide) (Nat.le_of_ble_eq_true rfl) ?_
  intro p e s m below meth c ls hC hr hlk hP hK hl
  have hC : CallFix p m c cX5_zerosIn 1 s [.int p0].toArray wA RX5 := hC
  obtain ⟨hx, hb, hml, hown, hts⟩ := id hC
  have hS : va_S kF s.heap s.heap [] := va_S.rf
  have hl : lv_has ls 1 [(0, .int p0)] := hl
  have h := hf
  unfold fX5_zerosIn at h
  obtain ⟨H, hH⟩ : ∃ H, H = s.heap := ⟨_, rfl⟩
  obtain ⟨locs, hlo⟩ : ∃ locs : List Loc, locs = [] := ⟨_, rfl⟩
  rw [← hH] at hP
  rw [← hlo] at hS
  have hS : va_S kF s.heap H locs := by rw [hH]; exact hS
  show W p l e (k_rm 1 22) s m [.int p0].toArray below meth c s.heap [] 0 0 _ _
  rw [← hlo, ← hH]
  refine lv_bipush (v := 10) hx hb dX5_zerosIn_0 (by decide) ?_
  refine lv_iload_n hx hb dX5_zerosIn_2 rfl (lv_at hl 0 rfl) ?_
  refine lv_sipush (v := 1023) hx hb dX5_zerosIn_3 (by decide) ?_
  refine g_iand hx hb dX5_zerosIn_6 h (fun x1 h => ?_)
  obtain ⟨x2, hc7, h⟩ := k_b1_e h
  refine g_callRI_S (As := [.int x1]) (rest := [.int 10]) hC (mX5_bits l dC dI cyI cyC cyO x1 hc7) q800 q801 q75 q802 1 hdX5_bits ⟨Nat.le_of_ble_eq_true rfl, Nat.le_of_ble_eq_true rfl⟩ ⟨Nat.le_of_ble_eq_true rfl, Nat.le_of_ble_eq_true rfl⟩ rfl rfl hl.1 (Nat.le_of_ble_eq_true rfl) va_P_nil hK hS dX5_zerosIn_7 (fun H locs hk hS => ?_)
  refine g_isub hx hb dX5_zerosIn_10 h (fun x3 h => ?_)
  exact g_retRI hx hb hr hlk hS h dX5_zerosIn_11
def fX5_kindOf (p0 : Int32) : Option (Int32) :=
  k_if (p0 = 0)
  (
    some 0)
  (
    k_let (p0 &&& 16383) fun (x1 : Int32) =>
    k_if (x1 = 0)
    (
      some 1)
    (
      k_let (p0 >>> (14 &&& 31)) fun (x2 : Int32) =>
      k_let (x2 &&& 1) fun (x3 : Int32) =>
      k_j1
      (fun (x4 : Int32) =>
        k_if (x4 = 0)
        (
          k_let (p0 >>> (10 &&& 31)) fun (x5 : Int32) =>
          k_let (x5 &&& 15) fun (x6 : Int32) =>
          k_b1 (fX5_zerosIn p0) fun (x7 : Int32) =>
          k_if (x6 = x7)
          (
            some 4)
          (
            some 3))
        (
          some 2))
      (fun K31 =>
      k_if (x3 = 1)
      (
        K31 1)
      (
        K31 0))))
theorem hdX5_kindOf : yX5_kindOf.cls ≠ "java/lang/invoke/MethodHandle" ∧ yX5_kindOf.cls ≠ "java/lang/invoke/VarHandle" ∧ (parseMethodDescriptor yX5_kindOf.desc).map (fun d => d.parameters.length) = some 1 := by decide +kernel
set_option maxRecDepth 100000 in
set_option maxHeartbeats 4000000 in
theorem mX5_kindOf (l : Launch) (dC : Nat → ClassId) (dI : Nat → Nat → Nat) (cyI cyC cyO : ClassId)  (p0 : Int32) {r : Int32} (hf : fX5_kindOf p0 = some r) : MetRI l yX5_kindOf cX5_kindOf 2 (some .int) 2 42 [.int p0] (dC, dI) (tyS cyI cyC cyO) [] r := by
  refine metRI_of (by decide) (Nat.le_of_ble_eq_true rfl) ?_
  intro p e s m below meth c ls hC hr hlk hP hK hl
  have hC : CallFix p m c cX5_kindOf 2 s [.int p0].toArray wA RX5 := hC
  obtain ⟨hx, hb, hml, hown, hts⟩ := id hC
  have hS : va_S kF s.heap s.heap [] := va_S.rf
  have hl : lv_has ls 2 [(0, .int p0)] := hl
  have h := hf
  unfold fX5_kindOf at h
  obtain ⟨H, hH⟩ : ∃ H, H = s.heap := ⟨_, rfl⟩
  obtain ⟨locs, hlo⟩ : ∃ locs : List Loc, locs = [] := ⟨_, rfl⟩
  rw [← hH] at hP
  rw [← hlo] at hS
  have hS : va_S kF s.heap H locs := by rw [hH]; exact hS
  show W p l e (k_rm 2 42) s m [.int p0].toArray below meth c s.heap [] 0 0 _ _
  rw [← hlo, ← hH]
  refine lv_iload_n hx hb dX5_kindOf_0 rfl (lv_at hl 0 rfl) ?_
  refine g_if_ne (tgt := 6) hx hb dX5_kindOf_1 (by decide) h (fun h => ?_) (fun h => ?_)
  · refine lv_iload_n hx hb dX5_kindOf_6 rfl (lv_at hl 0 rfl) ?_
    refine lv_sipush (v := 16383) hx hb dX5_kindOf_7 (by decide) ?_
    refine g_iand hx hb dX5_kindOf_10 h (fun x1 h => ?_)
    refine g_if_ne (tgt := 16) hx hb dX5_kindOf_11 (by decide) h (fun h => ?_) (fun h => ?_)
    · refine lv_iload_n hx hb dX5_kindOf_16 rfl (lv_at hl 0 rfl) ?_
      refine lv_bipush (v := 14) hx hb dX5_kindOf_17 (by decide) ?_
      refine g_ishr hx hb dX5_kindOf_19 h (fun x2 h => ?_)
      refine lv_iconst (v := 1) hx hb dX5_kindOf_20 (by decide) ?_
      refine g_iand hx hb dX5_kindOf_21 h (fun x3 h => ?_)
      refine lv_iconst (v := 1) hx hb dX5_kindOf_22 (by decide) ?_
      obtain ⟨K31, hK31, h⟩ := k_j1_e h
      have J31 : ∀ (x4 : Int32) (H : Heap) (locs : List Loc) (ls : Array Slot), K31 x4 = some r → va_S kF s.heap H locs → lv_has ls 2 [(0, .int p0)] → W p l e (k_rm 2 42) s m [.int p0].toArray below meth c H locs 0 0 (MQ below (qRI r) [.int p0].toArray s 0 0 kF) (F0 m 31 ls [.int x4]) := by
        intro x4 H locs ls h hS hl
        have h := k_a1 hK31 h
        refine lv_istore_n (lv' := [(1, .int x4), (0, .int p0)]) hx hb dX5_kindOf_31 rfl hl (by decide) rfl (fun ls hl => ?_)
        refine lv_iload_n hx hb dX5_kindOf_32 rfl (lv_at hl 0 rfl) ?_
        refine g_if_eq (tgt := 40) hx hb dX5_kindOf_33 (by decide) h (fun h => ?_) (fun h => ?_)
        · refine lv_iload_n hx hb dX5_kindOf_40 rfl (lv_at hl 1 rfl) ?_
          refine lv_bipush (v := 10) hx hb dX5_kindOf_41 (by decide) ?_
          refine g_ishr hx hb dX5_kindOf_43 h (fun x5 h => ?_)
          refine lv_bipush (v := 15) hx hb dX5_kindOf_44 (by decide) ?_
          refine g_iand hx hb dX5_kindOf_46 h (fun x6 h => ?_)
          refine lv_iload_n hx hb dX5_kindOf_47 rfl (lv_at hl 1 rfl) ?_
          obtain ⟨x7, hc48, h⟩ := k_b1_e h
          refine g_callRI_S (As := [.int p0]) (rest := [.int x6]) hC (mX5_zerosIn l dC dI cyI cyC cyO p0 hc48) q797 q798 q75 q799 1 hdX5_zerosIn ⟨Nat.le_of_ble_eq_true rfl, Nat.le_of_ble_eq_true rfl⟩ ⟨Nat.le_of_ble_eq_true rfl, Nat.le_of_ble_eq_true rfl⟩ rfl rfl hl.1 (Nat.le_of_ble_eq_true rfl) va_P_nil hK hS dX5_kindOf_48 (fun H locs hk hS => ?_)
          refine g_icmp_ne (tgt := 58) hx hb dX5_kindOf_51 (by decide) h (fun h => ?_) (fun h => ?_)
          · refine lv_iconst (v := 3) hx hb dX5_kindOf_58 (by decide) ?_
            exact g_retRI hx hb hr hlk hS h dX5_kindOf_59
          · refine lv_iconst (v := 4) hx hb dX5_kindOf_54 (by decide) ?_
            refine lv_goto (tgt := 59) hx hb dX5_kindOf_55 (by decide) ?_
            exact g_retRI hx hb hr hlk hS h dX5_kindOf_59
        · refine lv_iconst (v := 2) hx hb dX5_kindOf_36 (by decide) ?_
          refine lv_goto (tgt := 59) hx hb dX5_kindOf_37 (by decide) ?_
          exact g_retRI hx hb hr hlk hS h dX5_kindOf_59
      refine g_icmp_ne (tgt := 30) hx hb dX5_kindOf_23 (by decide) h (fun h => ?_) (fun h => ?_)
      · refine lv_iconst (v := 0) hx hb dX5_kindOf_30 (by decide) ?_
        exact J31 0 _ _ _ h hS (lv_sub hl [0] rfl)
      · refine lv_iconst (v := 1) hx hb dX5_kindOf_26 (by decide) ?_
        refine lv_goto (tgt := 31) hx hb dX5_kindOf_27 (by decide) ?_
        exact J31 1 _ _ _ h hS (lv_sub hl [0] rfl)
    · refine lv_iconst (v := 1) hx hb dX5_kindOf_14 (by decide) ?_
      exact g_retRI hx hb hr hlk hS h dX5_kindOf_15
  · refine lv_iconst (v := 0) hx hb dX5_kindOf_4 (by decide) ?_
    exact g_retRI hx hb hr hlk hS h dX5_kindOf_5
def fX5_isLocked (v_z : Nat → Int32) (p1 : Int32) : Option (Int32) :=
  k_ck (0 : Int32) 327 <| k_let (v_z (0 : Int32).toNatClampNeg) fun (x1 : Int32) =>
  k_b1 (fX5_thrice v_z p1 15 x1) fun (x2 : Int32) =>
  k_if (x2 = 1)
  (
    some 1)
  (
    some 0)
theorem hdX5_isLocked : yX5_isLocked.cls = RX5 ∧ yX5_isLocked.cls ≠ "java/lang/invoke/MethodHandle" ∧ yX5_isLocked.cls ≠ "java/lang/invoke/VarHandle" ∧ (parseMethodDescriptor yX5_isLocked.desc).map (fun d => d.parameters.length) = some 1 := by decide +kernel
set_option maxRecDepth 100000 in
set_option maxHeartbeats 4000000 in
theorem mX5_isLocked (l : Launch) (dC : Nat → ClassId) (dI : Nat → Nat → Nat) (cyI cyC cyO : ClassId) (ob a1 a2 a3 a4 a5 a6 a7 a8 : Nat) (v_thrown : Int32) (v_z : Nat → Int32) (v_saved : Nat → Int32) (v_savedMany : Int32) (v_spare : Nat → Int32) (v_buffer : Nat → Int32) (v_typed : Int32) (v_marksBlown : Int32) (v_rests : Nat → Int32) (v_begins : Nat → Int32) (v_orders : Nat → Int32) (v_orderMany : Int32) (v_spot : Int32) (v_wrong : Int32) (v_isShort : Int32) (v_before : Nat → Int32) (v_hash : Int64) (p1 : Int32) {r : Int32} (hf : fX5_isLocked v_z p1 = some r) : MetRI l yX5_isLocked cX5_isLocked 2 (some .boolean) 3 68 [.ref ob, .int p1] (dC, dI) (tyS cyI cyC cyO) (wX5 cyI cyC ob a1 a2 a3 a4 a5 a6 a7 a8 v_thrown v_z v_saved v_savedMany v_spare v_buffer v_typed v_marksBlown v_rests v_begins v_orders v_orderMany v_spot v_wrong v_isShort v_before v_hash) r := by
  refine metRI_of (by decide) (Nat.le_of_ble_eq_true rfl) ?_
  intro p e s m below meth c ls hC hr hlk hP hK hl
  have hC : CallFix p m c cX5_isLocked 2 s [.ref ob, .int p1].toArray wA RX5 := hC
  obtain ⟨hx, hb, hml, hown, hts⟩ := id hC
  have hS : va_S kF s.heap s.heap [] := va_S.rf
  have hl : lv_has ls 2 [(0, .ref ob), (1, .int p1)] := hl
  have h := hf
  unfold fX5_isLocked at h
  obtain ⟨H, hH⟩ : ∃ H, H = s.heap := ⟨_, rfl⟩
  obtain ⟨locs, hlo⟩ : ∃ locs : List Loc, locs = [] := ⟨_, rfl⟩
  rw [← hH] at hP
  rw [← hlo] at hS
  have hS : va_S kF s.heap H locs := by rw [hH]; exact hS
  show W p l e (k_rm 3 68) s m [.ref ob, .int p1].toArray below meth c s.heap [] 0 0 _ _
  rw [← hlo, ← hH]
  refine lv_aload_n hx hb dX5_isLocked_0 rfl (lv_at hl 0 rfl) ?_
  refine lv_iload_n hx hb dX5_isLocked_1 rfl (lv_at hl 1 rfl) ?_
  refine lv_bipush (v := 15) hx hb dX5_isLocked_2 (by decide) ?_
  refine lv_aload_n hx hb dX5_isLocked_4 rfl (lv_at hl 0 rfl) ?_
  refine va_get (D := (dC, dI)) (ci := 4) (v := .ref a1) (C := RX5) (T := TX5) (N := 17) hx hb hts iaX5 hown hK hP 0 rfl rfl 1 (by decide) (hts _ q717) (fun _ h9 => h9) rfl dX5_isLocked_5 ?_
  refine lv_iconst (v := 0) hx hb dX5_isLocked_8 (by decide) ?_
  refine g_iald hx hb hK hP 1 0 rfl rfl dX5_isLocked_9 h (fun x1 h => ?_)
  obtain ⟨x2, hc10, h⟩ := k_b1_e h
  refine g_callRI_V (As := [.int p1, .int 15, .int x1]) (rest := []) hC (mX5_thrice l dC dI cyI cyC cyO ob a1 a2 a3 a4 a5 a6 a7 a8 v_thrown v_z v_saved v_savedMany v_spare v_buffer v_typed v_marksBlown v_rests v_begins v_orders v_orderMany v_spot v_wrong v_isShort v_before v_hash p1 15 x1 hc10) q754 q755 q15 q75 q756 3 hdX5_thrice ⟨Nat.le_of_ble_eq_true rfl, Nat.le_of_ble_eq_true rfl⟩ ⟨Nat.le_of_ble_eq_true rfl, Nat.le_of_ble_eq_true rfl⟩ rfl rfl hl.1 (Nat.le_of_ble_eq_true rfl) hP hK (va_recv hK hP (ci := 4) (q0 := 0) rfl rfl) hS dX5_isLocked_10 (fun H locs hk hS => ?_)
  have hP := k_kept hP hk
  refine lv_iconst (v := 1) hx hb dX5_isLocked_13 (by decide) ?_
  refine g_icmp_ne (tgt := 21) hx hb dX5_isLocked_14 (by decide) h (fun h => ?_) (fun h => ?_)
  · refine lv_iconst (v := 0) hx hb dX5_isLocked_21 (by decide) ?_
    exact g_retRZ hx hb hr (by decide +kernel) hlk hS h dX5_isLocked_22
  · refine lv_iconst (v := 1) hx hb dX5_isLocked_17 (by decide) ?_
    refine lv_goto (tgt := 22) hx hb dX5_isLocked_18 (by decide) ?_
    exact g_retRZ hx hb hr (by decide +kernel) hlk hS h dX5_isLocked_22
