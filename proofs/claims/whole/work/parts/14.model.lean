def fX5_rowsOf_s4 (v_z : Nat → Int32) (p1 : Int32) (rec4 : Int32 → Int32 → Option (Int32)) (x1 : Int32) (x2 : Int32) : Option (Int32) :=
  k_if (20 ≤ x2)
  (
    some x1)
  (
    k_b1 (fX5_isRowOf v_z p1 x2) fun (x3 : Int32) =>
    k_j1
    (fun (x4 : Int32) =>
      k_let (x1 + x4) fun (x5 : Int32) =>
      k_let (x2 + 1) fun (x6 : Int32) =>
      rec4 x5 x6)
    (fun K25 =>
    k_if (x3 = 0)
    (
      K25 0)
    (
      K25 1)))
def fX5_rowsOf (v_z : Nat → Int32) (p1 : Int32) : Option (Int32) :=
  k_l2 (fX5_rowsOf_s4 v_z p1) 5000 0 0
theorem hdX5_rowsOf : yX5_rowsOf.cls = RX5 ∧ yX5_rowsOf.cls ≠ "java/lang/invoke/MethodHandle" ∧ yX5_rowsOf.cls ≠ "java/lang/invoke/VarHandle" ∧ (parseMethodDescriptor yX5_rowsOf.desc).map (fun d => d.parameters.length) = some 1 := by decide +kernel
set_option maxRecDepth 100000 in
set_option maxHeartbeats 4000000 in
theorem mX5_rowsOf (l : Launch) (dC : Nat → ClassId) (dI : Nat → Nat → Nat) (cyI cyC cyO : ClassId) (ob a1 a2 a3 a4 a5 a6 a7 a8 : Nat) (v_thrown : Int32) (v_z : Nat → Int32) (v_saved : Nat → Int32) (v_savedMany : Int32) (v_spare : Nat → Int32) (v_buffer : Nat → Int32) (v_typed : Int32) (v_marksBlown : Int32) (v_rests : Nat → Int32) (v_begins : Nat → Int32) (v_orders : Nat → Int32) (v_orderMany : Int32) (v_spot : Int32) (v_wrong : Int32) (v_isShort : Int32) (v_before : Nat → Int32) (v_hash : Int64) (p1 : Int32) {r : Int32} (hf : fX5_rowsOf v_z p1 = some r) : MetRI l yX5_rowsOf cX5_rowsOf 4 (some .int) 7 162 [.ref ob, .int p1] (dC, dI) (tyS cyI cyC cyO) (wX5 cyI cyC ob a1 a2 a3 a4 a5 a6 a7 a8 v_thrown v_z v_saved v_savedMany v_spare v_buffer v_typed v_marksBlown v_rests v_begins v_orders v_orderMany v_spot v_wrong v_isShort v_before v_hash) r := by
  refine metRI_of (by decide) (Nat.le_of_ble_eq_true rfl) ?_
  intro p e s m below meth c ls hC hr hlk hP hK hl
  have hC : CallFix p m c cX5_rowsOf 4 s [.ref ob, .int p1].toArray wA RX5 := hC
  obtain ⟨hx, hb, hml, hown, hts⟩ := id hC
  have hS : va_S kF s.heap s.heap [] := va_S.rf
  have hl : lv_has ls 4 [(0, .ref ob), (1, .int p1)] := hl
  have h := hf
  unfold fX5_rowsOf at h
  obtain ⟨H, hH⟩ : ∃ H, H = s.heap := ⟨_, rfl⟩
  obtain ⟨locs, hlo⟩ : ∃ locs : List Loc, locs = [] := ⟨_, rfl⟩
  rw [← hH] at hP
  rw [← hlo] at hS
  have hS : va_S kF s.heap H locs := by rw [hH]; exact hS
  show W p l e (k_rm 7 162) s m [.ref ob, .int p1].toArray below meth c s.heap [] 0 0 _ _
  rw [← hlo, ← hH]
  refine lv_iconst (v := 0) hx hb dX5_rowsOf_0 (by decide) ?_
  refine lv_istore_n (lv' := [(2, .int 0), (0, .ref ob), (1, .int p1)]) hx hb dX5_rowsOf_1 rfl hl (by decide) rfl (fun ls hl => ?_)
  refine lv_iconst (v := 0) hx hb dX5_rowsOf_2 (by decide) ?_
  refine lv_istore_n (lv' := [(3, .int 0), (2, .int 0), (0, .ref ob), (1, .int p1)]) hx hb dX5_rowsOf_3 rfl hl (by decide) rfl (fun ls hl => ?_)
  obtain ⟨S4, hS4⟩ : ∃ z, z = (fX5_rowsOf_s4 v_z p1) := ⟨_, rfl⟩
  rw [← hS4] at h
  have L4 : ∀ (n : Nat) (x1 : Int32) (x2 : Int32) (H : Heap) (locs : List Loc) (ls : Array Slot), k_l2 S4 n x1 x2 = some r → va_P (dC, dI) vwCl (wX5 cyI cyC ob a1 a2 a3 a4 a5 a6 a7 a8 v_thrown v_z v_saved v_savedMany v_spare v_buffer v_typed v_marksBlown v_rests v_begins v_orders v_orderMany v_spot v_wrong v_isShort v_before v_hash) H → va_S kF s.heap H locs → lv_has ls 4 [(0, .ref ob), (1, .int p1), (2, .int x1), (3, .int x2)] → W p l e (k_rm 7 162) s m [.ref ob, .int p1].toArray below meth c H locs 0 0 (MQ below (qRI r) [.ref ob, .int p1].toArray s 0 0 kF) (F0 m 4 ls []) := by
    intro n
    induction n with
    | zero =>
      intro x1 x2 H locs ls h
      exact (k_l2_0 h).elim
    | succ n ih4 =>
      intro x1 x2 H locs ls h hP hS hl
      have h := k_l2_s h
      have h := k_a3 hS4 h
      unfold fX5_rowsOf_s4 at h
      refine lv_iload_n hx hb dX5_rowsOf_4 rfl (lv_at hl 3 rfl) ?_
      refine lv_bipush (v := 20) hx hb dX5_rowsOf_5 (by decide) ?_
      refine g_icmp_ge (tgt := 33) hx hb dX5_rowsOf_7 (by decide) h (fun h => ?_) (fun h => ?_)
      · refine lv_iload_n hx hb dX5_rowsOf_33 rfl (lv_at hl 2 rfl) ?_
        exact g_retRI hx hb hr hlk hS h dX5_rowsOf_34
      · refine lv_iload_n hx hb dX5_rowsOf_10 rfl (lv_at hl 2 rfl) ?_
        refine lv_aload_n hx hb dX5_rowsOf_11 rfl (lv_at hl 0 rfl) ?_
        refine lv_iload_n hx hb dX5_rowsOf_12 rfl (lv_at hl 1 rfl) ?_
        refine lv_iload_n hx hb dX5_rowsOf_13 rfl (lv_at hl 3 rfl) ?_
        obtain ⟨x3, hc14, h⟩ := k_b1_e h
        refine g_callRI_V (As := [.int p1, .int x2]) (rest := [.int x1]) hC (mX5_isRowOf l dC dI cyI cyC cyO ob a1 a2 a3 a4 a5 a6 a7 a8 v_thrown v_z v_saved v_savedMany v_spare v_buffer v_typed v_marksBlown v_rests v_begins v_orders v_orderMany v_spot v_wrong v_isShort v_before v_hash p1 x2 hc14) q939 q940 q50 q75 q941 2 hdX5_isRowOf ⟨Nat.le_of_ble_eq_true rfl, Nat.le_of_ble_eq_true rfl⟩ ⟨Nat.le_of_ble_eq_true rfl, Nat.le_of_ble_eq_true rfl⟩ rfl rfl hl.1 (Nat.le_of_ble_eq_true rfl) hP hK (va_recv hK hP (ci := 4) (q0 := 0) rfl rfl) hS dX5_rowsOf_14 (fun H locs hk hS => ?_)
        have hP := k_kept hP hk
        obtain ⟨K25, hK25, h⟩ := k_j1_e h
        have J25 : ∀ (x4 : Int32) (H : Heap) (locs : List Loc) (ls : Array Slot), K25 x4 = some r → va_P (dC, dI) vwCl (wX5 cyI cyC ob a1 a2 a3 a4 a5 a6 a7 a8 v_thrown v_z v_saved v_savedMany v_spare v_buffer v_typed v_marksBlown v_rests v_begins v_orders v_orderMany v_spot v_wrong v_isShort v_before v_hash) H → va_S kF s.heap H locs → lv_has ls 4 [(0, .ref ob), (1, .int p1), (3, .int x2)] → W p l e (k_rm 7 162) s m [.ref ob, .int p1].toArray below meth c H locs 0 0 (MQ below (qRI r) [.ref ob, .int p1].toArray s 0 0 kF) (F0 m 25 ls [.int x4, .int x1]) := by
          intro x4 H locs ls h hP hS hl
          have h := k_a1 hK25 h
          refine g_iadd hx hb dX5_rowsOf_25 h (fun x5 h => ?_)
          refine lv_istore_n (lv' := [(2, .int x5), (0, .ref ob), (1, .int p1), (3, .int x2)]) hx hb dX5_rowsOf_26 rfl hl (by decide) rfl (fun ls hl => ?_)
          refine g_iinc (dv := 1) hx hb dX5_rowsOf_27 hl (j := 3) rfl (by decide) (by decide) h (fun x6 ls h hl => ?_)
          have hl : lv_has ls 4 [(3, .int x6), (2, .int x5), (0, .ref ob), (1, .int p1)] := hl
          refine lv_goto (tgt := 4) hx hb dX5_rowsOf_30 (by decide) ?_
          exact ih4 x5 x6 _ _ _ h hP hS (lv_sub hl [2, 3, 1, 0] rfl)
        refine g_if_eq (tgt := 24) hx hb dX5_rowsOf_17 (by decide) h (fun h => ?_) (fun h => ?_)
        · refine lv_iconst (v := 0) hx hb dX5_rowsOf_24 (by decide) ?_
          exact J25 0 _ _ _ h hP hS (lv_sub hl [0, 1, 3] rfl)
        · refine lv_iconst (v := 1) hx hb dX5_rowsOf_20 (by decide) ?_
          refine lv_goto (tgt := 25) hx hb dX5_rowsOf_21 (by decide) ?_
          exact J25 1 _ _ _ h hP hS (lv_sub hl [0, 1, 3] rfl)
  exact L4 5000 0 0 _ _ _ h hP hS (lv_sub hl [2, 3, 1, 0] rfl)
def fX5_greatestOf_s4 (v_z : Nat → Int32) (p1 : Int32) (rec4 : Int32 → Int32 → Option (Int32)) (x1 : Int32) (x2 : Int32) : Option (Int32) :=
  k_if (20 ≤ x2)
  (
    some x1)
  (
    k_b1 (fX5_maskNow v_z x2) fun (x3 : Int32) =>
    k_b1 (fX5_valueIn x3) fun (x4 : Int32) =>
    k_b1 (fX5_isRowOf v_z p1 x2) fun (x5 : Int32) =>
    k_j1
    (fun (x6 : Int32) =>
      k_let (x2 + 1) fun (x7 : Int32) =>
      rec4 x6 x7)
    (fun K41 =>
    k_if (x5 = 0)
    (
      K41 x1)
    (
      k_if (x4 ≤ x1)
      (
        K41 x1)
      (
        K41 x4))))
def fX5_greatestOf (v_z : Nat → Int32) (p1 : Int32) : Option (Int32) :=
  k_l2 (fX5_greatestOf_s4 v_z p1) 5000 ((-1)) 0
theorem hdX5_greatestOf : yX5_greatestOf.cls = RX5 ∧ yX5_greatestOf.cls ≠ "java/lang/invoke/MethodHandle" ∧ yX5_greatestOf.cls ≠ "java/lang/invoke/VarHandle" ∧ (parseMethodDescriptor yX5_greatestOf.desc).map (fun d => d.parameters.length) = some 1 := by decide +kernel
set_option maxRecDepth 100000 in
set_option maxHeartbeats 4000000 in
theorem mX5_greatestOf (l : Launch) (dC : Nat → ClassId) (dI : Nat → Nat → Nat) (cyI cyC cyO : ClassId) (ob a1 a2 a3 a4 a5 a6 a7 a8 : Nat) (v_thrown : Int32) (v_z : Nat → Int32) (v_saved : Nat → Int32) (v_savedMany : Int32) (v_spare : Nat → Int32) (v_buffer : Nat → Int32) (v_typed : Int32) (v_marksBlown : Int32) (v_rests : Nat → Int32) (v_begins : Nat → Int32) (v_orders : Nat → Int32) (v_orderMany : Int32) (v_spot : Int32) (v_wrong : Int32) (v_isShort : Int32) (v_before : Nat → Int32) (v_hash : Int64) (p1 : Int32) {r : Int32} (hf : fX5_greatestOf v_z p1 = some r) : MetRI l yX5_greatestOf cX5_greatestOf 5 (some .int) 7 162 [.ref ob, .int p1] (dC, dI) (tyS cyI cyC cyO) (wX5 cyI cyC ob a1 a2 a3 a4 a5 a6 a7 a8 v_thrown v_z v_saved v_savedMany v_spare v_buffer v_typed v_marksBlown v_rests v_begins v_orders v_orderMany v_spot v_wrong v_isShort v_before v_hash) r := by
  refine metRI_of (by decide) (Nat.le_of_ble_eq_true rfl) ?_
  intro p e s m below meth c ls hC hr hlk hP hK hl
  have hC : CallFix p m c cX5_greatestOf 5 s [.ref ob, .int p1].toArray wA RX5 := hC
  obtain ⟨hx, hb, hml, hown, hts⟩ := id hC
  have hS : va_S kF s.heap s.heap [] := va_S.rf
  have hl : lv_has ls 5 [(0, .ref ob), (1, .int p1)] := hl
  have h := hf
  unfold fX5_greatestOf at h
  obtain ⟨H, hH⟩ : ∃ H, H = s.heap := ⟨_, rfl⟩
  obtain ⟨locs, hlo⟩ : ∃ locs : List Loc, locs = [] := ⟨_, rfl⟩
  rw [← hH] at hP
  rw [← hlo] at hS
  have hS : va_S kF s.heap H locs := by rw [hH]; exact hS
  show W p l e (k_rm 7 162) s m [.ref ob, .int p1].toArray below meth c s.heap [] 0 0 _ _
  rw [← hlo, ← hH]
  refine lv_iconst (v := (-1)) hx hb dX5_greatestOf_0 (by decide) ?_
  refine lv_istore_n (lv' := [(2, .int ((-1))), (0, .ref ob), (1, .int p1)]) hx hb dX5_greatestOf_1 rfl hl (by decide) rfl (fun ls hl => ?_)
  refine lv_iconst (v := 0) hx hb dX5_greatestOf_2 (by decide) ?_
  refine lv_istore_n (lv' := [(3, .int 0), (2, .int ((-1))), (0, .ref ob), (1, .int p1)]) hx hb dX5_greatestOf_3 rfl hl (by decide) rfl (fun ls hl => ?_)
  obtain ⟨S4, hS4⟩ : ∃ z, z = (fX5_greatestOf_s4 v_z p1) := ⟨_, rfl⟩
  rw [← hS4] at h
  have L4 : ∀ (n : Nat) (x1 : Int32) (x2 : Int32) (H : Heap) (locs : List Loc) (ls : Array Slot), k_l2 S4 n x1 x2 = some r → va_P (dC, dI) vwCl (wX5 cyI cyC ob a1 a2 a3 a4 a5 a6 a7 a8 v_thrown v_z v_saved v_savedMany v_spare v_buffer v_typed v_marksBlown v_rests v_begins v_orders v_orderMany v_spot v_wrong v_isShort v_before v_hash) H → va_S kF s.heap H locs → lv_has ls 5 [(0, .ref ob), (1, .int p1), (2, .int x1), (3, .int x2)] → W p l e (k_rm 7 162) s m [.ref ob, .int p1].toArray below meth c H locs 0 0 (MQ below (qRI r) [.ref ob, .int p1].toArray s 0 0 kF) (F0 m 4 ls []) := by
    intro n
    induction n with
    | zero =>
      intro x1 x2 H locs ls h
      exact (k_l2_0 h).elim
    | succ n ih4 =>
      intro x1 x2 H locs ls h hP hS hl
      have h := k_l2_s h
      have h := k_a3 hS4 h
      unfold fX5_greatestOf_s4 at h
      refine lv_iload_n hx hb dX5_greatestOf_4 rfl (lv_at hl 3 rfl) ?_
      refine lv_bipush (v := 20) hx hb dX5_greatestOf_5 (by decide) ?_
      refine g_icmp_ge (tgt := 48) hx hb dX5_greatestOf_7 (by decide) h (fun h => ?_) (fun h => ?_)
      · refine lv_iload_n hx hb dX5_greatestOf_48 rfl (lv_at hl 2 rfl) ?_
        exact g_retRI hx hb hr hlk hS h dX5_greatestOf_49
      · refine lv_aload_n hx hb dX5_greatestOf_10 rfl (lv_at hl 0 rfl) ?_
        refine lv_iload_n hx hb dX5_greatestOf_11 rfl (lv_at hl 3 rfl) ?_
        obtain ⟨x3, hc12, h⟩ := k_b1_e h
        refine g_callRI_V (As := [.int x2]) (rest := []) hC (mX5_maskNow l dC dI cyI cyC cyO ob a1 a2 a3 a4 a5 a6 a7 a8 v_thrown v_z v_saved v_savedMany v_spare v_buffer v_typed v_marksBlown v_rests v_begins v_orders v_orderMany v_spot v_wrong v_isShort v_before v_hash x2 hc12) q782 q783 q22 q75 q784 1 hdX5_maskNow ⟨Nat.le_of_ble_eq_true rfl, Nat.le_of_ble_eq_true rfl⟩ ⟨Nat.le_of_ble_eq_true rfl, Nat.le_of_ble_eq_true rfl⟩ rfl rfl hl.1 (Nat.le_of_ble_eq_true rfl) hP hK (va_recv hK hP (ci := 4) (q0 := 0) rfl rfl) hS dX5_greatestOf_12 (fun H locs hk hS => ?_)
        have hP := k_kept hP hk
        obtain ⟨x4, hc15, h⟩ := k_b1_e h
        refine g_callRI_S (As := [.int x3]) (rest := []) hC (mX5_valueIn l dC dI cyI cyC cyO x3 hc15) q812 q813 q75 q814 1 hdX5_valueIn ⟨Nat.le_of_ble_eq_true rfl, Nat.le_of_ble_eq_true rfl⟩ ⟨Nat.le_of_ble_eq_true rfl, Nat.le_of_ble_eq_true rfl⟩ rfl rfl hl.1 (Nat.le_of_ble_eq_true rfl) va_P_nil hK hS dX5_greatestOf_15 (fun H locs hk hS => ?_)
        have hP := k_kept hP hk
        refine lv_istore (lv' := [(4, .int x4), (0, .ref ob), (1, .int p1), (2, .int x1), (3, .int x2)]) hx hb dX5_greatestOf_18 hl (by decide) rfl (fun ls hl => ?_)
        refine lv_aload_n hx hb dX5_greatestOf_20 rfl (lv_at hl 1 rfl) ?_
        refine lv_iload_n hx hb dX5_greatestOf_21 rfl (lv_at hl 2 rfl) ?_
        refine lv_iload_n hx hb dX5_greatestOf_22 rfl (lv_at hl 4 rfl) ?_
        obtain ⟨x5, hc23, h⟩ := k_b1_e h
        refine g_callRI_V (As := [.int p1, .int x2]) (rest := []) hC (mX5_isRowOf l dC dI cyI cyC cyO ob a1 a2 a3 a4 a5 a6 a7 a8 v_thrown v_z v_saved v_savedMany v_spare v_buffer v_typed v_marksBlown v_rests v_begins v_orders v_orderMany v_spot v_wrong v_isShort v_before v_hash p1 x2 hc23) q939 q940 q50 q75 q941 2 hdX5_isRowOf ⟨Nat.le_of_ble_eq_true rfl, Nat.le_of_ble_eq_true rfl⟩ ⟨Nat.le_of_ble_eq_true rfl, Nat.le_of_ble_eq_true rfl⟩ rfl rfl hl.1 (Nat.le_of_ble_eq_true rfl) hP hK (va_recv hK hP (ci := 4) (q0 := 0) rfl rfl) hS dX5_greatestOf_23 (fun H locs hk hS => ?_)
        have hP := k_kept hP hk
        obtain ⟨K41, hK41, h⟩ := k_j1_e h
        have J41 : ∀ (x6 : Int32) (H : Heap) (locs : List Loc) (ls : Array Slot), K41 x6 = some r → va_P (dC, dI) vwCl (wX5 cyI cyC ob a1 a2 a3 a4 a5 a6 a7 a8 v_thrown v_z v_saved v_savedMany v_spare v_buffer v_typed v_marksBlown v_rests v_begins v_orders v_orderMany v_spot v_wrong v_isShort v_before v_hash) H → va_S kF s.heap H locs → lv_has ls 5 [(0, .ref ob), (1, .int p1), (3, .int x2)] → W p l e (k_rm 7 162) s m [.ref ob, .int p1].toArray below meth c H locs 0 0 (MQ below (qRI r) [.ref ob, .int p1].toArray s 0 0 kF) (F0 m 41 ls [.int x6]) := by
          intro x6 H locs ls h hP hS hl
          have h := k_a1 hK41 h
          refine lv_istore_n (lv' := [(2, .int x6), (0, .ref ob), (1, .int p1), (3, .int x2)]) hx hb dX5_greatestOf_41 rfl hl (by decide) rfl (fun ls hl => ?_)
          refine g_iinc (dv := 1) hx hb dX5_greatestOf_42 hl (j := 3) rfl (by decide) (by decide) h (fun x7 ls h hl => ?_)
          have hl : lv_has ls 5 [(3, .int x7), (2, .int x6), (0, .ref ob), (1, .int p1)] := hl
          refine lv_goto (tgt := 4) hx hb dX5_greatestOf_45 (by decide) ?_
          exact ih4 x6 x7 _ _ _ h hP hS (lv_sub hl [2, 3, 1, 0] rfl)
        refine g_if_eq (tgt := 40) hx hb dX5_greatestOf_26 (by decide) h (fun h => ?_) (fun h => ?_)
        · refine lv_iload_n hx hb dX5_greatestOf_40 rfl (lv_at hl 3 rfl) ?_
          exact J41 x1 _ _ _ h hP hS (lv_sub hl [1, 2, 4] rfl)
        · refine lv_iload hx hb dX5_greatestOf_29 (lv_at hl 0 rfl) ?_
          refine lv_iload_n hx hb dX5_greatestOf_31 rfl (lv_at hl 3 rfl) ?_
          refine g_icmp_le (tgt := 40) hx hb dX5_greatestOf_32 (by decide) h (fun h => ?_) (fun h => ?_)
          · refine lv_iload_n hx hb dX5_greatestOf_40 rfl (lv_at hl 3 rfl) ?_
            exact J41 x1 _ _ _ h hP hS (lv_sub hl [1, 2, 4] rfl)
          · refine lv_iload hx hb dX5_greatestOf_35 (lv_at hl 0 rfl) ?_
            refine lv_goto (tgt := 41) hx hb dX5_greatestOf_37 (by decide) ?_
            exact J41 x4 _ _ _ h hP hS (lv_sub hl [1, 2, 4] rfl)
  exact L4 5000 ((-1)) 0 _ _ _ h hP hS (lv_sub hl [2, 3, 1, 0] rfl)
def fX5_agreeing_s18 (v_z : Nat → Int32) (p1 : Int32) (x2 : Int32) (rec18 : Int32 → Int32 → Option (Int32)) (x3 : Int32) (x4 : Int32) : Option (Int32) :=
  k_if (3 ≤ x4)
  (
    some x3)
  (
    k_ck (0 : Int32) 327 <| k_let (v_z (0 : Int32).toNatClampNeg) fun (x5 : Int32) =>
    k_let (x5 + x4) fun (x6 : Int32) =>
    k_b1 (fX5_valueOf v_z p1 x6 0) fun (x7 : Int32) =>
    k_j1
    (fun (x8 : Int32) =>
      k_let (x3 + x8) fun (x9 : Int32) =>
      k_let (x4 + 1) fun (x10 : Int32) =>
      rec18 x9 x10)
    (fun K49 =>
    k_if (x7 = x2)
    (
      K49 1)
    (
      K49 0)))
def fX5_agreeing (v_z : Nat → Int32) (p1 : Int32) : Option (Int32) :=
  k_ck (0 : Int32) 327 <| k_let (v_z (0 : Int32).toNatClampNeg) fun (x1 : Int32) =>
  k_b1 (fX5_valueOf v_z p1 x1 1) fun (x2 : Int32) =>
  k_l2 (fX5_agreeing_s18 v_z p1 x2) 5000 0 0
theorem hdX5_agreeing : yX5_agreeing.cls = RX5 ∧ yX5_agreeing.cls ≠ "java/lang/invoke/MethodHandle" ∧ yX5_agreeing.cls ≠ "java/lang/invoke/VarHandle" ∧ (parseMethodDescriptor yX5_agreeing.desc).map (fun d => d.parameters.length) = some 1 := by decide +kernel
set_option maxRecDepth 100000 in
set_option maxHeartbeats 4000000 in
theorem mX5_agreeing (l : Launch) (dC : Nat → ClassId) (dI : Nat → Nat → Nat) (cyI cyC cyO : ClassId) (ob a1 a2 a3 a4 a5 a6 a7 a8 : Nat) (v_thrown : Int32) (v_z : Nat → Int32) (v_saved : Nat → Int32) (v_savedMany : Int32) (v_spare : Nat → Int32) (v_buffer : Nat → Int32) (v_typed : Int32) (v_marksBlown : Int32) (v_rests : Nat → Int32) (v_begins : Nat → Int32) (v_orders : Nat → Int32) (v_orderMany : Int32) (v_spot : Int32) (v_wrong : Int32) (v_isShort : Int32) (v_before : Nat → Int32) (v_hash : Int64) (p1 : Int32) {r : Int32} (hf : fX5_agreeing v_z p1 = some r) : MetRI l yX5_agreeing cX5_agreeing 5 (some .int) 7 167 [.ref ob, .int p1] (dC, dI) (tyS cyI cyC cyO) (wX5 cyI cyC ob a1 a2 a3 a4 a5 a6 a7 a8 v_thrown v_z v_saved v_savedMany v_spare v_buffer v_typed v_marksBlown v_rests v_begins v_orders v_orderMany v_spot v_wrong v_isShort v_before v_hash) r := by
  refine metRI_of (by decide) (Nat.le_of_ble_eq_true rfl) ?_
  intro p e s m below meth c ls hC hr hlk hP hK hl
  have hC : CallFix p m c cX5_agreeing 5 s [.ref ob, .int p1].toArray wA RX5 := hC
  obtain ⟨hx, hb, hml, hown, hts⟩ := id hC
  have hS : va_S kF s.heap s.heap [] := va_S.rf
  have hl : lv_has ls 5 [(0, .ref ob), (1, .int p1)] := hl
  have h := hf
  unfold fX5_agreeing at h
  obtain ⟨H, hH⟩ : ∃ H, H = s.heap := ⟨_, rfl⟩
  obtain ⟨locs, hlo⟩ : ∃ locs : List Loc, locs = [] := ⟨_, rfl⟩
  rw [← hH] at hP
  rw [← hlo] at hS
  have hS : va_S kF s.heap H locs := by rw [hH]; exact hS
  show W p l e (k_rm 7 167) s m [.ref ob, .int p1].toArray below meth c s.heap [] 0 0 _ _
  rw [← hlo, ← hH]
  refine lv_aload_n hx hb dX5_agreeing_0 rfl (lv_at hl 0 rfl) ?_
  refine lv_iload_n hx hb dX5_agreeing_1 rfl (lv_at hl 1 rfl) ?_
  refine lv_aload_n hx hb dX5_agreeing_2 rfl (lv_at hl 0 rfl) ?_
  refine va_get (D := (dC, dI)) (ci := 4) (v := .ref a1) (C := RX5) (T := TX5) (N := 17) hx hb hts iaX5 hown hK hP 0 rfl rfl 1 (by decide) (hts _ q717) (fun _ h9 => h9) rfl dX5_agreeing_3 ?_
  refine lv_iconst (v := 0) hx hb dX5_agreeing_6 (by decide) ?_
  refine g_iald hx hb hK hP 1 0 rfl rfl dX5_agreeing_7 h (fun x1 h => ?_)
  refine lv_iconst (v := 1) hx hb dX5_agreeing_8 (by decide) ?_
  obtain ⟨x2, hc9, h⟩ := k_b1_e h
  refine g_callRI_V (As := [.int p1, .int x1, .int 1]) (rest := []) hC (mX5_valueOf l dC dI cyI cyC cyO ob a1 a2 a3 a4 a5 a6 a7 a8 v_thrown v_z v_saved v_savedMany v_spare v_buffer v_typed v_marksBlown v_rests v_begins v_orders v_orderMany v_spot v_wrong v_isShort v_before v_hash p1 x1 1 hc9) q930 q931 q47 q75 q932 3 hdX5_valueOf ⟨Nat.le_of_ble_eq_true rfl, Nat.le_of_ble_eq_true rfl⟩ ⟨Nat.le_of_ble_eq_true rfl, Nat.le_of_ble_eq_true rfl⟩ rfl rfl hl.1 (Nat.le_of_ble_eq_true rfl) hP hK (va_recv hK hP (ci := 4) (q0 := 0) rfl rfl) hS dX5_agreeing_9 (fun H locs hk hS => ?_)
  have hP := k_kept hP hk
  refine lv_istore_n (lv' := [(2, .int x2), (0, .ref ob), (1, .int p1)]) hx hb dX5_agreeing_12 rfl hl (by decide) rfl (fun ls hl => ?_)
  refine lv_iconst (v := 0) hx hb dX5_agreeing_13 (by decide) ?_
  refine lv_istore_n (lv' := [(3, .int 0), (2, .int x2), (0, .ref ob), (1, .int p1)]) hx hb dX5_agreeing_14 rfl hl (by decide) rfl (fun ls hl => ?_)
  refine lv_iconst (v := 0) hx hb dX5_agreeing_15 (by decide) ?_
  refine lv_istore (lv' := [(4, .int 0), (3, .int 0), (2, .int x2), (0, .ref ob), (1, .int p1)]) hx hb dX5_agreeing_16 hl (by decide) rfl (fun ls hl => ?_)
  obtain ⟨S18, hS18⟩ : ∃ z, z = (fX5_agreeing_s18 v_z p1 x2) := ⟨_, rfl⟩
  rw [← hS18] at h
  have L18 : ∀ (n : Nat) (x3 : Int32) (x4 : Int32) (H : Heap) (locs : List Loc) (ls : Array Slot), k_l2 S18 n x3 x4 = some r → va_P (dC, dI) vwCl (wX5 cyI cyC ob a1 a2 a3 a4 a5 a6 a7 a8 v_thrown v_z v_saved v_savedMany v_spare v_buffer v_typed v_marksBlown v_rests v_begins v_orders v_orderMany v_spot v_wrong v_isShort v_before v_hash) H → va_S kF s.heap H locs → lv_has ls 5 [(0, .ref ob), (1, .int p1), (2, .int x2), (3, .int x3), (4, .int x4)] → W p l e (k_rm 7 167) s m [.ref ob, .int p1].toArray below meth c H locs 0 0 (MQ below (qRI r) [.ref ob, .int p1].toArray s 0 0 kF) (F0 m 18 ls []) := by
    intro n
    induction n with
    | zero =>
      intro x3 x4 H locs ls h
      exact (k_l2_0 h).elim
    | succ n ih18 =>
      intro x3 x4 H locs ls h hP hS hl
      have h := k_l2_s h
      have h := k_a3 hS18 h
      unfold fX5_agreeing_s18 at h
      refine lv_iload hx hb dX5_agreeing_18 (lv_at hl 4 rfl) ?_
      refine lv_iconst (v := 3) hx hb dX5_agreeing_20 (by decide) ?_
      refine g_icmp_ge (tgt := 57) hx hb dX5_agreeing_21 (by decide) h (fun h => ?_) (fun h => ?_)
      · refine lv_iload_n hx hb dX5_agreeing_57 rfl (lv_at hl 3 rfl) ?_
        exact g_retRI hx hb hr hlk hS h dX5_agreeing_58
      · refine lv_iload_n hx hb dX5_agreeing_24 rfl (lv_at hl 3 rfl) ?_
        refine lv_aload_n hx hb dX5_agreeing_25 rfl (lv_at hl 0 rfl) ?_
        refine lv_iload_n hx hb dX5_agreeing_26 rfl (lv_at hl 1 rfl) ?_
        refine lv_aload_n hx hb dX5_agreeing_27 rfl (lv_at hl 0 rfl) ?_
        refine va_get (D := (dC, dI)) (ci := 4) (v := .ref a1) (C := RX5) (T := TX5) (N := 17) hx hb hts iaX5 hown hK hP 0 rfl rfl 1 (by decide) (hts _ q717) (fun _ h9 => h9) rfl dX5_agreeing_28 ?_
        refine lv_iconst (v := 0) hx hb dX5_agreeing_31 (by decide) ?_
        refine g_iald hx hb hK hP 1 0 rfl rfl dX5_agreeing_32 h (fun x5 h => ?_)
        refine lv_iload hx hb dX5_agreeing_33 (lv_at hl 4 rfl) ?_
        refine g_iadd hx hb dX5_agreeing_35 h (fun x6 h => ?_)
        refine lv_iconst (v := 0) hx hb dX5_agreeing_36 (by decide) ?_
        obtain ⟨x7, hc37, h⟩ := k_b1_e h
        refine g_callRI_V (As := [.int p1, .int x6, .int 0]) (rest := [.int x3]) hC (mX5_valueOf l dC dI cyI cyC cyO ob a1 a2 a3 a4 a5 a6 a7 a8 v_thrown v_z v_saved v_savedMany v_spare v_buffer v_typed v_marksBlown v_rests v_begins v_orders v_orderMany v_spot v_wrong v_isShort v_before v_hash p1 x6 0 hc37) q930 q931 q47 q75 q932 3 hdX5_valueOf ⟨Nat.le_of_ble_eq_true rfl, Nat.le_of_ble_eq_true rfl⟩ ⟨Nat.le_of_ble_eq_true rfl, Nat.le_of_ble_eq_true rfl⟩ rfl rfl hl.1 (Nat.le_of_ble_eq_true rfl) hP hK (va_recv hK hP (ci := 4) (q0 := 0) rfl rfl) hS dX5_agreeing_37 (fun H locs hk hS => ?_)
        have hP := k_kept hP hk
        refine lv_iload_n hx hb dX5_agreeing_40 rfl (lv_at hl 2 rfl) ?_
        obtain ⟨K49, hK49, h⟩ := k_j1_e h
        have J49 : ∀ (x8 : Int32) (H : Heap) (locs : List Loc) (ls : Array Slot), K49 x8 = some r → va_P (dC, dI) vwCl (wX5 cyI cyC ob a1 a2 a3 a4 a5 a6 a7 a8 v_thrown v_z v_saved v_savedMany v_spare v_buffer v_typed v_marksBlown v_rests v_begins v_orders v_orderMany v_spot v_wrong v_isShort v_before v_hash) H → va_S kF s.heap H locs → lv_has ls 5 [(0, .ref ob), (1, .int p1), (2, .int x2), (4, .int x4)] → W p l e (k_rm 7 167) s m [.ref ob, .int p1].toArray below meth c H locs 0 0 (MQ below (qRI r) [.ref ob, .int p1].toArray s 0 0 kF) (F0 m 49 ls [.int x8, .int x3]) := by
          intro x8 H locs ls h hP hS hl
          have h := k_a1 hK49 h
          refine g_iadd hx hb dX5_agreeing_49 h (fun x9 h => ?_)
          refine lv_istore_n (lv' := [(3, .int x9), (0, .ref ob), (1, .int p1), (2, .int x2), (4, .int x4)]) hx hb dX5_agreeing_50 rfl hl (by decide) rfl (fun ls hl => ?_)
          refine g_iinc (dv := 1) hx hb dX5_agreeing_51 hl (j := 4) rfl (by decide) (by decide) h (fun x10 ls h hl => ?_)
          have hl : lv_has ls 5 [(4, .int x10), (3, .int x9), (0, .ref ob), (1, .int p1), (2, .int x2)] := hl
          refine lv_goto (tgt := 18) hx hb dX5_agreeing_54 (by decide) ?_
          exact ih18 x9 x10 _ _ _ h hP hS (lv_sub hl [2, 3, 4, 1, 0] rfl)
        refine g_icmp_ne (tgt := 48) hx hb dX5_agreeing_41 (by decide) h (fun h => ?_) (fun h => ?_)
        · refine lv_iconst (v := 0) hx hb dX5_agreeing_48 (by decide) ?_
          exact J49 0 _ _ _ h hP hS (lv_sub hl [0, 1, 2, 4] rfl)
        · refine lv_iconst (v := 1) hx hb dX5_agreeing_44 (by decide) ?_
          refine lv_goto (tgt := 49) hx hb dX5_agreeing_45 (by decide) ?_
          exact J49 1 _ _ _ h hP hS (lv_sub hl [0, 1, 2, 4] rfl)
  exact L18 5000 0 0 _ _ _ h hP hS (lv_sub hl [3, 4, 2, 1, 0] rfl)
def fX5_toldKey (v_z : Nat → Int32) (p1 : Int32) (p2 : Int32) : Option (Int32) :=
  k_if (p2 = 0)
  (
    k_b1 (fX5_valueNow v_z p1) fun (x1 : Int32) =>
    some x1)
  (
    k_if (p2 = 1)
    (
      k_ck (0 : Int32) 327 <| k_let (v_z (0 : Int32).toNatClampNeg) fun (x2 : Int32) =>
      k_b1 (fX5_isThriceNow v_z) fun (x3 : Int32) =>
      k_b1 (fX5_rowOf v_z p1 x2 x3) fun (x4 : Int32) =>
      some x4)
    (
      k_if (p2 = 2)
      (
        k_b1 (fX5_entriesOf v_z p1) fun (x5 : Int32) =>
        some x5)
      (
        k_if (p2 = 3)
        (
          k_b1 (fX5_rowsOf v_z p1) fun (x6 : Int32) =>
          some x6)
        (
          k_if (p2 = 4)
          (
            k_b1 (fX5_greatestOf v_z p1) fun (x7 : Int32) =>
            some x7)
          (
            k_b1 (fX5_agreeing v_z p1) fun (x8 : Int32) =>
            some x8)))))
theorem hdX5_toldKey : yX5_toldKey.cls = RX5 ∧ yX5_toldKey.cls ≠ "java/lang/invoke/MethodHandle" ∧ yX5_toldKey.cls ≠ "java/lang/invoke/VarHandle" ∧ (parseMethodDescriptor yX5_toldKey.desc).map (fun d => d.parameters.length) = some 2 := by decide +kernel
set_option maxRecDepth 100000 in
set_option maxHeartbeats 4000000 in
theorem mX5_toldKey (l : Launch) (dC : Nat → ClassId) (dI : Nat → Nat → Nat) (cyI cyC cyO : ClassId) (ob a1 a2 a3 a4 a5 a6 a7 a8 : Nat) (v_thrown : Int32) (v_z : Nat → Int32) (v_saved : Nat → Int32) (v_savedMany : Int32) (v_spare : Nat → Int32) (v_buffer : Nat → Int32) (v_typed : Int32) (v_marksBlown : Int32) (v_rests : Nat → Int32) (v_begins : Nat → Int32) (v_orders : Nat → Int32) (v_orderMany : Int32) (v_spot : Int32) (v_wrong : Int32) (v_isShort : Int32) (v_before : Nat → Int32) (v_hash : Int64) (p1 : Int32) (p2 : Int32) {r : Int32} (hf : fX5_toldKey v_z p1 p2 = some r) : MetRI l yX5_toldKey cX5_toldKey 3 (some .int) 8 191 [.ref ob, .int p1, .int p2] (dC, dI) (tyS cyI cyC cyO) (wX5 cyI cyC ob a1 a2 a3 a4 a5 a6 a7 a8 v_thrown v_z v_saved v_savedMany v_spare v_buffer v_typed v_marksBlown v_rests v_begins v_orders v_orderMany v_spot v_wrong v_isShort v_before v_hash) r := by
  refine metRI_of (by decide) (Nat.le_of_ble_eq_true rfl) ?_
  intro p e s m below meth c ls hC hr hlk hP hK hl
  have hC : CallFix p m c cX5_toldKey 3 s [.ref ob, .int p1, .int p2].toArray wA RX5 := hC
  obtain ⟨hx, hb, hml, hown, hts⟩ := id hC
  have hS : va_S kF s.heap s.heap [] := va_S.rf
  have hl : lv_has ls 3 [(0, .ref ob), (1, .int p1), (2, .int p2)] := hl
  have h := hf
  unfold fX5_toldKey at h
  obtain ⟨H, hH⟩ : ∃ H, H = s.heap := ⟨_, rfl⟩
  obtain ⟨locs, hlo⟩ : ∃ locs : List Loc, locs = [] := ⟨_, rfl⟩
  rw [← hH] at hP
  rw [← hlo] at hS
  have hS : va_S kF s.heap H locs := by rw [hH]; exact hS
  show W p l e (k_rm 8 191) s m [.ref ob, .int p1, .int p2].toArray below meth c s.heap [] 0 0 _ _
  rw [← hlo, ← hH]
  refine lv_iload_n hx hb dX5_toldKey_0 rfl (lv_at hl 2 rfl) ?_
  refine g_arm (v := 0) (off := 35) (tgt := 36) hx hb dX5_toldKey_1 (by decide) (by decide) (by decide +kernel) (by decide) h (fun _ h => ?_) (fun n0 h => ?_)
  · refine lv_aload_n hx hb dX5_toldKey_36 rfl (lv_at hl 0 rfl) ?_
    refine lv_iload_n hx hb dX5_toldKey_37 rfl (lv_at hl 1 rfl) ?_
    obtain ⟨x1, hc38, h⟩ := k_b1_e h
    refine g_callRI_V (As := [.int p1]) (rest := []) hC (mX5_valueNow l dC dI cyI cyC cyO ob a1 a2 a3 a4 a5 a6 a7 a8 v_thrown v_z v_saved v_savedMany v_spare v_buffer v_typed v_marksBlown v_rests v_begins v_orders v_orderMany v_spot v_wrong v_isShort v_before v_hash p1 hc38) q927 q928 q46 q75 q929 1 hdX5_valueNow ⟨Nat.le_of_ble_eq_true rfl, Nat.le_of_ble_eq_true rfl⟩ ⟨Nat.le_of_ble_eq_true rfl, Nat.le_of_ble_eq_true rfl⟩ rfl rfl hl.1 (Nat.le_of_ble_eq_true rfl) hP hK (va_recv hK hP (ci := 4) (q0 := 0) rfl rfl) hS dX5_toldKey_38 (fun H locs hk hS => ?_)
    have hP := k_kept hP hk
    exact g_retRI hx hb hr hlk hS h dX5_toldKey_41
  · skip
    refine g_arm (v := 1) (off := 41) (tgt := 42) hx hb dX5_toldKey_1 (by decide) (by decide) (by decide +kernel) (by decide) h (fun _ h => ?_) (fun n1 h => ?_)
    · refine lv_aload_n hx hb dX5_toldKey_42 rfl (lv_at hl 0 rfl) ?_
      refine lv_iload_n hx hb dX5_toldKey_43 rfl (lv_at hl 1 rfl) ?_
      refine lv_aload_n hx hb dX5_toldKey_44 rfl (lv_at hl 0 rfl) ?_
      refine va_get (D := (dC, dI)) (ci := 4) (v := .ref a1) (C := RX5) (T := TX5) (N := 17) hx hb hts iaX5 hown hK hP 0 rfl rfl 1 (by decide) (hts _ q717) (fun _ h9 => h9) rfl dX5_toldKey_45 ?_
      refine lv_iconst (v := 0) hx hb dX5_toldKey_48 (by decide) ?_
      refine g_iald hx hb hK hP 1 0 rfl rfl dX5_toldKey_49 h (fun x2 h => ?_)
      refine lv_aload_n hx hb dX5_toldKey_50 rfl (lv_at hl 0 rfl) ?_
      obtain ⟨x3, hc51, h⟩ := k_b1_e h
      refine g_callRI_V (As := []) (rest := [.int x2, .int p1, .ref ob]) hC (mX5_isThriceNow l dC dI cyI cyC cyO ob a1 a2 a3 a4 a5 a6 a7 a8 v_thrown v_z v_saved v_savedMany v_spare v_buffer v_typed v_marksBlown v_rests v_begins v_orders v_orderMany v_spot v_wrong v_isShort v_before v_hash hc51) q785 q786 q23 q75 q787 0 hdX5_isThriceNow ⟨Nat.le_of_ble_eq_true rfl, Nat.le_of_ble_eq_true rfl⟩ ⟨Nat.le_of_ble_eq_true rfl, Nat.le_of_ble_eq_true rfl⟩ rfl rfl hl.1 (Nat.le_of_ble_eq_true rfl) hP hK (va_recv hK hP (ci := 4) (q0 := 0) rfl rfl) hS dX5_toldKey_51 (fun H locs hk hS => ?_)
      have hP := k_kept hP hk
      obtain ⟨x4, hc54, h⟩ := k_b1_e h
      refine g_callRI_V (As := [.int p1, .int x2, .int x3]) (rest := []) hC (mX5_rowOf l dC dI cyI cyC cyO ob a1 a2 a3 a4 a5 a6 a7 a8 v_thrown v_z v_saved v_savedMany v_spare v_buffer v_typed v_marksBlown v_rests v_begins v_orders v_orderMany v_spot v_wrong v_isShort v_before v_hash p1 x2 x3 hc54) q933 q934 q48 q75 q935 3 hdX5_rowOf ⟨Nat.le_of_ble_eq_true rfl, Nat.le_of_ble_eq_true rfl⟩ ⟨Nat.le_of_ble_eq_true rfl, Nat.le_of_ble_eq_true rfl⟩ rfl rfl hl.1 (Nat.le_of_ble_eq_true rfl) hP hK (va_recv hK hP (ci := 4) (q0 := 0) rfl rfl) hS dX5_toldKey_54 (fun H locs hk hS => ?_)
      have hP := k_kept hP hk
      exact g_retRI hx hb hr hlk hS h dX5_toldKey_57
    · skip
      refine g_arm (v := 2) (off := 57) (tgt := 58) hx hb dX5_toldKey_1 (by decide) (by decide) (by decide +kernel) (by decide) h (fun _ h => ?_) (fun n2 h => ?_)
      · refine lv_aload_n hx hb dX5_toldKey_58 rfl (lv_at hl 0 rfl) ?_
        refine lv_iload_n hx hb dX5_toldKey_59 rfl (lv_at hl 1 rfl) ?_
        obtain ⟨x5, hc60, h⟩ := k_b1_e h
        refine g_callRI_V (As := [.int p1]) (rest := []) hC (mX5_entriesOf l dC dI cyI cyC cyO ob a1 a2 a3 a4 a5 a6 a7 a8 v_thrown v_z v_saved v_savedMany v_spare v_buffer v_typed v_marksBlown v_rests v_begins v_orders v_orderMany v_spot v_wrong v_isShort v_before v_hash p1 hc60) q936 q937 q49 q75 q938 1 hdX5_entriesOf ⟨Nat.le_of_ble_eq_true rfl, Nat.le_of_ble_eq_true rfl⟩ ⟨Nat.le_of_ble_eq_true rfl, Nat.le_of_ble_eq_true rfl⟩ rfl rfl hl.1 (Nat.le_of_ble_eq_true rfl) hP hK (va_recv hK hP (ci := 4) (q0 := 0) rfl rfl) hS dX5_toldKey_60 (fun H locs hk hS => ?_)
        have hP := k_kept hP hk
        exact g_retRI hx hb hr hlk hS h dX5_toldKey_63
      · skip
        refine g_arm (v := 3) (off := 63) (tgt := 64) hx hb dX5_toldKey_1 (by decide) (by decide) (by decide +kernel) (by decide) h (fun _ h => ?_) (fun n3 h => ?_)
        · refine lv_aload_n hx hb dX5_toldKey_64 rfl (lv_at hl 0 rfl) ?_
          refine lv_iload_n hx hb dX5_toldKey_65 rfl (lv_at hl 1 rfl) ?_
          obtain ⟨x6, hc66, h⟩ := k_b1_e h
          refine g_callRI_V (As := [.int p1]) (rest := []) hC (mX5_rowsOf l dC dI cyI cyC cyO ob a1 a2 a3 a4 a5 a6 a7 a8 v_thrown v_z v_saved v_savedMany v_spare v_buffer v_typed v_marksBlown v_rests v_begins v_orders v_orderMany v_spot v_wrong v_isShort v_before v_hash p1 hc66) q942 q943 q51 q75 q944 1 hdX5_rowsOf ⟨Nat.le_of_ble_eq_true rfl, Nat.le_of_ble_eq_true rfl⟩ ⟨Nat.le_of_ble_eq_true rfl, Nat.le_of_ble_eq_true rfl⟩ rfl rfl hl.1 (Nat.le_of_ble_eq_true rfl) hP hK (va_recv hK hP (ci := 4) (q0 := 0) rfl rfl) hS dX5_toldKey_66 (fun H locs hk hS => ?_)
          have hP := k_kept hP hk
          exact g_retRI hx hb hr hlk hS h dX5_toldKey_69
        · skip
          refine g_arm (v := 4) (off := 69) (tgt := 70) hx hb dX5_toldKey_1 (by decide) (by decide) (by decide +kernel) (by decide) h (fun _ h => ?_) (fun n4 h => ?_)
          · refine lv_aload_n hx hb dX5_toldKey_70 rfl (lv_at hl 0 rfl) ?_
            refine lv_iload_n hx hb dX5_toldKey_71 rfl (lv_at hl 1 rfl) ?_
            obtain ⟨x7, hc72, h⟩ := k_b1_e h
            refine g_callRI_V (As := [.int p1]) (rest := []) hC (mX5_greatestOf l dC dI cyI cyC cyO ob a1 a2 a3 a4 a5 a6 a7 a8 v_thrown v_z v_saved v_savedMany v_spare v_buffer v_typed v_marksBlown v_rests v_begins v_orders v_orderMany v_spot v_wrong v_isShort v_before v_hash p1 hc72) q945 q946 q52 q75 q947 1 hdX5_greatestOf ⟨Nat.le_of_ble_eq_true rfl, Nat.le_of_ble_eq_true rfl⟩ ⟨Nat.le_of_ble_eq_true rfl, Nat.le_of_ble_eq_true rfl⟩ rfl rfl hl.1 (Nat.le_of_ble_eq_true rfl) hP hK (va_recv hK hP (ci := 4) (q0 := 0) rfl rfl) hS dX5_toldKey_72 (fun H locs hk hS => ?_)
            have hP := k_kept hP hk
            exact g_retRI hx hb hr hlk hS h dX5_toldKey_75
          · skip
            refine lv_tableOut (tgt := 76) hx hb dX5_toldKey_1 (by have z0 := g_ne (z := 0) (by decide) n0; have z1 := g_ne (z := 1) (by decide) n1; have z2 := g_ne (z := 2) (by decide) n2; have z3 := g_ne (z := 3) (by decide) n3; have z4 := g_ne (z := 4) (by decide) n4; omega) (by decide) ?_
            refine lv_aload_n hx hb dX5_toldKey_76 rfl (lv_at hl 0 rfl) ?_
            refine lv_iload_n hx hb dX5_toldKey_77 rfl (lv_at hl 1 rfl) ?_
            obtain ⟨x8, hc78, h⟩ := k_b1_e h
            refine g_callRI_V (As := [.int p1]) (rest := []) hC (mX5_agreeing l dC dI cyI cyC cyO ob a1 a2 a3 a4 a5 a6 a7 a8 v_thrown v_z v_saved v_savedMany v_spare v_buffer v_typed v_marksBlown v_rests v_begins v_orders v_orderMany v_spot v_wrong v_isShort v_before v_hash p1 hc78) q948 q949 q53 q75 q950 1 hdX5_agreeing ⟨Nat.le_of_ble_eq_true rfl, Nat.le_of_ble_eq_true rfl⟩ ⟨Nat.le_of_ble_eq_true rfl, Nat.le_of_ble_eq_true rfl⟩ rfl rfl hl.1 (Nat.le_of_ble_eq_true rfl) hP hK (va_recv hK hP (ci := 4) (q0 := 0) rfl rfl) hS dX5_toldKey_78 (fun H locs hk hS => ?_)
            have hP := k_kept hP hk
            exact g_retRI hx hb hr hlk hS h dX5_toldKey_81
def fX5_key (v_thrown : Int32) (v_z : Nat → Int32) (p1 : Int32) (p2 : Int32) : Option (Int32 × Int32) :=
  k_b1 (fX5_isKey p1) fun (x1 : Int32) =>
  k_j1
  (fun (x2 : Int32) =>
    k_if (x2 ≤ 0)
    (
      k_b1 (fX5_toldKey v_z p1 p2) fun (x3 : Int32) =>
      some (x3, x2))
    (
      some (0, x2)))
  (fun K22 =>
  k_if (x1 = 0)
  (
    K22 1)
  (
    k_b1 (fX5_in p2 0 5) fun (x4 : Int32) =>
    k_if (x4 = 0)
    (
      K22 1)
    (
      K22 0)))
theorem hdX5_key : yX5_key.cls = RX5 ∧ yX5_key.cls ≠ "java/lang/invoke/MethodHandle" ∧ yX5_key.cls ≠ "java/lang/invoke/VarHandle" ∧ (parseMethodDescriptor yX5_key.desc).map (fun d => d.parameters.length) = some 2 := by decide +kernel
set_option maxRecDepth 100000 in
set_option maxHeartbeats 4000000 in
theorem mX5_key (l : Launch) (dC : Nat → ClassId) (dI : Nat → Nat → Nat) (cyI cyC cyO : ClassId) (ob a1 a2 a3 a4 a5 a6 a7 a8 : Nat) (v_thrown : Int32) (v_z : Nat → Int32) (v_saved : Nat → Int32) (v_savedMany : Int32) (v_spare : Nat → Int32) (v_buffer : Nat → Int32) (v_typed : Int32) (v_marksBlown : Int32) (v_rests : Nat → Int32) (v_begins : Nat → Int32) (v_orders : Nat → Int32) (v_orderMany : Int32) (v_spot : Int32) (v_wrong : Int32) (v_isShort : Int32) (v_before : Nat → Int32) (v_hash : Int64) (p1 : Int32) (p2 : Int32) {r : Int32} {r_thrown : Int32} (hf : fX5_key v_thrown v_z p1 p2 = some (r, r_thrown)) : MetMI l yX5_key cX5_key 3 (some .int) 9 213 [.ref ob, .int p1, .int p2] (dC, dI) (tyS cyI cyC cyO) (wX5 cyI cyC ob a1 a2 a3 a4 a5 a6 a7 a8 v_thrown v_z v_saved v_savedMany v_spare v_buffer v_typed v_marksBlown v_rests v_begins v_orders v_orderMany v_spot v_wrong v_isShort v_before v_hash) (wX5 cyI cyC ob a1 a2 a3 a4 a5 a6 a7 a8 r_thrown v_z v_saved v_savedMany v_spare v_buffer v_typed v_marksBlown v_rests v_begins v_orders v_orderMany v_spot v_wrong v_isShort v_before v_hash) r := by
  refine metMI_of (by decide) (Nat.le_of_ble_eq_true rfl) ?_
  intro p e s m below meth c ls hC hr hlk hP hK hD hl
  have hC : CallFix p m c cX5_key 3 s [.ref ob, .int p1, .int p2].toArray wA RX5 := hC
  obtain ⟨hx, hb, hml, hown, hts⟩ := id hC
  have hS : va_S (k_A (wX5 cyI cyC ob a1 a2 a3 a4 a5 a6 a7 a8 v_thrown v_z v_saved v_savedMany v_spare v_buffer v_typed v_marksBlown v_rests v_begins v_orders v_orderMany v_spot v_wrong v_isShort v_before v_hash)) s.heap s.heap [] := va_S.rf
  have hl : lv_has ls 3 [(0, .ref ob), (1, .int p1), (2, .int p2)] := hl
  have h := hf
  unfold fX5_key at h
  obtain ⟨H, hH⟩ : ∃ H, H = s.heap := ⟨_, rfl⟩
  obtain ⟨locs, hlo⟩ : ∃ locs : List Loc, locs = [] := ⟨_, rfl⟩
  rw [← hH] at hP
  rw [← hlo] at hS
  have hS : va_S (k_A (wX5 cyI cyC ob a1 a2 a3 a4 a5 a6 a7 a8 v_thrown v_z v_saved v_savedMany v_spare v_buffer v_typed v_marksBlown v_rests v_begins v_orders v_orderMany v_spot v_wrong v_isShort v_before v_hash)) s.heap H locs := by rw [hH]; exact hS
  show W p l e (k_rm 9 213) s m [.ref ob, .int p1, .int p2].toArray below meth c s.heap [] 0 0 _ _
  rw [← hlo, ← hH]
  refine lv_aload_n hx hb dX5_key_0 rfl (lv_at hl 0 rfl) ?_
  refine lv_iload_n hx hb dX5_key_1 rfl (lv_at hl 1 rfl) ?_
  obtain ⟨x1, hc2, h⟩ := k_b1_e h
  refine g_callRI_S (As := [.int p1]) (rest := [.ref ob]) hC (mX5_isKey l dC dI cyI cyC cyO p1 hc2) q776 q777 q75 q778 1 hdX5_isKey ⟨Nat.le_of_ble_eq_true rfl, Nat.le_of_ble_eq_true rfl⟩ ⟨Nat.le_of_ble_eq_true rfl, Nat.le_of_ble_eq_true rfl⟩ rfl rfl hl.1 (Nat.le_of_ble_eq_true rfl) va_P_nil hK hS dX5_key_2 (fun H locs hk hS => ?_)
  have hP := k_kept hP hk
  obtain ⟨K22, hK22, h⟩ := k_j1_e h
  have J22 : ∀ (x2 : Int32) (H : Heap) (locs : List Loc) (ls : Array Slot), K22 x2 = some (r, r_thrown) → va_P (dC, dI) vwCl (wX5 cyI cyC ob a1 a2 a3 a4 a5 a6 a7 a8 v_thrown v_z v_saved v_savedMany v_spare v_buffer v_typed v_marksBlown v_rests v_begins v_orders v_orderMany v_spot v_wrong v_isShort v_before v_hash) H → va_S (k_A (wX5 cyI cyC ob a1 a2 a3 a4 a5 a6 a7 a8 v_thrown v_z v_saved v_savedMany v_spare v_buffer v_typed v_marksBlown v_rests v_begins v_orders v_orderMany v_spot v_wrong v_isShort v_before v_hash)) s.heap H locs → lv_has ls 3 [(0, .ref ob), (1, .int p1), (2, .int p2)] → W p l e (k_rm 9 213) s m [.ref ob, .int p1, .int p2].toArray below meth c H locs 0 0 (MQ below (qMI r (dC, dI) (wX5 cyI cyC ob a1 a2 a3 a4 a5 a6 a7 a8 v_thrown v_z v_saved v_savedMany v_spare v_buffer v_typed v_marksBlown v_rests v_begins v_orders v_orderMany v_spot v_wrong v_isShort v_before v_hash) (wX5 cyI cyC ob a1 a2 a3 a4 a5 a6 a7 a8 r_thrown v_z v_saved v_savedMany v_spare v_buffer v_typed v_marksBlown v_rests v_begins v_orders v_orderMany v_spot v_wrong v_isShort v_before v_hash)) [.ref ob, .int p1, .int p2].toArray s 0 0 (k_A (wX5 cyI cyC ob a1 a2 a3 a4 a5 a6 a7 a8 v_thrown v_z v_saved v_savedMany v_spare v_buffer v_typed v_marksBlown v_rests v_begins v_orders v_orderMany v_spot v_wrong v_isShort v_before v_hash))) (F0 m 22 ls [.int x2, .ref ob]) := by
    intro x2 H locs ls h hP hS hl
    have h := k_a1 hK22 h
    refine va_put (D := (dC, dI)) (ci := 4) (v := .int x2) (ty := .int) (C := RX5) (T := TX5) (N := 17) hx hb hts iaX5 tyX5 tyX5_ok nmX5 hown hK hP hD hS 0 rfl rfl 0 (by decide) (hts _ q716) (fun _ h9 => h9) rfl (by decide +kernel) rfl rfl (Nat.le_of_ble_eq_true rfl) dX5_key_22 (fun H locs hP _ hS => ?_)
    have hP : va_P (dC, dI) vwCl (wX5 cyI cyC ob a1 a2 a3 a4 a5 a6 a7 a8 x2 v_z v_saved v_savedMany v_spare v_buffer v_typed v_marksBlown v_rests v_begins v_orders v_orderMany v_spot v_wrong v_isShort v_before v_hash) H := hP
    have hD : va_D (k_A (wX5 cyI cyC ob a1 a2 a3 a4 a5 a6 a7 a8 v_thrown v_z v_saved v_savedMany v_spare v_buffer v_typed v_marksBlown v_rests v_begins v_orders v_orderMany v_spot v_wrong v_isShort v_before v_hash)) (wX5 cyI cyC ob a1 a2 a3 a4 a5 a6 a7 a8 x2 v_z v_saved v_savedMany v_spare v_buffer v_typed v_marksBlown v_rests v_begins v_orders v_orderMany v_spot v_wrong v_isShort v_before v_hash) := k_Dm hD rfl
    refine lv_aload_n hx hb dX5_key_25 rfl (lv_at hl 0 rfl) ?_
    refine va_get (D := (dC, dI)) (ci := 4) (v := .int x2) (C := RX5) (T := TX5) (N := 17) hx hb hts iaX5 hown hK hP 0 rfl rfl 0 (by decide) (hts _ q716) (fun _ h9 => h9) rfl dX5_key_26 ?_
    refine g_if_le (tgt := 36) hx hb dX5_key_29 (by decide) h (fun h => ?_) (fun h => ?_)
    · refine lv_aload_n hx hb dX5_key_36 rfl (lv_at hl 0 rfl) ?_
      refine lv_iload_n hx hb dX5_key_37 rfl (lv_at hl 1 rfl) ?_
      refine lv_iload_n hx hb dX5_key_38 rfl (lv_at hl 2 rfl) ?_
      obtain ⟨x3, hc39, h⟩ := k_b1_e h
      refine g_callRI_V (As := [.int p1, .int p2]) (rest := []) hC (mX5_toldKey l dC dI cyI cyC cyO ob a1 a2 a3 a4 a5 a6 a7 a8 x2 v_z v_saved v_savedMany v_spare v_buffer v_typed v_marksBlown v_rests v_begins v_orders v_orderMany v_spot v_wrong v_isShort v_before v_hash p1 p2 hc39) q924 q925 q45 q75 q926 2 hdX5_toldKey ⟨Nat.le_of_ble_eq_true rfl, Nat.le_of_ble_eq_true rfl⟩ ⟨Nat.le_of_ble_eq_true rfl, Nat.le_of_ble_eq_true rfl⟩ rfl rfl hl.1 (Nat.le_of_ble_eq_true rfl) hP hK (va_recv hK hP (ci := 4) (q0 := 0) rfl rfl) hS dX5_key_39 (fun H locs hk hS => ?_)
      have hP := k_kept hP hk
      obtain ⟨e0, e1⟩ := k_t2 h
      exact g_retMI hx hb hr hlk hS e0 (by rw [← e1]; exact hP) dX5_key_42
    · refine lv_iconst (v := 0) hx hb dX5_key_32 (by decide) ?_
      refine lv_goto (tgt := 42) hx hb dX5_key_33 (by decide) ?_
      obtain ⟨e0, e1⟩ := k_t2 h
      exact g_retMI hx hb hr hlk hS e0 (by rw [← e1]; exact hP) dX5_key_42
  refine g_if_eq (tgt := 21) hx hb dX5_key_5 (by decide) h (fun h => ?_) (fun h => ?_)
  · refine lv_iconst (v := 1) hx hb dX5_key_21 (by decide) ?_
    exact J22 1 _ _ _ h hP hS (lv_sub hl [0, 1, 2] rfl)
  · refine lv_iload_n hx hb dX5_key_8 rfl (lv_at hl 2 rfl) ?_
    refine lv_iconst (v := 0) hx hb dX5_key_9 (by decide) ?_
    refine lv_iconst (v := 5) hx hb dX5_key_10 (by decide) ?_
    obtain ⟨x4, hc11, h⟩ := k_b1_e h
    refine g_callRI_S (As := [.int p2, .int 0, .int 5]) (rest := [.ref ob]) hC (mX5_in l dC dI cyI cyC cyO p2 0 5 hc11) q748 q749 q75 q750 3 hdX5_in ⟨Nat.le_of_ble_eq_true rfl, Nat.le_of_ble_eq_true rfl⟩ ⟨Nat.le_of_ble_eq_true rfl, Nat.le_of_ble_eq_true rfl⟩ rfl rfl hl.1 (Nat.le_of_ble_eq_true rfl) va_P_nil hK hS dX5_key_11 (fun H locs hk hS => ?_)
    have hP := k_kept hP hk
    refine g_if_eq (tgt := 21) hx hb dX5_key_14 (by decide) h (fun h => ?_) (fun h => ?_)
    · refine lv_iconst (v := 1) hx hb dX5_key_21 (by decide) ?_
      exact J22 1 _ _ _ h hP hS (lv_sub hl [0, 1, 2] rfl)
    · refine lv_iconst (v := 0) hx hb dX5_key_17 (by decide) ?_
      refine lv_goto (tgt := 22) hx hb dX5_key_18 (by decide) ?_
      exact J22 0 _ _ _ h hP hS (lv_sub hl [0, 1, 2] rfl)
def fX5_earlier_s6 (v_z : Nat → Int32) (p1 : Int32) (K25 : Int32 → Option (Int32)) (rec6 : Int32 → Int32 → Option (Int32)) (x4 : Int32) (x5 : Int32) : Option (Int32) :=
  k_if (x5 < 0)
  (
    some ((-1)))
  (
    k_b1 (fX5_isRowOf v_z p1 x5) fun (x6 : Int32) =>
    k_j1
    (fun (x7 : Int32) =>
      k_let (x5 + (-1)) fun (x8 : Int32) =>
      rec6 x7 x8)
    (fun K38 =>
    k_if (x6 = 0)
    (
      K38 x4)
    (
      k_if (x4 = 0)
      (
        K25 x5)
      (
        k_let (x4 + (-1)) fun (x9 : Int32) =>
        K38 x9))))
def fX5_earlier (v_z : Nat → Int32) (p1 : Int32) (p2 : Int32) : Option (Int32) :=
  k_j1
  (fun (x1 : Int32) =>
    k_b1 (fX5_maskNow v_z x1) fun (x2 : Int32) =>
    k_b1 (fX5_valueIn x2) fun (x3 : Int32) =>
    some x3)
  (fun K25 =>
  k_l2 (fX5_earlier_s6 v_z p1 K25) 5000 p2 19)
theorem hdX5_earlier : yX5_earlier.cls = RX5 ∧ yX5_earlier.cls ≠ "java/lang/invoke/MethodHandle" ∧ yX5_earlier.cls ≠ "java/lang/invoke/VarHandle" ∧ (parseMethodDescriptor yX5_earlier.desc).map (fun d => d.parameters.length) = some 2 := by decide +kernel
set_option maxRecDepth 100000 in
set_option maxHeartbeats 4000000 in
theorem mX5_earlier (l : Launch) (dC : Nat → ClassId) (dI : Nat → Nat → Nat) (cyI cyC cyO : ClassId) (ob a1 a2 a3 a4 a5 a6 a7 a8 : Nat) (v_thrown : Int32) (v_z : Nat → Int32) (v_saved : Nat → Int32) (v_savedMany : Int32) (v_spare : Nat → Int32) (v_buffer : Nat → Int32) (v_typed : Int32) (v_marksBlown : Int32) (v_rests : Nat → Int32) (v_begins : Nat → Int32) (v_orders : Nat → Int32) (v_orderMany : Int32) (v_spot : Int32) (v_wrong : Int32) (v_isShort : Int32) (v_before : Nat → Int32) (v_hash : Int64) (p1 : Int32) (p2 : Int32) {r : Int32} (hf : fX5_earlier v_z p1 p2 = some r) : MetRI l yX5_earlier cX5_earlier 5 (some .int) 7 162 [.ref ob, .int p1, .int p2] (dC, dI) (tyS cyI cyC cyO) (wX5 cyI cyC ob a1 a2 a3 a4 a5 a6 a7 a8 v_thrown v_z v_saved v_savedMany v_spare v_buffer v_typed v_marksBlown v_rests v_begins v_orders v_orderMany v_spot v_wrong v_isShort v_before v_hash) r := by
  refine metRI_of (by decide) (Nat.le_of_ble_eq_true rfl) ?_
  intro p e s m below meth c ls hC hr hlk hP hK hl
  have hC : CallFix p m c cX5_earlier 5 s [.ref ob, .int p1, .int p2].toArray wA RX5 := hC
  obtain ⟨hx, hb, hml, hown, hts⟩ := id hC
  have hS : va_S kF s.heap s.heap [] := va_S.rf
  have hl : lv_has ls 5 [(0, .ref ob), (1, .int p1), (2, .int p2)] := hl
  have h := hf
  unfold fX5_earlier at h
  obtain ⟨H, hH⟩ : ∃ H, H = s.heap := ⟨_, rfl⟩
  obtain ⟨locs, hlo⟩ : ∃ locs : List Loc, locs = [] := ⟨_, rfl⟩
  rw [← hH] at hP
  rw [← hlo] at hS
  have hS : va_S kF s.heap H locs := by rw [hH]; exact hS
  show W p l e (k_rm 7 162) s m [.ref ob, .int p1, .int p2].toArray below meth c s.heap [] 0 0 _ _
  rw [← hlo, ← hH]
  refine lv_iload_n hx hb dX5_earlier_0 rfl (lv_at hl 2 rfl) ?_
  refine lv_istore_n (lv' := [(3, .int p2), (0, .ref ob), (1, .int p1), (2, .int p2)]) hx hb dX5_earlier_1 rfl hl (by decide) rfl (fun ls hl => ?_)
  refine lv_bipush (v := 19) hx hb dX5_earlier_2 (by decide) ?_
  refine lv_istore (lv' := [(4, .int 19), (3, .int p2), (0, .ref ob), (1, .int p1), (2, .int p2)]) hx hb dX5_earlier_4 hl (by decide) rfl (fun ls hl => ?_)
  obtain ⟨K25, hK25, h⟩ := k_j1_e h
  have J25 : ∀ (x1 : Int32) (H : Heap) (locs : List Loc) (ls : Array Slot), K25 x1 = some r → va_P (dC, dI) vwCl (wX5 cyI cyC ob a1 a2 a3 a4 a5 a6 a7 a8 v_thrown v_z v_saved v_savedMany v_spare v_buffer v_typed v_marksBlown v_rests v_begins v_orders v_orderMany v_spot v_wrong v_isShort v_before v_hash) H → va_S kF s.heap H locs → lv_has ls 5 [(0, .ref ob), (4, .int x1)] → W p l e (k_rm 7 162) s m [.ref ob, .int p1, .int p2].toArray below meth c H locs 0 0 (MQ below (qRI r) [.ref ob, .int p1, .int p2].toArray s 0 0 kF) (F0 m 25 ls []) := by
    intro x1 H locs ls h hP hS hl
    have h := k_a1 hK25 h
    refine lv_aload_n hx hb dX5_earlier_25 rfl (lv_at hl 0 rfl) ?_
    refine lv_iload hx hb dX5_earlier_26 (lv_at hl 1 rfl) ?_
    obtain ⟨x2, hc28, h⟩ := k_b1_e h
    refine g_callRI_V (As := [.int x1]) (rest := []) hC (mX5_maskNow l dC dI cyI cyC cyO ob a1 a2 a3 a4 a5 a6 a7 a8 v_thrown v_z v_saved v_savedMany v_spare v_buffer v_typed v_marksBlown v_rests v_begins v_orders v_orderMany v_spot v_wrong v_isShort v_before v_hash x1 hc28) q782 q783 q22 q75 q784 1 hdX5_maskNow ⟨Nat.le_of_ble_eq_true rfl, Nat.le_of_ble_eq_true rfl⟩ ⟨Nat.le_of_ble_eq_true rfl, Nat.le_of_ble_eq_true rfl⟩ rfl rfl hl.1 (Nat.le_of_ble_eq_true rfl) hP hK (va_recv hK hP (ci := 4) (q0 := 0) rfl rfl) hS dX5_earlier_28 (fun H locs hk hS => ?_)
    have hP := k_kept hP hk
    obtain ⟨x3, hc31, h⟩ := k_b1_e h
    refine g_callRI_S (As := [.int x2]) (rest := []) hC (mX5_valueIn l dC dI cyI cyC cyO x2 hc31) q812 q813 q75 q814 1 hdX5_valueIn ⟨Nat.le_of_ble_eq_true rfl, Nat.le_of_ble_eq_true rfl⟩ ⟨Nat.le_of_ble_eq_true rfl, Nat.le_of_ble_eq_true rfl⟩ rfl rfl hl.1 (Nat.le_of_ble_eq_true rfl) va_P_nil hK hS dX5_earlier_31 (fun H locs hk hS => ?_)
    have hP := k_kept hP hk
    exact g_retRI hx hb hr hlk hS h dX5_earlier_34
  obtain ⟨S6, hS6⟩ : ∃ z, z = (fX5_earlier_s6 v_z p1 K25) := ⟨_, rfl⟩
  rw [← hS6] at h
  have L6 : ∀ (n : Nat) (x4 : Int32) (x5 : Int32) (H : Heap) (locs : List Loc) (ls : Array Slot), k_l2 S6 n x4 x5 = some r → va_P (dC, dI) vwCl (wX5 cyI cyC ob a1 a2 a3 a4 a5 a6 a7 a8 v_thrown v_z v_saved v_savedMany v_spare v_buffer v_typed v_marksBlown v_rests v_begins v_orders v_orderMany v_spot v_wrong v_isShort v_before v_hash) H → va_S kF s.heap H locs → lv_has ls 5 [(0, .ref ob), (1, .int p1), (3, .int x4), (4, .int x5)] → W p l e (k_rm 7 162) s m [.ref ob, .int p1, .int p2].toArray below meth c H locs 0 0 (MQ below (qRI r) [.ref ob, .int p1, .int p2].toArray s 0 0 kF) (F0 m 6 ls []) := by
    intro n
    induction n with
    | zero =>
      intro x4 x5 H locs ls h
      exact (k_l2_0 h).elim
    | succ n ih6 =>
      intro x4 x5 H locs ls h hP hS hl
      have h := k_l2_s h
      have h := k_a3 hS6 h
      unfold fX5_earlier_s6 at h
      refine lv_iload hx hb dX5_earlier_6 (lv_at hl 3 rfl) ?_
      refine g_if_lt (tgt := 44) hx hb dX5_earlier_8 (by decide) h (fun h => ?_) (fun h => ?_)
      · refine lv_iconst (v := (-1)) hx hb dX5_earlier_44 (by decide) ?_
        exact g_retRI hx hb hr hlk hS h dX5_earlier_45
      · refine lv_aload_n hx hb dX5_earlier_11 rfl (lv_at hl 0 rfl) ?_
        refine lv_iload_n hx hb dX5_earlier_12 rfl (lv_at hl 1 rfl) ?_
        refine lv_iload hx hb dX5_earlier_13 (lv_at hl 3 rfl) ?_
        obtain ⟨x6, hc15, h⟩ := k_b1_e h
        refine g_callRI_V (As := [.int p1, .int x5]) (rest := []) hC (mX5_isRowOf l dC dI cyI cyC cyO ob a1 a2 a3 a4 a5 a6 a7 a8 v_thrown v_z v_saved v_savedMany v_spare v_buffer v_typed v_marksBlown v_rests v_begins v_orders v_orderMany v_spot v_wrong v_isShort v_before v_hash p1 x5 hc15) q939 q940 q50 q75 q941 2 hdX5_isRowOf ⟨Nat.le_of_ble_eq_true rfl, Nat.le_of_ble_eq_true rfl⟩ ⟨Nat.le_of_ble_eq_true rfl, Nat.le_of_ble_eq_true rfl⟩ rfl rfl hl.1 (Nat.le_of_ble_eq_true rfl) hP hK (va_recv hK hP (ci := 4) (q0 := 0) rfl rfl) hS dX5_earlier_15 (fun H locs hk hS => ?_)
        have hP := k_kept hP hk
        obtain ⟨K38, hK38, h⟩ := k_j1_e h
        have J38 : ∀ (x7 : Int32) (H : Heap) (locs : List Loc) (ls : Array Slot), K38 x7 = some r → va_P (dC, dI) vwCl (wX5 cyI cyC ob a1 a2 a3 a4 a5 a6 a7 a8 v_thrown v_z v_saved v_savedMany v_spare v_buffer v_typed v_marksBlown v_rests v_begins v_orders v_orderMany v_spot v_wrong v_isShort v_before v_hash) H → va_S kF s.heap H locs → lv_has ls 5 [(0, .ref ob), (1, .int p1), (3, .int x7), (4, .int x5)] → W p l e (k_rm 7 162) s m [.ref ob, .int p1, .int p2].toArray below meth c H locs 0 0 (MQ below (qRI r) [.ref ob, .int p1, .int p2].toArray s 0 0 kF) (F0 m 38 ls []) := by
          intro x7 H locs ls h hP hS hl
          have h := k_a1 hK38 h
          refine g_iinc (dv := (-1)) hx hb dX5_earlier_38 hl (j := 3) rfl (by decide) (by decide) h (fun x8 ls h hl => ?_)
          have hl : lv_has ls 5 [(4, .int x8), (0, .ref ob), (1, .int p1), (3, .int x7)] := hl
          refine lv_goto (tgt := 6) hx hb dX5_earlier_41 (by decide) ?_
          exact ih6 x7 x8 _ _ _ h hP hS (lv_sub hl [1, 2, 3, 0] rfl)
        refine g_if_eq (tgt := 38) hx hb dX5_earlier_18 (by decide) h (fun h => ?_) (fun h => ?_)
        · exact J38 x4 _ _ _ h hP hS (lv_sub hl [0, 1, 2, 3] rfl)
        · refine lv_iload_n hx hb dX5_earlier_21 rfl (lv_at hl 2 rfl) ?_
          refine g_if_ne (tgt := 35) hx hb dX5_earlier_22 (by decide) h (fun h => ?_) (fun h => ?_)
          · refine g_iinc (dv := (-1)) hx hb dX5_earlier_35 hl (j := 2) rfl (by decide) (by decide) h (fun x9 ls h hl => ?_)
            have hl : lv_has ls 5 [(3, .int x9), (0, .ref ob), (1, .int p1), (4, .int x5)] := hl
            exact J38 x9 _ _ _ h hP hS (lv_sub hl [1, 2, 0, 3] rfl)
          · exact J25 x5 _ _ _ h hP hS (lv_sub hl [0, 3] rfl)
  exact L6 5000 p2 19 _ _ _ h hP hS (lv_sub hl [2, 3, 1, 0] rfl)
def fX5_history (v_thrown : Int32) (v_z : Nat → Int32) (p1 : Int32) (p2 : Int32) : Option (Int32 × Int32) :=
  k_b1 (fX5_isKey p1) fun (x1 : Int32) =>
  k_j1
  (fun (x2 : Int32) =>
    k_if (x2 ≤ 0)
    (
      k_b1 (fX5_earlier v_z p1 p2) fun (x3 : Int32) =>
      some (x3, x2))
    (
      some (0, x2)))
  (fun K17 =>
  k_if (x1 = 0)
  (
    K17 1)
  (
    k_if (p2 < 0)
    (
      K17 1)
    (
      K17 0)))
theorem hdX5_history : yX5_history.cls = RX5 ∧ yX5_history.cls ≠ "java/lang/invoke/MethodHandle" ∧ yX5_history.cls ≠ "java/lang/invoke/VarHandle" ∧ (parseMethodDescriptor yX5_history.desc).map (fun d => d.parameters.length) = some 2 := by decide +kernel
set_option maxRecDepth 100000 in
set_option maxHeartbeats 4000000 in
theorem mX5_history (l : Launch) (dC : Nat → ClassId) (dI : Nat → Nat → Nat) (cyI cyC cyO : ClassId) (ob a1 a2 a3 a4 a5 a6 a7 a8 : Nat) (v_thrown : Int32) (v_z : Nat → Int32) (v_saved : Nat → Int32) (v_savedMany : Int32) (v_spare : Nat → Int32) (v_buffer : Nat → Int32) (v_typed : Int32) (v_marksBlown : Int32) (v_rests : Nat → Int32) (v_begins : Nat → Int32) (v_orders : Nat → Int32) (v_orderMany : Int32) (v_spot : Int32) (v_wrong : Int32) (v_isShort : Int32) (v_before : Nat → Int32) (v_hash : Int64) (p1 : Int32) (p2 : Int32) {r : Int32} {r_thrown : Int32} (hf : fX5_history v_thrown v_z p1 p2 = some (r, r_thrown)) : MetMI l yX5_history cX5_history 3 (some .int) 8 186 [.ref ob, .int p1, .int p2] (dC, dI) (tyS cyI cyC cyO) (wX5 cyI cyC ob a1 a2 a3 a4 a5 a6 a7 a8 v_thrown v_z v_saved v_savedMany v_spare v_buffer v_typed v_marksBlown v_rests v_begins v_orders v_orderMany v_spot v_wrong v_isShort v_before v_hash) (wX5 cyI cyC ob a1 a2 a3 a4 a5 a6 a7 a8 r_thrown v_z v_saved v_savedMany v_spare v_buffer v_typed v_marksBlown v_rests v_begins v_orders v_orderMany v_spot v_wrong v_isShort v_before v_hash) r := by
  refine metMI_of (by decide) (Nat.le_of_ble_eq_true rfl) ?_
  intro p e s m below meth c ls hC hr hlk hP hK hD hl
  have hC : CallFix p m c cX5_history 3 s [.ref ob, .int p1, .int p2].toArray wA RX5 := hC
  obtain ⟨hx, hb, hml, hown, hts⟩ := id hC
  have hS : va_S (k_A (wX5 cyI cyC ob a1 a2 a3 a4 a5 a6 a7 a8 v_thrown v_z v_saved v_savedMany v_spare v_buffer v_typed v_marksBlown v_rests v_begins v_orders v_orderMany v_spot v_wrong v_isShort v_before v_hash)) s.heap s.heap [] := va_S.rf
  have hl : lv_has ls 3 [(0, .ref ob), (1, .int p1), (2, .int p2)] := hl
  have h := hf
  unfold fX5_history at h
  obtain ⟨H, hH⟩ : ∃ H, H = s.heap := ⟨_, rfl⟩
  obtain ⟨locs, hlo⟩ : ∃ locs : List Loc, locs = [] := ⟨_, rfl⟩
  rw [← hH] at hP
  rw [← hlo] at hS
  have hS : va_S (k_A (wX5 cyI cyC ob a1 a2 a3 a4 a5 a6 a7 a8 v_thrown v_z v_saved v_savedMany v_spare v_buffer v_typed v_marksBlown v_rests v_begins v_orders v_orderMany v_spot v_wrong v_isShort v_before v_hash)) s.heap H locs := by rw [hH]; exact hS
  show W p l e (k_rm 8 186) s m [.ref ob, .int p1, .int p2].toArray below meth c s.heap [] 0 0 _ _
  rw [← hlo, ← hH]
  refine lv_aload_n hx hb dX5_history_0 rfl (lv_at hl 0 rfl) ?_
  refine lv_iload_n hx hb dX5_history_1 rfl (lv_at hl 1 rfl) ?_
  obtain ⟨x1, hc2, h⟩ := k_b1_e h
  refine g_callRI_S (As := [.int p1]) (rest := [.ref ob]) hC (mX5_isKey l dC dI cyI cyC cyO p1 hc2) q776 q777 q75 q778 1 hdX5_isKey ⟨Nat.le_of_ble_eq_true rfl, Nat.le_of_ble_eq_true rfl⟩ ⟨Nat.le_of_ble_eq_true rfl, Nat.le_of_ble_eq_true rfl⟩ rfl rfl hl.1 (Nat.le_of_ble_eq_true rfl) va_P_nil hK hS dX5_history_2 (fun H locs hk hS => ?_)
  have hP := k_kept hP hk
  obtain ⟨K17, hK17, h⟩ := k_j1_e h
  have J17 : ∀ (x2 : Int32) (H : Heap) (locs : List Loc) (ls : Array Slot), K17 x2 = some (r, r_thrown) → va_P (dC, dI) vwCl (wX5 cyI cyC ob a1 a2 a3 a4 a5 a6 a7 a8 v_thrown v_z v_saved v_savedMany v_spare v_buffer v_typed v_marksBlown v_rests v_begins v_orders v_orderMany v_spot v_wrong v_isShort v_before v_hash) H → va_S (k_A (wX5 cyI cyC ob a1 a2 a3 a4 a5 a6 a7 a8 v_thrown v_z v_saved v_savedMany v_spare v_buffer v_typed v_marksBlown v_rests v_begins v_orders v_orderMany v_spot v_wrong v_isShort v_before v_hash)) s.heap H locs → lv_has ls 3 [(0, .ref ob), (1, .int p1), (2, .int p2)] → W p l e (k_rm 8 186) s m [.ref ob, .int p1, .int p2].toArray below meth c H locs 0 0 (MQ below (qMI r (dC, dI) (wX5 cyI cyC ob a1 a2 a3 a4 a5 a6 a7 a8 v_thrown v_z v_saved v_savedMany v_spare v_buffer v_typed v_marksBlown v_rests v_begins v_orders v_orderMany v_spot v_wrong v_isShort v_before v_hash) (wX5 cyI cyC ob a1 a2 a3 a4 a5 a6 a7 a8 r_thrown v_z v_saved v_savedMany v_spare v_buffer v_typed v_marksBlown v_rests v_begins v_orders v_orderMany v_spot v_wrong v_isShort v_before v_hash)) [.ref ob, .int p1, .int p2].toArray s 0 0 (k_A (wX5 cyI cyC ob a1 a2 a3 a4 a5 a6 a7 a8 v_thrown v_z v_saved v_savedMany v_spare v_buffer v_typed v_marksBlown v_rests v_begins v_orders v_orderMany v_spot v_wrong v_isShort v_before v_hash))) (F0 m 17 ls [.int x2, .ref ob]) := by
    intro x2 H locs ls h hP hS hl
    have h := k_a1 hK17 h
    refine va_put (D := (dC, dI)) (ci := 4) (v := .int x2) (ty := .int) (C := RX5) (T := TX5) (N := 17) hx hb hts iaX5 tyX5 tyX5_ok nmX5 hown hK hP hD hS 0 rfl rfl 0 (by decide) (hts _ q716) (fun _ h9 => h9) rfl (by decide +kernel) rfl rfl (Nat.le_of_ble_eq_true rfl) dX5_history_17 (fun H locs hP _ hS => ?_)
    have hP : va_P (dC, dI) vwCl (wX5 cyI cyC ob a1 a2 a3 a4 a5 a6 a7 a8 x2 v_z v_saved v_savedMany v_spare v_buffer v_typed v_marksBlown v_rests v_begins v_orders v_orderMany v_spot v_wrong v_isShort v_before v_hash) H := hP
    have hD : va_D (k_A (wX5 cyI cyC ob a1 a2 a3 a4 a5 a6 a7 a8 v_thrown v_z v_saved v_savedMany v_spare v_buffer v_typed v_marksBlown v_rests v_begins v_orders v_orderMany v_spot v_wrong v_isShort v_before v_hash)) (wX5 cyI cyC ob a1 a2 a3 a4 a5 a6 a7 a8 x2 v_z v_saved v_savedMany v_spare v_buffer v_typed v_marksBlown v_rests v_begins v_orders v_orderMany v_spot v_wrong v_isShort v_before v_hash) := k_Dm hD rfl
    refine lv_aload_n hx hb dX5_history_20 rfl (lv_at hl 0 rfl) ?_
    refine va_get (D := (dC, dI)) (ci := 4) (v := .int x2) (C := RX5) (T := TX5) (N := 17) hx hb hts iaX5 hown hK hP 0 rfl rfl 0 (by decide) (hts _ q716) (fun _ h9 => h9) rfl dX5_history_21 ?_
    refine g_if_le (tgt := 31) hx hb dX5_history_24 (by decide) h (fun h => ?_) (fun h => ?_)
    · refine lv_aload_n hx hb dX5_history_31 rfl (lv_at hl 0 rfl) ?_
      refine lv_iload_n hx hb dX5_history_32 rfl (lv_at hl 1 rfl) ?_
      refine lv_iload_n hx hb dX5_history_33 rfl (lv_at hl 2 rfl) ?_
      obtain ⟨x3, hc34, h⟩ := k_b1_e h
      refine g_callRI_V (As := [.int p1, .int p2]) (rest := []) hC (mX5_earlier l dC dI cyI cyC cyO ob a1 a2 a3 a4 a5 a6 a7 a8 x2 v_z v_saved v_savedMany v_spare v_buffer v_typed v_marksBlown v_rests v_begins v_orders v_orderMany v_spot v_wrong v_isShort v_before v_hash p1 p2 hc34) q955 q956 q54 q75 q957 2 hdX5_earlier ⟨Nat.le_of_ble_eq_true rfl, Nat.le_of_ble_eq_true rfl⟩ ⟨Nat.le_of_ble_eq_true rfl, Nat.le_of_ble_eq_true rfl⟩ rfl rfl hl.1 (Nat.le_of_ble_eq_true rfl) hP hK (va_recv hK hP (ci := 4) (q0 := 0) rfl rfl) hS dX5_history_34 (fun H locs hk hS => ?_)
      have hP := k_kept hP hk
      obtain ⟨e0, e1⟩ := k_t2 h
      exact g_retMI hx hb hr hlk hS e0 (by rw [← e1]; exact hP) dX5_history_37
    · refine lv_iconst (v := 0) hx hb dX5_history_27 (by decide) ?_
      refine lv_goto (tgt := 37) hx hb dX5_history_28 (by decide) ?_
      obtain ⟨e0, e1⟩ := k_t2 h
      exact g_retMI hx hb hr hlk hS e0 (by rw [← e1]; exact hP) dX5_history_37
  refine g_if_eq (tgt := 16) hx hb dX5_history_5 (by decide) h (fun h => ?_) (fun h => ?_)
  · refine lv_iconst (v := 1) hx hb dX5_history_16 (by decide) ?_
    exact J17 1 _ _ _ h hP hS (lv_sub hl [0, 1, 2] rfl)
  · refine lv_iload_n hx hb dX5_history_8 rfl (lv_at hl 2 rfl) ?_
    refine g_if_lt (tgt := 16) hx hb dX5_history_9 (by decide) h (fun h => ?_) (fun h => ?_)
    · refine lv_iconst (v := 1) hx hb dX5_history_16 (by decide) ?_
      exact J17 1 _ _ _ h hP hS (lv_sub hl [0, 1, 2] rfl)
    · refine lv_iconst (v := 0) hx hb dX5_history_12 (by decide) ?_
      refine lv_goto (tgt := 17) hx hb dX5_history_13 (by decide) ?_
      exact J17 0 _ _ _ h hP hS (lv_sub hl [0, 1, 2] rfl)
def fX5_rowsOfKind_s4 (v_z : Nat → Int32) (p1 : Int32) (rec4 : Int32 → Int32 → Option (Int32)) (x1 : Int32) (x2 : Int32) : Option (Int32) :=
  k_if (20 ≤ x2)
  (
    some x1)
  (
    k_b1 (fX5_maskNow v_z x2) fun (x3 : Int32) =>
    k_b1 (fX5_kindOf x3) fun (x4 : Int32) =>
    k_j1
    (fun (x5 : Int32) =>
      k_let (x1 + x5) fun (x6 : Int32) =>
      k_let (x2 + 1) fun (x7 : Int32) =>
      rec4 x6 x7)
    (fun K28 =>
    k_if (x4 = p1)
    (
      K28 1)
    (
      K28 0)))
def fX5_rowsOfKind (v_z : Nat → Int32) (p1 : Int32) : Option (Int32) :=
  k_l2 (fX5_rowsOfKind_s4 v_z p1) 5000 0 0
theorem hdX5_rowsOfKind : yX5_rowsOfKind.cls = RX5 ∧ yX5_rowsOfKind.cls ≠ "java/lang/invoke/MethodHandle" ∧ yX5_rowsOfKind.cls ≠ "java/lang/invoke/VarHandle" ∧ (parseMethodDescriptor yX5_rowsOfKind.desc).map (fun d => d.parameters.length) = some 1 := by decide +kernel
set_option maxRecDepth 100000 in
set_option maxHeartbeats 4000000 in
theorem mX5_rowsOfKind (l : Launch) (dC : Nat → ClassId) (dI : Nat → Nat → Nat) (cyI cyC cyO : ClassId) (ob a1 a2 a3 a4 a5 a6 a7 a8 : Nat) (v_thrown : Int32) (v_z : Nat → Int32) (v_saved : Nat → Int32) (v_savedMany : Int32) (v_spare : Nat → Int32) (v_buffer : Nat → Int32) (v_typed : Int32) (v_marksBlown : Int32) (v_rests : Nat → Int32) (v_begins : Nat → Int32) (v_orders : Nat → Int32) (v_orderMany : Int32) (v_spot : Int32) (v_wrong : Int32) (v_isShort : Int32) (v_before : Nat → Int32) (v_hash : Int64) (p1 : Int32) {r : Int32} (hf : fX5_rowsOfKind v_z p1 = some r) : MetRI l yX5_rowsOfKind cX5_rowsOfKind 4 (some .int) 6 138 [.ref ob, .int p1] (dC, dI) (tyS cyI cyC cyO) (wX5 cyI cyC ob a1 a2 a3 a4 a5 a6 a7 a8 v_thrown v_z v_saved v_savedMany v_spare v_buffer v_typed v_marksBlown v_rests v_begins v_orders v_orderMany v_spot v_wrong v_isShort v_before v_hash) r := by
  refine metRI_of (by decide) (Nat.le_of_ble_eq_true rfl) ?_
  intro p e s m below meth c ls hC hr hlk hP hK hl
  have hC : CallFix p m c cX5_rowsOfKind 4 s [.ref ob, .int p1].toArray wA RX5 := hC
  obtain ⟨hx, hb, hml, hown, hts⟩ := id hC
  have hS : va_S kF s.heap s.heap [] := va_S.rf
  have hl : lv_has ls 4 [(0, .ref ob), (1, .int p1)] := hl
  have h := hf
  unfold fX5_rowsOfKind at h
  obtain ⟨H, hH⟩ : ∃ H, H = s.heap := ⟨_, rfl⟩
  obtain ⟨locs, hlo⟩ : ∃ locs : List Loc, locs = [] := ⟨_, rfl⟩
  rw [← hH] at hP
  rw [← hlo] at hS
  have hS : va_S kF s.heap H locs := by rw [hH]; exact hS
  show W p l e (k_rm 6 138) s m [.ref ob, .int p1].toArray below meth c s.heap [] 0 0 _ _
  rw [← hlo, ← hH]
  refine lv_iconst (v := 0) hx hb dX5_rowsOfKind_0 (by decide) ?_
  refine lv_istore_n (lv' := [(2, .int 0), (0, .ref ob), (1, .int p1)]) hx hb dX5_rowsOfKind_1 rfl hl (by decide) rfl (fun ls hl => ?_)
  refine lv_iconst (v := 0) hx hb dX5_rowsOfKind_2 (by decide) ?_
  refine lv_istore_n (lv' := [(3, .int 0), (2, .int 0), (0, .ref ob), (1, .int p1)]) hx hb dX5_rowsOfKind_3 rfl hl (by decide) rfl (fun ls hl => ?_)
  obtain ⟨S4, hS4⟩ : ∃ z, z = (fX5_rowsOfKind_s4 v_z p1) := ⟨_, rfl⟩
  rw [← hS4] at h
  have L4 : ∀ (n : Nat) (x1 : Int32) (x2 : Int32) (H : Heap) (locs : List Loc) (ls : Array Slot), k_l2 S4 n x1 x2 = some r → va_P (dC, dI) vwCl (wX5 cyI cyC ob a1 a2 a3 a4 a5 a6 a7 a8 v_thrown v_z v_saved v_savedMany v_spare v_buffer v_typed v_marksBlown v_rests v_begins v_orders v_orderMany v_spot v_wrong v_isShort v_before v_hash) H → va_S kF s.heap H locs → lv_has ls 4 [(0, .ref ob), (1, .int p1), (2, .int x1), (3, .int x2)] → W p l e (k_rm 6 138) s m [.ref ob, .int p1].toArray below meth c H locs 0 0 (MQ below (qRI r) [.ref ob, .int p1].toArray s 0 0 kF) (F0 m 4 ls []) := by
    intro n
    induction n with
    | zero =>
      intro x1 x2 H locs ls h
      exact (k_l2_0 h).elim
    | succ n ih4 =>
      intro x1 x2 H locs ls h hP hS hl
      have h := k_l2_s h
      have h := k_a3 hS4 h
      unfold fX5_rowsOfKind_s4 at h
      refine lv_iload_n hx hb dX5_rowsOfKind_4 rfl (lv_at hl 3 rfl) ?_
      refine lv_bipush (v := 20) hx hb dX5_rowsOfKind_5 (by decide) ?_
      refine g_icmp_ge (tgt := 36) hx hb dX5_rowsOfKind_7 (by decide) h (fun h => ?_) (fun h => ?_)
      · refine lv_iload_n hx hb dX5_rowsOfKind_36 rfl (lv_at hl 2 rfl) ?_
        exact g_retRI hx hb hr hlk hS h dX5_rowsOfKind_37
      · refine lv_iload_n hx hb dX5_rowsOfKind_10 rfl (lv_at hl 2 rfl) ?_
        refine lv_aload_n hx hb dX5_rowsOfKind_11 rfl (lv_at hl 0 rfl) ?_
        refine lv_iload_n hx hb dX5_rowsOfKind_12 rfl (lv_at hl 3 rfl) ?_
        obtain ⟨x3, hc13, h⟩ := k_b1_e h
        refine g_callRI_V (As := [.int x2]) (rest := [.int x1]) hC (mX5_maskNow l dC dI cyI cyC cyO ob a1 a2 a3 a4 a5 a6 a7 a8 v_thrown v_z v_saved v_savedMany v_spare v_buffer v_typed v_marksBlown v_rests v_begins v_orders v_orderMany v_spot v_wrong v_isShort v_before v_hash x2 hc13) q782 q783 q22 q75 q784 1 hdX5_maskNow ⟨Nat.le_of_ble_eq_true rfl, Nat.le_of_ble_eq_true rfl⟩ ⟨Nat.le_of_ble_eq_true rfl, Nat.le_of_ble_eq_true rfl⟩ rfl rfl hl.1 (Nat.le_of_ble_eq_true rfl) hP hK (va_recv hK hP (ci := 4) (q0 := 0) rfl rfl) hS dX5_rowsOfKind_13 (fun H locs hk hS => ?_)
        have hP := k_kept hP hk
        obtain ⟨x4, hc16, h⟩ := k_b1_e h
        refine g_callRI_S (As := [.int x3]) (rest := [.int x1]) hC (mX5_kindOf l dC dI cyI cyC cyO x3 hc16) q806 q807 q75 q808 1 hdX5_kindOf ⟨Nat.le_of_ble_eq_true rfl, Nat.le_of_ble_eq_true rfl⟩ ⟨Nat.le_of_ble_eq_true rfl, Nat.le_of_ble_eq_true rfl⟩ rfl rfl hl.1 (Nat.le_of_ble_eq_true rfl) va_P_nil hK hS dX5_rowsOfKind_16 (fun H locs hk hS => ?_)
        have hP := k_kept hP hk
        refine lv_iload_n hx hb dX5_rowsOfKind_19 rfl (lv_at hl 1 rfl) ?_
        obtain ⟨K28, hK28, h⟩ := k_j1_e h
        have J28 : ∀ (x5 : Int32) (H : Heap) (locs : List Loc) (ls : Array Slot), K28 x5 = some r → va_P (dC, dI) vwCl (wX5 cyI cyC ob a1 a2 a3 a4 a5 a6 a7 a8 v_thrown v_z v_saved v_savedMany v_spare v_buffer v_typed v_marksBlown v_rests v_begins v_orders v_orderMany v_spot v_wrong v_isShort v_before v_hash) H → va_S kF s.heap H locs → lv_has ls 4 [(0, .ref ob), (1, .int p1), (3, .int x2)] → W p l e (k_rm 6 138) s m [.ref ob, .int p1].toArray below meth c H locs 0 0 (MQ below (qRI r) [.ref ob, .int p1].toArray s 0 0 kF) (F0 m 28 ls [.int x5, .int x1]) := by
          intro x5 H locs ls h hP hS hl
          have h := k_a1 hK28 h
          refine g_iadd hx hb dX5_rowsOfKind_28 h (fun x6 h => ?_)
          refine lv_istore_n (lv' := [(2, .int x6), (0, .ref ob), (1, .int p1), (3, .int x2)]) hx hb dX5_rowsOfKind_29 rfl hl (by decide) rfl (fun ls hl => ?_)
          refine g_iinc (dv := 1) hx hb dX5_rowsOfKind_30 hl (j := 3) rfl (by decide) (by decide) h (fun x7 ls h hl => ?_)
          have hl : lv_has ls 4 [(3, .int x7), (2, .int x6), (0, .ref ob), (1, .int p1)] := hl
          refine lv_goto (tgt := 4) hx hb dX5_rowsOfKind_33 (by decide) ?_
          exact ih4 x6 x7 _ _ _ h hP hS (lv_sub hl [2, 3, 1, 0] rfl)
        refine g_icmp_ne (tgt := 27) hx hb dX5_rowsOfKind_20 (by decide) h (fun h => ?_) (fun h => ?_)
        · refine lv_iconst (v := 0) hx hb dX5_rowsOfKind_27 (by decide) ?_
          exact J28 0 _ _ _ h hP hS (lv_sub hl [0, 1, 3] rfl)
        · refine lv_iconst (v := 1) hx hb dX5_rowsOfKind_23 (by decide) ?_
          refine lv_goto (tgt := 28) hx hb dX5_rowsOfKind_24 (by decide) ?_
          exact J28 1 _ _ _ h hP hS (lv_sub hl [0, 1, 3] rfl)
  exact L4 5000 0 0 _ _ _ h hP hS (lv_sub hl [2, 3, 1, 0] rfl)
def fX5_doubtfulAll_s4 (v_z : Nat → Int32) (rec4 : Int32 → Int32 → Option (Int32)) (x1 : Int32) (x2 : Int32) : Option (Int32) :=
  k_if (20 ≤ x2)
  (
    some x1)
  (
    k_b1 (fX5_doubtful v_z x2) fun (x3 : Int32) =>
    k_let (x1 + x3) fun (x4 : Int32) =>
    k_let (x2 + 1) fun (x5 : Int32) =>
    rec4 x4 x5)
def fX5_doubtfulAll (v_z : Nat → Int32) : Option (Int32) :=
  k_l2 (fX5_doubtfulAll_s4 v_z) 5000 0 0
theorem hdX5_doubtfulAll : yX5_doubtfulAll.cls = RX5 ∧ yX5_doubtfulAll.cls ≠ "java/lang/invoke/MethodHandle" ∧ yX5_doubtfulAll.cls ≠ "java/lang/invoke/VarHandle" ∧ (parseMethodDescriptor yX5_doubtfulAll.desc).map (fun d => d.parameters.length) = some 0 := by decide +kernel
set_option maxRecDepth 100000 in
set_option maxHeartbeats 4000000 in
theorem mX5_doubtfulAll (l : Launch) (dC : Nat → ClassId) (dI : Nat → Nat → Nat) (cyI cyC cyO : ClassId) (ob a1 a2 a3 a4 a5 a6 a7 a8 : Nat) (v_thrown : Int32) (v_z : Nat → Int32) (v_saved : Nat → Int32) (v_savedMany : Int32) (v_spare : Nat → Int32) (v_buffer : Nat → Int32) (v_typed : Int32) (v_marksBlown : Int32) (v_rests : Nat → Int32) (v_begins : Nat → Int32) (v_orders : Nat → Int32) (v_orderMany : Int32) (v_spot : Int32) (v_wrong : Int32) (v_isShort : Int32) (v_before : Nat → Int32) (v_hash : Int64)  {r : Int32} (hf : fX5_doubtfulAll v_z = some r) : MetRI l yX5_doubtfulAll cX5_doubtfulAll 3 (some .int) 2 45 [.ref ob] (dC, dI) (tyS cyI cyC cyO) (wX5 cyI cyC ob a1 a2 a3 a4 a5 a6 a7 a8 v_thrown v_z v_saved v_savedMany v_spare v_buffer v_typed v_marksBlown v_rests v_begins v_orders v_orderMany v_spot v_wrong v_isShort v_before v_hash) r := by
  refine metRI_of (by decide) (Nat.le_of_ble_eq_true rfl) ?_
  intro p e s m below meth c ls hC hr hlk hP hK hl
  have hC : CallFix p m c cX5_doubtfulAll 3 s [.ref ob].toArray wA RX5 := hC
  obtain ⟨hx, hb, hml, hown, hts⟩ := id hC
  have hS : va_S kF s.heap s.heap [] := va_S.rf
  have hl : lv_has ls 3 [(0, .ref ob)] := hl
  have h := hf
  unfold fX5_doubtfulAll at h
  obtain ⟨H, hH⟩ : ∃ H, H = s.heap := ⟨_, rfl⟩
  obtain ⟨locs, hlo⟩ : ∃ locs : List Loc, locs = [] := ⟨_, rfl⟩
  rw [← hH] at hP
  rw [← hlo] at hS
  have hS : va_S kF s.heap H locs := by rw [hH]; exact hS
  show W p l e (k_rm 2 45) s m [.ref ob].toArray below meth c s.heap [] 0 0 _ _
  rw [← hlo, ← hH]
  refine lv_iconst (v := 0) hx hb dX5_doubtfulAll_0 (by decide) ?_
  refine lv_istore_n (lv' := [(1, .int 0), (0, .ref ob)]) hx hb dX5_doubtfulAll_1 rfl hl (by decide) rfl (fun ls hl => ?_)
  refine lv_iconst (v := 0) hx hb dX5_doubtfulAll_2 (by decide) ?_
  refine lv_istore_n (lv' := [(2, .int 0), (1, .int 0), (0, .ref ob)]) hx hb dX5_doubtfulAll_3 rfl hl (by decide) rfl (fun ls hl => ?_)
  obtain ⟨S4, hS4⟩ : ∃ z, z = (fX5_doubtfulAll_s4 v_z) := ⟨_, rfl⟩
  rw [← hS4] at h
  have L4 : ∀ (n : Nat) (x1 : Int32) (x2 : Int32) (H : Heap) (locs : List Loc) (ls : Array Slot), k_l2 S4 n x1 x2 = some r → va_P (dC, dI) vwCl (wX5 cyI cyC ob a1 a2 a3 a4 a5 a6 a7 a8 v_thrown v_z v_saved v_savedMany v_spare v_buffer v_typed v_marksBlown v_rests v_begins v_orders v_orderMany v_spot v_wrong v_isShort v_before v_hash) H → va_S kF s.heap H locs → lv_has ls 3 [(0, .ref ob), (1, .int x1), (2, .int x2)] → W p l e (k_rm 2 45) s m [.ref ob].toArray below meth c H locs 0 0 (MQ below (qRI r) [.ref ob].toArray s 0 0 kF) (F0 m 4 ls []) := by
    intro n
    induction n with
    | zero =>
      intro x1 x2 H locs ls h
      exact (k_l2_0 h).elim
    | succ n ih4 =>
      intro x1 x2 H locs ls h hP hS hl
      have h := k_l2_s h
      have h := k_a3 hS4 h
      unfold fX5_doubtfulAll_s4 at h
      refine lv_iload_n hx hb dX5_doubtfulAll_4 rfl (lv_at hl 2 rfl) ?_
      refine lv_bipush (v := 20) hx hb dX5_doubtfulAll_5 (by decide) ?_
      refine g_icmp_ge (tgt := 24) hx hb dX5_doubtfulAll_7 (by decide) h (fun h => ?_) (fun h => ?_)
      · refine lv_iload_n hx hb dX5_doubtfulAll_24 rfl (lv_at hl 1 rfl) ?_
        exact g_retRI hx hb hr hlk hS h dX5_doubtfulAll_25
      · refine lv_iload_n hx hb dX5_doubtfulAll_10 rfl (lv_at hl 1 rfl) ?_
        refine lv_aload_n hx hb dX5_doubtfulAll_11 rfl (lv_at hl 0 rfl) ?_
        refine lv_iload_n hx hb dX5_doubtfulAll_12 rfl (lv_at hl 2 rfl) ?_
        obtain ⟨x3, hc13, h⟩ := k_b1_e h
        refine g_callRI_V (As := [.int x2]) (rest := [.int x1]) hC (mX5_doubtful l dC dI cyI cyC cyO ob a1 a2 a3 a4 a5 a6 a7 a8 v_thrown v_z v_saved v_savedMany v_spare v_buffer v_typed v_marksBlown v_rests v_begins v_orders v_orderMany v_spot v_wrong v_isShort v_before v_hash x2 hc13) q914 q915 q43 q75 q916 1 hdX5_doubtful ⟨Nat.le_of_ble_eq_true rfl, Nat.le_of_ble_eq_true rfl⟩ ⟨Nat.le_of_ble_eq_true rfl, Nat.le_of_ble_eq_true rfl⟩ rfl rfl hl.1 (Nat.le_of_ble_eq_true rfl) hP hK (va_recv hK hP (ci := 4) (q0 := 0) rfl rfl) hS dX5_doubtfulAll_13 (fun H locs hk hS => ?_)
        have hP := k_kept hP hk
        refine g_iadd hx hb dX5_doubtfulAll_16 h (fun x4 h => ?_)
        refine lv_istore_n (lv' := [(1, .int x4), (0, .ref ob), (2, .int x2)]) hx hb dX5_doubtfulAll_17 rfl hl (by decide) rfl (fun ls hl => ?_)
        refine g_iinc (dv := 1) hx hb dX5_doubtfulAll_18 hl (j := 2) rfl (by decide) (by decide) h (fun x5 ls h hl => ?_)
        have hl : lv_has ls 3 [(2, .int x5), (1, .int x4), (0, .ref ob)] := hl
        refine lv_goto (tgt := 4) hx hb dX5_doubtfulAll_21 (by decide) ?_
        exact ih4 x4 x5 _ _ _ h hP hS (lv_sub hl [2, 1, 0] rfl)
  exact L4 5000 0 0 _ _ _ h hP hS (lv_sub hl [2, 1, 0] rfl)
def fX5_keysWithValue_s4 (v_z : Nat → Int32) (rec4 : Int32 → Int32 → Option (Int32)) (x1 : Int32) (x2 : Int32) : Option (Int32) :=
  k_if (16 ≤ x2)
  (
    some x1)
  (
    k_b1 (fX5_valueNow v_z x2) fun (x3 : Int32) =>
    k_j1
    (fun (x4 : Int32) =>
      k_let (x1 + x4) fun (x5 : Int32) =>
      k_let (x2 + 1) fun (x6 : Int32) =>
      rec4 x5 x6)
    (fun K25 =>
    k_if (x3 = ((-1)))
    (
      K25 0)
    (
      K25 1)))
def fX5_keysWithValue (v_z : Nat → Int32) : Option (Int32) :=
  k_l2 (fX5_keysWithValue_s4 v_z) 5000 0 0
theorem hdX5_keysWithValue : yX5_keysWithValue.cls = RX5 ∧ yX5_keysWithValue.cls ≠ "java/lang/invoke/MethodHandle" ∧ yX5_keysWithValue.cls ≠ "java/lang/invoke/VarHandle" ∧ (parseMethodDescriptor yX5_keysWithValue.desc).map (fun d => d.parameters.length) = some 0 := by decide +kernel
set_option maxRecDepth 100000 in
set_option maxHeartbeats 4000000 in
theorem mX5_keysWithValue (l : Launch) (dC : Nat → ClassId) (dI : Nat → Nat → Nat) (cyI cyC cyO : ClassId) (ob a1 a2 a3 a4 a5 a6 a7 a8 : Nat) (v_thrown : Int32) (v_z : Nat → Int32) (v_saved : Nat → Int32) (v_savedMany : Int32) (v_spare : Nat → Int32) (v_buffer : Nat → Int32) (v_typed : Int32) (v_marksBlown : Int32) (v_rests : Nat → Int32) (v_begins : Nat → Int32) (v_orders : Nat → Int32) (v_orderMany : Int32) (v_spot : Int32) (v_wrong : Int32) (v_isShort : Int32) (v_before : Nat → Int32) (v_hash : Int64)  {r : Int32} (hf : fX5_keysWithValue v_z = some r) : MetRI l yX5_keysWithValue cX5_keysWithValue 3 (some .int) 8 188 [.ref ob] (dC, dI) (tyS cyI cyC cyO) (wX5 cyI cyC ob a1 a2 a3 a4 a5 a6 a7 a8 v_thrown v_z v_saved v_savedMany v_spare v_buffer v_typed v_marksBlown v_rests v_begins v_orders v_orderMany v_spot v_wrong v_isShort v_before v_hash) r := by
  refine metRI_of (by decide) (Nat.le_of_ble_eq_true rfl) ?_
  intro p e s m below meth c ls hC hr hlk hP hK hl
  have hC : CallFix p m c cX5_keysWithValue 3 s [.ref ob].toArray wA RX5 := hC
  obtain ⟨hx, hb, hml, hown, hts⟩ := id hC
  have hS : va_S kF s.heap s.heap [] := va_S.rf
  have hl : lv_has ls 3 [(0, .ref ob)] := hl
  have h := hf
  unfold fX5_keysWithValue at h
  obtain ⟨H, hH⟩ : ∃ H, H = s.heap := ⟨_, rfl⟩
  obtain ⟨locs, hlo⟩ : ∃ locs : List Loc, locs = [] := ⟨_, rfl⟩
  rw [← hH] at hP
  rw [← hlo] at hS
  have hS : va_S kF s.heap H locs := by rw [hH]; exact hS
  show W p l e (k_rm 8 188) s m [.ref ob].toArray below meth c s.heap [] 0 0 _ _
  rw [← hlo, ← hH]
  refine lv_iconst (v := 0) hx hb dX5_keysWithValue_0 (by decide) ?_
  refine lv_istore_n (lv' := [(1, .int 0), (0, .ref ob)]) hx hb dX5_keysWithValue_1 rfl hl (by decide) rfl (fun ls hl => ?_)
  refine lv_iconst (v := 0) hx hb dX5_keysWithValue_2 (by decide) ?_
  refine lv_istore_n (lv' := [(2, .int 0), (1, .int 0), (0, .ref ob)]) hx hb dX5_keysWithValue_3 rfl hl (by decide) rfl (fun ls hl => ?_)
  obtain ⟨S4, hS4⟩ : ∃ z, z = (fX5_keysWithValue_s4 v_z) := ⟨_, rfl⟩
  rw [← hS4] at h
  have L4 : ∀ (n : Nat) (x1 : Int32) (x2 : Int32) (H : Heap) (locs : List Loc) (ls : Array Slot), k_l2 S4 n x1 x2 = some r → va_P (dC, dI) vwCl (wX5 cyI cyC ob a1 a2 a3 a4 a5 a6 a7 a8 v_thrown v_z v_saved v_savedMany v_spare v_buffer v_typed v_marksBlown v_rests v_begins v_orders v_orderMany v_spot v_wrong v_isShort v_before v_hash) H → va_S kF s.heap H locs → lv_has ls 3 [(0, .ref ob), (1, .int x1), (2, .int x2)] → W p l e (k_rm 8 188) s m [.ref ob].toArray below meth c H locs 0 0 (MQ below (qRI r) [.ref ob].toArray s 0 0 kF) (F0 m 4 ls []) := by
    intro n
    induction n with
    | zero =>
      intro x1 x2 H locs ls h
      exact (k_l2_0 h).elim
    | succ n ih4 =>
      intro x1 x2 H locs ls h hP hS hl
      have h := k_l2_s h
      have h := k_a3 hS4 h
      unfold fX5_keysWithValue_s4 at h
      refine lv_iload_n hx hb dX5_keysWithValue_4 rfl (lv_at hl 2 rfl) ?_
      refine lv_bipush (v := 16) hx hb dX5_keysWithValue_5 (by decide) ?_
      refine g_icmp_ge (tgt := 33) hx hb dX5_keysWithValue_7 (by decide) h (fun h => ?_) (fun h => ?_)
      · refine lv_iload_n hx hb dX5_keysWithValue_33 rfl (lv_at hl 1 rfl) ?_
        exact g_retRI hx hb hr hlk hS h dX5_keysWithValue_34
      · refine lv_iload_n hx hb dX5_keysWithValue_10 rfl (lv_at hl 1 rfl) ?_
        refine lv_aload_n hx hb dX5_keysWithValue_11 rfl (lv_at hl 0 rfl) ?_
        refine lv_iload_n hx hb dX5_keysWithValue_12 rfl (lv_at hl 2 rfl) ?_
        obtain ⟨x3, hc13, h⟩ := k_b1_e h
        refine g_callRI_V (As := [.int x2]) (rest := [.int x1]) hC (mX5_valueNow l dC dI cyI cyC cyO ob a1 a2 a3 a4 a5 a6 a7 a8 v_thrown v_z v_saved v_savedMany v_spare v_buffer v_typed v_marksBlown v_rests v_begins v_orders v_orderMany v_spot v_wrong v_isShort v_before v_hash x2 hc13) q927 q928 q46 q75 q929 1 hdX5_valueNow ⟨Nat.le_of_ble_eq_true rfl, Nat.le_of_ble_eq_true rfl⟩ ⟨Nat.le_of_ble_eq_true rfl, Nat.le_of_ble_eq_true rfl⟩ rfl rfl hl.1 (Nat.le_of_ble_eq_true rfl) hP hK (va_recv hK hP (ci := 4) (q0 := 0) rfl rfl) hS dX5_keysWithValue_13 (fun H locs hk hS => ?_)
        have hP := k_kept hP hk
        refine lv_iconst (v := (-1)) hx hb dX5_keysWithValue_16 (by decide) ?_
        obtain ⟨K25, hK25, h⟩ := k_j1_e h
        have J25 : ∀ (x4 : Int32) (H : Heap) (locs : List Loc) (ls : Array Slot), K25 x4 = some r → va_P (dC, dI) vwCl (wX5 cyI cyC ob a1 a2 a3 a4 a5 a6 a7 a8 v_thrown v_z v_saved v_savedMany v_spare v_buffer v_typed v_marksBlown v_rests v_begins v_orders v_orderMany v_spot v_wrong v_isShort v_before v_hash) H → va_S kF s.heap H locs → lv_has ls 3 [(0, .ref ob), (2, .int x2)] → W p l e (k_rm 8 188) s m [.ref ob].toArray below meth c H locs 0 0 (MQ below (qRI r) [.ref ob].toArray s 0 0 kF) (F0 m 25 ls [.int x4, .int x1]) := by
          intro x4 H locs ls h hP hS hl
          have h := k_a1 hK25 h
          refine g_iadd hx hb dX5_keysWithValue_25 h (fun x5 h => ?_)
          refine lv_istore_n (lv' := [(1, .int x5), (0, .ref ob), (2, .int x2)]) hx hb dX5_keysWithValue_26 rfl hl (by decide) rfl (fun ls hl => ?_)
          refine g_iinc (dv := 1) hx hb dX5_keysWithValue_27 hl (j := 2) rfl (by decide) (by decide) h (fun x6 ls h hl => ?_)
          have hl : lv_has ls 3 [(2, .int x6), (1, .int x5), (0, .ref ob)] := hl
          refine lv_goto (tgt := 4) hx hb dX5_keysWithValue_30 (by decide) ?_
          exact ih4 x5 x6 _ _ _ h hP hS (lv_sub hl [2, 1, 0] rfl)
        refine g_icmp_ne (tgt := 24) hx hb dX5_keysWithValue_17 (by decide) h (fun h => ?_) (fun h => ?_)
        · refine lv_iconst (v := 1) hx hb dX5_keysWithValue_24 (by decide) ?_
          exact J25 1 _ _ _ h hP hS (lv_sub hl [0, 2] rfl)
        · refine lv_iconst (v := 0) hx hb dX5_keysWithValue_20 (by decide) ?_
          refine lv_goto (tgt := 25) hx hb dX5_keysWithValue_21 (by decide) ?_
          exact J25 0 _ _ _ h hP hS (lv_sub hl [0, 2] rfl)
  exact L4 5000 0 0 _ _ _ h hP hS (lv_sub hl [2, 1, 0] rfl)
def fX5_counted (v_z : Nat → Int32) (v_savedMany : Int32) (p1 : Int32) : Option (Int32) :=
  k_if (p1 = 0)
  (
    k_ck (0 : Int32) 327 <| k_let (v_z (0 : Int32).toNatClampNeg) fun (x1 : Int32) =>
    some x1)
  (
    k_if (p1 = 1)
    (
      k_let (p1 - 1) fun (x2 : Int32) =>
      k_b1 (fX5_rowsOfKind v_z x2) fun (x3 : Int32) =>
      some x3)
    (
      k_if (p1 = 2)
      (
        k_let (p1 - 1) fun (x4 : Int32) =>
        k_b1 (fX5_rowsOfKind v_z x4) fun (x5 : Int32) =>
        some x5)
      (
        k_if (p1 = 3)
        (
          k_let (p1 - 1) fun (x6 : Int32) =>
          k_b1 (fX5_rowsOfKind v_z x6) fun (x7 : Int32) =>
          some x7)
        (
          k_if (p1 = 4)
          (
            k_let (p1 - 1) fun (x8 : Int32) =>
            k_b1 (fX5_rowsOfKind v_z x8) fun (x9 : Int32) =>
            some x9)
          (
            k_if (p1 = 5)
            (
              k_let (p1 - 1) fun (x10 : Int32) =>
              k_b1 (fX5_rowsOfKind v_z x10) fun (x11 : Int32) =>
              some x11)
            (
              k_if (p1 = 6)
              (
                k_b1 (fX5_lockedMany v_z) fun (x12 : Int32) =>
                some x12)
              (
                k_if (p1 = 7)
                (
                  k_b1 (fX5_doubtfulAll v_z) fun (x13 : Int32) =>
                  some x13)
                (
                  k_if (p1 = 8)
                  (
                    k_ck (1 : Int32) 327 <| k_let (v_z (1 : Int32).toNatClampNeg) fun (x14 : Int32) =>
                    some x14)
                  (
                    k_if (p1 = 9)
                    (
                      k_b1 (fX5_keysWithValue v_z) fun (x15 : Int32) =>
                      some x15)
                    (
                      k_if (p1 = 10)
                      (
                        k_b1 (fX5_nextRow v_z) fun (x16 : Int32) =>
                        some x16)
                      (
                        k_if (p1 = 11)
                        (
                          k_ck (2 : Int32) 327 <| k_let (v_z (2 : Int32).toNatClampNeg) fun (x17 : Int32) =>
                          some x17)
                        (
                          k_if (p1 = 12)
                          (
                            some v_savedMany)
                          (
                            k_let (p1 - 1) fun (x18 : Int32) =>
                            k_b1 (fX5_rowsOfKind v_z x18) fun (x19 : Int32) =>
                            some x19)))))))))))))
theorem hdX5_counted : yX5_counted.cls = RX5 ∧ yX5_counted.cls ≠ "java/lang/invoke/MethodHandle" ∧ yX5_counted.cls ≠ "java/lang/invoke/VarHandle" ∧ (parseMethodDescriptor yX5_counted.desc).map (fun d => d.parameters.length) = some 1 := by decide +kernel
set_option maxRecDepth 100000 in
set_option maxHeartbeats 4000000 in
theorem mX5_counted (l : Launch) (dC : Nat → ClassId) (dI : Nat → Nat → Nat) (cyI cyC cyO : ClassId) (ob a1 a2 a3 a4 a5 a6 a7 a8 : Nat) (v_thrown : Int32) (v_z : Nat → Int32) (v_saved : Nat → Int32) (v_savedMany : Int32) (v_spare : Nat → Int32) (v_buffer : Nat → Int32) (v_typed : Int32) (v_marksBlown : Int32) (v_rests : Nat → Int32) (v_begins : Nat → Int32) (v_orders : Nat → Int32) (v_orderMany : Int32) (v_spot : Int32) (v_wrong : Int32) (v_isShort : Int32) (v_before : Nat → Int32) (v_hash : Int64) (p1 : Int32) {r : Int32} (hf : fX5_counted v_z v_savedMany p1 = some r) : MetRI l yX5_counted cX5_counted 2 (some .int) 9 210 [.ref ob, .int p1] (dC, dI) (tyS cyI cyC cyO) (wX5 cyI cyC ob a1 a2 a3 a4 a5 a6 a7 a8 v_thrown v_z v_saved v_savedMany v_spare v_buffer v_typed v_marksBlown v_rests v_begins v_orders v_orderMany v_spot v_wrong v_isShort v_before v_hash) r := by
  refine metRI_of (by decide) (Nat.le_of_ble_eq_true rfl) ?_
  intro p e s m below meth c ls hC hr hlk hP hK hl
  have hC : CallFix p m c cX5_counted 2 s [.ref ob, .int p1].toArray wA RX5 := hC
  obtain ⟨hx, hb, hml, hown, hts⟩ := id hC
  have hS : va_S kF s.heap s.heap [] := va_S.rf
  have hl : lv_has ls 2 [(0, .ref ob), (1, .int p1)] := hl
  have h := hf
  unfold fX5_counted at h
  obtain ⟨H, hH⟩ : ∃ H, H = s.heap := ⟨_, rfl⟩
  obtain ⟨locs, hlo⟩ : ∃ locs : List Loc, locs = [] := ⟨_, rfl⟩
  rw [← hH] at hP
  rw [← hlo] at hS
  have hS : va_S kF s.heap H locs := by rw [hH]; exact hS
  show W p l e (k_rm 9 210) s m [.ref ob, .int p1].toArray below meth c s.heap [] 0 0 _ _
  rw [← hlo, ← hH]
  refine lv_iload_n hx hb dX5_counted_0 rfl (lv_at hl 1 rfl) ?_
  refine g_arm (v := 0) (off := 67) (tgt := 68) hx hb dX5_counted_1 (by decide) (by decide) (by decide +kernel) (by decide) h (fun _ h => ?_) (fun n0 h => ?_)
  · refine lv_aload_n hx hb dX5_counted_68 rfl (lv_at hl 0 rfl) ?_
    refine va_get (D := (dC, dI)) (ci := 4) (v := .ref a1) (C := RX5) (T := TX5) (N := 17) hx hb hts iaX5 hown hK hP 0 rfl rfl 1 (by decide) (hts _ q717) (fun _ h9 => h9) rfl dX5_counted_69 ?_
    refine lv_iconst (v := 0) hx hb dX5_counted_72 (by decide) ?_
    refine g_iald hx hb hK hP 1 0 rfl rfl dX5_counted_73 h (fun x1 h => ?_)
    exact g_retRI hx hb hr hlk hS h dX5_counted_74
  · skip
    refine g_arm (v := 1) (off := 113) (tgt := 114) hx hb dX5_counted_1 (by decide) (by decide) (by decide +kernel) (by decide) h (fun _ h => ?_) (fun n1 h => ?_)
    · refine lv_aload_n hx hb dX5_counted_114 rfl (lv_at hl 0 rfl) ?_
      refine lv_iload_n hx hb dX5_counted_115 rfl (lv_at hl 1 rfl) ?_
      refine lv_iconst (v := 1) hx hb dX5_counted_116 (by decide) ?_
      refine g_isub hx hb dX5_counted_117 h (fun x2 h => ?_)
      obtain ⟨x3, hc118, h⟩ := k_b1_e h
      refine g_callRI_V (As := [.int x2]) (rest := []) hC (mX5_rowsOfKind l dC dI cyI cyC cyO ob a1 a2 a3 a4 a5 a6 a7 a8 v_thrown v_z v_saved v_savedMany v_spare v_buffer v_typed v_marksBlown v_rests v_begins v_orders v_orderMany v_spot v_wrong v_isShort v_before v_hash x2 hc118) q971 q972 q58 q75 q973 1 hdX5_rowsOfKind ⟨Nat.le_of_ble_eq_true rfl, Nat.le_of_ble_eq_true rfl⟩ ⟨Nat.le_of_ble_eq_true rfl, Nat.le_of_ble_eq_true rfl⟩ rfl rfl hl.1 (Nat.le_of_ble_eq_true rfl) hP hK (va_recv hK hP (ci := 4) (q0 := 0) rfl rfl) hS dX5_counted_118 (fun H locs hk hS => ?_)
      have hP := k_kept hP hk
      exact g_retRI hx hb hr hlk hS h dX5_counted_121
    · skip
      refine g_arm (v := 2) (off := 113) (tgt := 114) hx hb dX5_counted_1 (by decide) (by decide) (by decide +kernel) (by decide) h (fun _ h => ?_) (fun n2 h => ?_)
      · refine lv_aload_n hx hb dX5_counted_114 rfl (lv_at hl 0 rfl) ?_
        refine lv_iload_n hx hb dX5_counted_115 rfl (lv_at hl 1 rfl) ?_
        refine lv_iconst (v := 1) hx hb dX5_counted_116 (by decide) ?_
        refine g_isub hx hb dX5_counted_117 h (fun x4 h => ?_)
        obtain ⟨x5, hc118, h⟩ := k_b1_e h
        refine g_callRI_V (As := [.int x4]) (rest := []) hC (mX5_rowsOfKind l dC dI cyI cyC cyO ob a1 a2 a3 a4 a5 a6 a7 a8 v_thrown v_z v_saved v_savedMany v_spare v_buffer v_typed v_marksBlown v_rests v_begins v_orders v_orderMany v_spot v_wrong v_isShort v_before v_hash x4 hc118) q971 q972 q58 q75 q973 1 hdX5_rowsOfKind ⟨Nat.le_of_ble_eq_true rfl, Nat.le_of_ble_eq_true rfl⟩ ⟨Nat.le_of_ble_eq_true rfl, Nat.le_of_ble_eq_true rfl⟩ rfl rfl hl.1 (Nat.le_of_ble_eq_true rfl) hP hK (va_recv hK hP (ci := 4) (q0 := 0) rfl rfl) hS dX5_counted_118 (fun H locs hk hS => ?_)
        have hP := k_kept hP hk
        exact g_retRI hx hb hr hlk hS h dX5_counted_121
      · skip
        refine g_arm (v := 3) (off := 113) (tgt := 114) hx hb dX5_counted_1 (by decide) (by decide) (by decide +kernel) (by decide) h (fun _ h => ?_) (fun n3 h => ?_)
        · refine lv_aload_n hx hb dX5_counted_114 rfl (lv_at hl 0 rfl) ?_
          refine lv_iload_n hx hb dX5_counted_115 rfl (lv_at hl 1 rfl) ?_
          refine lv_iconst (v := 1) hx hb dX5_counted_116 (by decide) ?_
          refine g_isub hx hb dX5_counted_117 h (fun x6 h => ?_)
          obtain ⟨x7, hc118, h⟩ := k_b1_e h
          refine g_callRI_V (As := [.int x6]) (rest := []) hC (mX5_rowsOfKind l dC dI cyI cyC cyO ob a1 a2 a3 a4 a5 a6 a7 a8 v_thrown v_z v_saved v_savedMany v_spare v_buffer v_typed v_marksBlown v_rests v_begins v_orders v_orderMany v_spot v_wrong v_isShort v_before v_hash x6 hc118) q971 q972 q58 q75 q973 1 hdX5_rowsOfKind ⟨Nat.le_of_ble_eq_true rfl, Nat.le_of_ble_eq_true rfl⟩ ⟨Nat.le_of_ble_eq_true rfl, Nat.le_of_ble_eq_true rfl⟩ rfl rfl hl.1 (Nat.le_of_ble_eq_true rfl) hP hK (va_recv hK hP (ci := 4) (q0 := 0) rfl rfl) hS dX5_counted_118 (fun H locs hk hS => ?_)
          have hP := k_kept hP hk
          exact g_retRI hx hb hr hlk hS h dX5_counted_121
        · skip
          refine g_arm (v := 4) (off := 113) (tgt := 114) hx hb dX5_counted_1 (by decide) (by decide) (by decide +kernel) (by decide) h (fun _ h => ?_) (fun n4 h => ?_)
          · refine lv_aload_n hx hb dX5_counted_114 rfl (lv_at hl 0 rfl) ?_
            refine lv_iload_n hx hb dX5_counted_115 rfl (lv_at hl 1 rfl) ?_
            refine lv_iconst (v := 1) hx hb dX5_counted_116 (by decide) ?_
            refine g_isub hx hb dX5_counted_117 h (fun x8 h => ?_)
            obtain ⟨x9, hc118, h⟩ := k_b1_e h
            refine g_callRI_V (As := [.int x8]) (rest := []) hC (mX5_rowsOfKind l dC dI cyI cyC cyO ob a1 a2 a3 a4 a5 a6 a7 a8 v_thrown v_z v_saved v_savedMany v_spare v_buffer v_typed v_marksBlown v_rests v_begins v_orders v_orderMany v_spot v_wrong v_isShort v_before v_hash x8 hc118) q971 q972 q58 q75 q973 1 hdX5_rowsOfKind ⟨Nat.le_of_ble_eq_true rfl, Nat.le_of_ble_eq_true rfl⟩ ⟨Nat.le_of_ble_eq_true rfl, Nat.le_of_ble_eq_true rfl⟩ rfl rfl hl.1 (Nat.le_of_ble_eq_true rfl) hP hK (va_recv hK hP (ci := 4) (q0 := 0) rfl rfl) hS dX5_counted_118 (fun H locs hk hS => ?_)
            have hP := k_kept hP hk
            exact g_retRI hx hb hr hlk hS h dX5_counted_121
          · skip
            refine g_arm (v := 5) (off := 113) (tgt := 114) hx hb dX5_counted_1 (by decide) (by decide) (by decide +kernel) (by decide) h (fun _ h => ?_) (fun n5 h => ?_)
            · refine lv_aload_n hx hb dX5_counted_114 rfl (lv_at hl 0 rfl) ?_
              refine lv_iload_n hx hb dX5_counted_115 rfl (lv_at hl 1 rfl) ?_
              refine lv_iconst (v := 1) hx hb dX5_counted_116 (by decide) ?_
              refine g_isub hx hb dX5_counted_117 h (fun x10 h => ?_)
              obtain ⟨x11, hc118, h⟩ := k_b1_e h
              refine g_callRI_V (As := [.int x10]) (rest := []) hC (mX5_rowsOfKind l dC dI cyI cyC cyO ob a1 a2 a3 a4 a5 a6 a7 a8 v_thrown v_z v_saved v_savedMany v_spare v_buffer v_typed v_marksBlown v_rests v_begins v_orders v_orderMany v_spot v_wrong v_isShort v_before v_hash x10 hc118) q971 q972 q58 q75 q973 1 hdX5_rowsOfKind ⟨Nat.le_of_ble_eq_true rfl, Nat.le_of_ble_eq_true rfl⟩ ⟨Nat.le_of_ble_eq_true rfl, Nat.le_of_ble_eq_true rfl⟩ rfl rfl hl.1 (Nat.le_of_ble_eq_true rfl) hP hK (va_recv hK hP (ci := 4) (q0 := 0) rfl rfl) hS dX5_counted_118 (fun H locs hk hS => ?_)
              have hP := k_kept hP hk
              exact g_retRI hx hb hr hlk hS h dX5_counted_121
            · skip
              refine g_arm (v := 6) (off := 74) (tgt := 75) hx hb dX5_counted_1 (by decide) (by decide) (by decide +kernel) (by decide) h (fun _ h => ?_) (fun n6 h => ?_)
              · refine lv_aload_n hx hb dX5_counted_75 rfl (lv_at hl 0 rfl) ?_
                obtain ⟨x12, hc76, h⟩ := k_b1_e h
                refine g_callRI_V (As := []) (rest := []) hC (mX5_lockedMany l dC dI cyI cyC cyO ob a1 a2 a3 a4 a5 a6 a7 a8 v_thrown v_z v_saved v_savedMany v_spare v_buffer v_typed v_marksBlown v_rests v_begins v_orders v_orderMany v_spot v_wrong v_isShort v_before v_hash hc76) q829 q830 q30 q75 q831 0 hdX5_lockedMany ⟨Nat.le_of_ble_eq_true rfl, Nat.le_of_ble_eq_true rfl⟩ ⟨Nat.le_of_ble_eq_true rfl, Nat.le_of_ble_eq_true rfl⟩ rfl rfl hl.1 (Nat.le_of_ble_eq_true rfl) hP hK (va_recv hK hP (ci := 4) (q0 := 0) rfl rfl) hS dX5_counted_76 (fun H locs hk hS => ?_)
                have hP := k_kept hP hk
                exact g_retRI hx hb hr hlk hS h dX5_counted_79
              · skip
                refine g_arm (v := 7) (off := 79) (tgt := 80) hx hb dX5_counted_1 (by decide) (by decide) (by decide +kernel) (by decide) h (fun _ h => ?_) (fun n7 h => ?_)
                · refine lv_aload_n hx hb dX5_counted_80 rfl (lv_at hl 0 rfl) ?_
                  obtain ⟨x13, hc81, h⟩ := k_b1_e h
                  refine g_callRI_V (As := []) (rest := []) hC (mX5_doubtfulAll l dC dI cyI cyC cyO ob a1 a2 a3 a4 a5 a6 a7 a8 v_thrown v_z v_saved v_savedMany v_spare v_buffer v_typed v_marksBlown v_rests v_begins v_orders v_orderMany v_spot v_wrong v_isShort v_before v_hash hc81) q965 q966 q56 q75 q967 0 hdX5_doubtfulAll ⟨Nat.le_of_ble_eq_true rfl, Nat.le_of_ble_eq_true rfl⟩ ⟨Nat.le_of_ble_eq_true rfl, Nat.le_of_ble_eq_true rfl⟩ rfl rfl hl.1 (Nat.le_of_ble_eq_true rfl) hP hK (va_recv hK hP (ci := 4) (q0 := 0) rfl rfl) hS dX5_counted_81 (fun H locs hk hS => ?_)
                  have hP := k_kept hP hk
                  exact g_retRI hx hb hr hlk hS h dX5_counted_84
                · skip
                  refine g_arm (v := 8) (off := 84) (tgt := 85) hx hb dX5_counted_1 (by decide) (by decide) (by decide +kernel) (by decide) h (fun _ h => ?_) (fun n8 h => ?_)
                  · refine lv_aload_n hx hb dX5_counted_85 rfl (lv_at hl 0 rfl) ?_
                    refine va_get (D := (dC, dI)) (ci := 4) (v := .ref a1) (C := RX5) (T := TX5) (N := 17) hx hb hts iaX5 hown hK hP 0 rfl rfl 1 (by decide) (hts _ q717) (fun _ h9 => h9) rfl dX5_counted_86 ?_
                    refine lv_iconst (v := 1) hx hb dX5_counted_89 (by decide) ?_
                    refine g_iald hx hb hK hP 1 0 rfl rfl dX5_counted_90 h (fun x14 h => ?_)
                    exact g_retRI hx hb hr hlk hS h dX5_counted_91
                  · skip
                    refine g_arm (v := 9) (off := 91) (tgt := 92) hx hb dX5_counted_1 (by decide) (by decide) (by decide +kernel) (by decide) h (fun _ h => ?_) (fun n9 h => ?_)
                    · refine lv_aload_n hx hb dX5_counted_92 rfl (lv_at hl 0 rfl) ?_
                      obtain ⟨x15, hc93, h⟩ := k_b1_e h
                      refine g_callRI_V (As := []) (rest := []) hC (mX5_keysWithValue l dC dI cyI cyC cyO ob a1 a2 a3 a4 a5 a6 a7 a8 v_thrown v_z v_saved v_savedMany v_spare v_buffer v_typed v_marksBlown v_rests v_begins v_orders v_orderMany v_spot v_wrong v_isShort v_before v_hash hc93) q968 q969 q57 q75 q970 0 hdX5_keysWithValue ⟨Nat.le_of_ble_eq_true rfl, Nat.le_of_ble_eq_true rfl⟩ ⟨Nat.le_of_ble_eq_true rfl, Nat.le_of_ble_eq_true rfl⟩ rfl rfl hl.1 (Nat.le_of_ble_eq_true rfl) hP hK (va_recv hK hP (ci := 4) (q0 := 0) rfl rfl) hS dX5_counted_93 (fun H locs hk hS => ?_)
                      have hP := k_kept hP hk
                      exact g_retRI hx hb hr hlk hS h dX5_counted_96
                    · skip
                      refine g_arm (v := 10) (off := 96) (tgt := 97) hx hb dX5_counted_1 (by decide) (by decide) (by decide +kernel) (by decide) h (fun _ h => ?_) (fun n10 h => ?_)
                      · refine lv_aload_n hx hb dX5_counted_97 rfl (lv_at hl 0 rfl) ?_
                        obtain ⟨x16, hc98, h⟩ := k_b1_e h
                        refine g_callRI_V (As := []) (rest := []) hC (mX5_nextRow l dC dI cyI cyC cyO ob a1 a2 a3 a4 a5 a6 a7 a8 v_thrown v_z v_saved v_savedMany v_spare v_buffer v_typed v_marksBlown v_rests v_begins v_orders v_orderMany v_spot v_wrong v_isShort v_before v_hash hc98) q779 q780 q21 q75 q781 0 hdX5_nextRow ⟨Nat.le_of_ble_eq_true rfl, Nat.le_of_ble_eq_true rfl⟩ ⟨Nat.le_of_ble_eq_true rfl, Nat.le_of_ble_eq_true rfl⟩ rfl rfl hl.1 (Nat.le_of_ble_eq_true rfl) hP hK (va_recv hK hP (ci := 4) (q0 := 0) rfl rfl) hS dX5_counted_98 (fun H locs hk hS => ?_)
                        have hP := k_kept hP hk
                        exact g_retRI hx hb hr hlk hS h dX5_counted_101
                      · skip
                        refine g_arm (v := 11) (off := 101) (tgt := 102) hx hb dX5_counted_1 (by decide) (by decide) (by decide +kernel) (by decide) h (fun _ h => ?_) (fun n11 h => ?_)
                        · refine lv_aload_n hx hb dX5_counted_102 rfl (lv_at hl 0 rfl) ?_
                          refine va_get (D := (dC, dI)) (ci := 4) (v := .ref a1) (C := RX5) (T := TX5) (N := 17) hx hb hts iaX5 hown hK hP 0 rfl rfl 1 (by decide) (hts _ q717) (fun _ h9 => h9) rfl dX5_counted_103 ?_
                          refine lv_iconst (v := 2) hx hb dX5_counted_106 (by decide) ?_
                          refine g_iald hx hb hK hP 1 0 rfl rfl dX5_counted_107 h (fun x17 h => ?_)
                          exact g_retRI hx hb hr hlk hS h dX5_counted_108
                        · skip
                          refine g_arm (v := 12) (off := 108) (tgt := 109) hx hb dX5_counted_1 (by decide) (by decide) (by decide +kernel) (by decide) h (fun _ h => ?_) (fun n12 h => ?_)
                          · refine lv_aload_n hx hb dX5_counted_109 rfl (lv_at hl 0 rfl) ?_
                            refine va_get (D := (dC, dI)) (ci := 4) (v := .int v_savedMany) (C := RX5) (T := TX5) (N := 17) hx hb hts iaX5 hown hK hP 0 rfl rfl 3 (by decide) (hts _ q719) (fun _ h9 => h9) rfl dX5_counted_110 ?_
                            exact g_retRI hx hb hr hlk hS h dX5_counted_113
                          · skip
                            refine lv_tableOut (tgt := 114) hx hb dX5_counted_1 (by have z0 := g_ne (z := 0) (by decide) n0; have z1 := g_ne (z := 1) (by decide) n1; have z2 := g_ne (z := 2) (by decide) n2; have z3 := g_ne (z := 3) (by decide) n3; have z4 := g_ne (z := 4) (by decide) n4; have z5 := g_ne (z := 5) (by decide) n5; have z6 := g_ne (z := 6) (by decide) n6; have z7 := g_ne (z := 7) (by decide) n7; have z8 := g_ne (z := 8) (by decide) n8; have z9 := g_ne (z := 9) (by decide) n9; have z10 := g_ne (z := 10) (by decide) n10; have z11 := g_ne (z := 11) (by decide) n11; have z12 := g_ne (z := 12) (by decide) n12; omega) (by decide) ?_
                            refine lv_aload_n hx hb dX5_counted_114 rfl (lv_at hl 0 rfl) ?_
                            refine lv_iload_n hx hb dX5_counted_115 rfl (lv_at hl 1 rfl) ?_
                            refine lv_iconst (v := 1) hx hb dX5_counted_116 (by decide) ?_
                            refine g_isub hx hb dX5_counted_117 h (fun x18 h => ?_)
                            obtain ⟨x19, hc118, h⟩ := k_b1_e h
                            refine g_callRI_V (As := [.int x18]) (rest := []) hC (mX5_rowsOfKind l dC dI cyI cyC cyO ob a1 a2 a3 a4 a5 a6 a7 a8 v_thrown v_z v_saved v_savedMany v_spare v_buffer v_typed v_marksBlown v_rests v_begins v_orders v_orderMany v_spot v_wrong v_isShort v_before v_hash x18 hc118) q971 q972 q58 q75 q973 1 hdX5_rowsOfKind ⟨Nat.le_of_ble_eq_true rfl, Nat.le_of_ble_eq_true rfl⟩ ⟨Nat.le_of_ble_eq_true rfl, Nat.le_of_ble_eq_true rfl⟩ rfl rfl hl.1 (Nat.le_of_ble_eq_true rfl) hP hK (va_recv hK hP (ci := 4) (q0 := 0) rfl rfl) hS dX5_counted_118 (fun H locs hk hS => ?_)
                            have hP := k_kept hP hk
                            exact g_retRI hx hb hr hlk hS h dX5_counted_121
def fX5_count (v_thrown : Int32) (v_z : Nat → Int32) (v_savedMany : Int32) (p1 : Int32) : Option (Int32 × Int32) :=
  k_b1 (fX5_in p1 0 12) fun (x1 : Int32) =>
  k_j1
  (fun (x2 : Int32) =>
    k_if (x2 ≤ 0)
    (
      k_b1 (fX5_counted v_z v_savedMany p1) fun (x3 : Int32) =>
      some (x3, x2))
    (
      some (0, x2)))
  (fun K16 =>
  k_if (x1 = 0)
  (
    K16 1)
  (
    K16 0))
theorem hdX5_count : yX5_count.cls = RX5 ∧ yX5_count.cls ≠ "java/lang/invoke/MethodHandle" ∧ yX5_count.cls ≠ "java/lang/invoke/VarHandle" ∧ (parseMethodDescriptor yX5_count.desc).map (fun d => d.parameters.length) = some 1 := by decide +kernel
set_option maxRecDepth 100000 in
set_option maxHeartbeats 4000000 in
theorem mX5_count (l : Launch) (dC : Nat → ClassId) (dI : Nat → Nat → Nat) (cyI cyC cyO : ClassId) (ob a1 a2 a3 a4 a5 a6 a7 a8 : Nat) (v_thrown : Int32) (v_z : Nat → Int32) (v_saved : Nat → Int32) (v_savedMany : Int32) (v_spare : Nat → Int32) (v_buffer : Nat → Int32) (v_typed : Int32) (v_marksBlown : Int32) (v_rests : Nat → Int32) (v_begins : Nat → Int32) (v_orders : Nat → Int32) (v_orderMany : Int32) (v_spot : Int32) (v_wrong : Int32) (v_isShort : Int32) (v_before : Nat → Int32) (v_hash : Int64) (p1 : Int32) {r : Int32} {r_thrown : Int32} (hf : fX5_count v_thrown v_z v_savedMany p1 = some (r, r_thrown)) : MetMI l yX5_count cX5_count 2 (some .int) 10 231 [.ref ob, .int p1] (dC, dI) (tyS cyI cyC cyO) (wX5 cyI cyC ob a1 a2 a3 a4 a5 a6 a7 a8 v_thrown v_z v_saved v_savedMany v_spare v_buffer v_typed v_marksBlown v_rests v_begins v_orders v_orderMany v_spot v_wrong v_isShort v_before v_hash) (wX5 cyI cyC ob a1 a2 a3 a4 a5 a6 a7 a8 r_thrown v_z v_saved v_savedMany v_spare v_buffer v_typed v_marksBlown v_rests v_begins v_orders v_orderMany v_spot v_wrong v_isShort v_before v_hash) r := by
  refine metMI_of (by decide) (Nat.le_of_ble_eq_true rfl) ?_
  intro p e s m below meth c ls hC hr hlk hP hK hD hl
  have hC : CallFix p m c cX5_count 2 s [.ref ob, .int p1].toArray wA RX5 := hC
  obtain ⟨hx, hb, hml, hown, hts⟩ := id hC
  have hS : va_S (k_A (wX5 cyI cyC ob a1 a2 a3 a4 a5 a6 a7 a8 v_thrown v_z v_saved v_savedMany v_spare v_buffer v_typed v_marksBlown v_rests v_begins v_orders v_orderMany v_spot v_wrong v_isShort v_before v_hash)) s.heap s.heap [] := va_S.rf
  have hl : lv_has ls 2 [(0, .ref ob), (1, .int p1)] := hl
  have h := hf
  unfold fX5_count at h
  obtain ⟨H, hH⟩ : ∃ H, H = s.heap := ⟨_, rfl⟩
  obtain ⟨locs, hlo⟩ : ∃ locs : List Loc, locs = [] := ⟨_, rfl⟩
  rw [← hH] at hP
  rw [← hlo] at hS
  have hS : va_S (k_A (wX5 cyI cyC ob a1 a2 a3 a4 a5 a6 a7 a8 v_thrown v_z v_saved v_savedMany v_spare v_buffer v_typed v_marksBlown v_rests v_begins v_orders v_orderMany v_spot v_wrong v_isShort v_before v_hash)) s.heap H locs := by rw [hH]; exact hS
  show W p l e (k_rm 10 231) s m [.ref ob, .int p1].toArray below meth c s.heap [] 0 0 _ _
  rw [← hlo, ← hH]
  refine lv_aload_n hx hb dX5_count_0 rfl (lv_at hl 0 rfl) ?_
  refine lv_iload_n hx hb dX5_count_1 rfl (lv_at hl 1 rfl) ?_
  refine lv_iconst (v := 0) hx hb dX5_count_2 (by decide) ?_
  refine lv_bipush (v := 12) hx hb dX5_count_3 (by decide) ?_
  obtain ⟨x1, hc5, h⟩ := k_b1_e h
  refine g_callRI_S (As := [.int p1, .int 0, .int 12]) (rest := [.ref ob]) hC (mX5_in l dC dI cyI cyC cyO p1 0 12 hc5) q748 q749 q75 q750 3 hdX5_in ⟨Nat.le_of_ble_eq_true rfl, Nat.le_of_ble_eq_true rfl⟩ ⟨Nat.le_of_ble_eq_true rfl, Nat.le_of_ble_eq_true rfl⟩ rfl rfl hl.1 (Nat.le_of_ble_eq_true rfl) va_P_nil hK hS dX5_count_5 (fun H locs hk hS => ?_)
  have hP := k_kept hP hk
  obtain ⟨K16, hK16, h⟩ := k_j1_e h
  have J16 : ∀ (x2 : Int32) (H : Heap) (locs : List Loc) (ls : Array Slot), K16 x2 = some (r, r_thrown) → va_P (dC, dI) vwCl (wX5 cyI cyC ob a1 a2 a3 a4 a5 a6 a7 a8 v_thrown v_z v_saved v_savedMany v_spare v_buffer v_typed v_marksBlown v_rests v_begins v_orders v_orderMany v_spot v_wrong v_isShort v_before v_hash) H → va_S (k_A (wX5 cyI cyC ob a1 a2 a3 a4 a5 a6 a7 a8 v_thrown v_z v_saved v_savedMany v_spare v_buffer v_typed v_marksBlown v_rests v_begins v_orders v_orderMany v_spot v_wrong v_isShort v_before v_hash)) s.heap H locs → lv_has ls 2 [(0, .ref ob), (1, .int p1)] → W p l e (k_rm 10 231) s m [.ref ob, .int p1].toArray below meth c H locs 0 0 (MQ below (qMI r (dC, dI) (wX5 cyI cyC ob a1 a2 a3 a4 a5 a6 a7 a8 v_thrown v_z v_saved v_savedMany v_spare v_buffer v_typed v_marksBlown v_rests v_begins v_orders v_orderMany v_spot v_wrong v_isShort v_before v_hash) (wX5 cyI cyC ob a1 a2 a3 a4 a5 a6 a7 a8 r_thrown v_z v_saved v_savedMany v_spare v_buffer v_typed v_marksBlown v_rests v_begins v_orders v_orderMany v_spot v_wrong v_isShort v_before v_hash)) [.ref ob, .int p1].toArray s 0 0 (k_A (wX5 cyI cyC ob a1 a2 a3 a4 a5 a6 a7 a8 v_thrown v_z v_saved v_savedMany v_spare v_buffer v_typed v_marksBlown v_rests v_begins v_orders v_orderMany v_spot v_wrong v_isShort v_before v_hash))) (F0 m 16 ls [.int x2, .ref ob]) := by
    intro x2 H locs ls h hP hS hl
    have h := k_a1 hK16 h
    refine va_put (D := (dC, dI)) (ci := 4) (v := .int x2) (ty := .int) (C := RX5) (T := TX5) (N := 17) hx hb hts iaX5 tyX5 tyX5_ok nmX5 hown hK hP hD hS 0 rfl rfl 0 (by decide) (hts _ q716) (fun _ h9 => h9) rfl (by decide +kernel) rfl rfl (Nat.le_of_ble_eq_true rfl) dX5_count_16 (fun H locs hP _ hS => ?_)
    have hP : va_P (dC, dI) vwCl (wX5 cyI cyC ob a1 a2 a3 a4 a5 a6 a7 a8 x2 v_z v_saved v_savedMany v_spare v_buffer v_typed v_marksBlown v_rests v_begins v_orders v_orderMany v_spot v_wrong v_isShort v_before v_hash) H := hP
    have hD : va_D (k_A (wX5 cyI cyC ob a1 a2 a3 a4 a5 a6 a7 a8 v_thrown v_z v_saved v_savedMany v_spare v_buffer v_typed v_marksBlown v_rests v_begins v_orders v_orderMany v_spot v_wrong v_isShort v_before v_hash)) (wX5 cyI cyC ob a1 a2 a3 a4 a5 a6 a7 a8 x2 v_z v_saved v_savedMany v_spare v_buffer v_typed v_marksBlown v_rests v_begins v_orders v_orderMany v_spot v_wrong v_isShort v_before v_hash) := k_Dm hD rfl
    refine lv_aload_n hx hb dX5_count_19 rfl (lv_at hl 0 rfl) ?_
    refine va_get (D := (dC, dI)) (ci := 4) (v := .int x2) (C := RX5) (T := TX5) (N := 17) hx hb hts iaX5 hown hK hP 0 rfl rfl 0 (by decide) (hts _ q716) (fun _ h9 => h9) rfl dX5_count_20 ?_
    refine g_if_le (tgt := 30) hx hb dX5_count_23 (by decide) h (fun h => ?_) (fun h => ?_)
    · refine lv_aload_n hx hb dX5_count_30 rfl (lv_at hl 0 rfl) ?_
      refine lv_iload_n hx hb dX5_count_31 rfl (lv_at hl 1 rfl) ?_
      obtain ⟨x3, hc32, h⟩ := k_b1_e h
      refine g_callRI_V (As := [.int p1]) (rest := []) hC (mX5_counted l dC dI cyI cyC cyO ob a1 a2 a3 a4 a5 a6 a7 a8 x2 v_z v_saved v_savedMany v_spare v_buffer v_typed v_marksBlown v_rests v_begins v_orders v_orderMany v_spot v_wrong v_isShort v_before v_hash p1 hc32) q962 q963 q55 q75 q964 1 hdX5_counted ⟨Nat.le_of_ble_eq_true rfl, Nat.le_of_ble_eq_true rfl⟩ ⟨Nat.le_of_ble_eq_true rfl, Nat.le_of_ble_eq_true rfl⟩ rfl rfl hl.1 (Nat.le_of_ble_eq_true rfl) hP hK (va_recv hK hP (ci := 4) (q0 := 0) rfl rfl) hS dX5_count_32 (fun H locs hk hS => ?_)
      have hP := k_kept hP hk
      obtain ⟨e0, e1⟩ := k_t2 h
      exact g_retMI hx hb hr hlk hS e0 (by rw [← e1]; exact hP) dX5_count_35
    · refine lv_iconst (v := 0) hx hb dX5_count_26 (by decide) ?_
      refine lv_goto (tgt := 35) hx hb dX5_count_27 (by decide) ?_
      obtain ⟨e0, e1⟩ := k_t2 h
      exact g_retMI hx hb hr hlk hS e0 (by rw [← e1]; exact hP) dX5_count_35
  refine g_if_eq (tgt := 15) hx hb dX5_count_8 (by decide) h (fun h => ?_) (fun h => ?_)
  · refine lv_iconst (v := 1) hx hb dX5_count_15 (by decide) ?_
    exact J16 1 _ _ _ h hP hS (lv_sub hl [0, 1] rfl)
  · refine lv_iconst (v := 0) hx hb dX5_count_11 (by decide) ?_
    refine lv_goto (tgt := 16) hx hb dX5_count_12 (by decide) ?_
    exact J16 0 _ _ _ h hP hS (lv_sub hl [0, 1] rfl)
def fX5_setting (v_thrown : Int32) (v_z : Nat → Int32) (p1 : Int32) : Option (Int32 × Int32) :=
  k_b1 (fX5_in p1 0 3) fun (x1 : Int32) =>
  k_j1
  (fun (x2 : Int32) =>
    k_if (x2 ≤ 0)
    (
      k_let (3 + p1) fun (x3 : Int32) =>
      k_ck x3 327 <| k_let (v_z x3.toNatClampNeg) fun (x4 : Int32) =>
      some (x4, x2))
    (
      some (0, x2)))
  (fun K15 =>
  k_if (x1 = 0)
  (
    K15 1)
  (
    K15 0))
theorem hdX5_setting : yX5_setting.cls = RX5 ∧ yX5_setting.cls ≠ "java/lang/invoke/MethodHandle" ∧ yX5_setting.cls ≠ "java/lang/invoke/VarHandle" ∧ (parseMethodDescriptor yX5_setting.desc).map (fun d => d.parameters.length) = some 1 := by decide +kernel
set_option maxRecDepth 100000 in
set_option maxHeartbeats 4000000 in
theorem mX5_setting (l : Launch) (dC : Nat → ClassId) (dI : Nat → Nat → Nat) (cyI cyC cyO : ClassId) (ob a1 a2 a3 a4 a5 a6 a7 a8 : Nat) (v_thrown : Int32) (v_z : Nat → Int32) (v_saved : Nat → Int32) (v_savedMany : Int32) (v_spare : Nat → Int32) (v_buffer : Nat → Int32) (v_typed : Int32) (v_marksBlown : Int32) (v_rests : Nat → Int32) (v_begins : Nat → Int32) (v_orders : Nat → Int32) (v_orderMany : Int32) (v_spot : Int32) (v_wrong : Int32) (v_isShort : Int32) (v_before : Nat → Int32) (v_hash : Int64) (p1 : Int32) {r : Int32} {r_thrown : Int32} (hf : fX5_setting v_thrown v_z p1 = some (r, r_thrown)) : MetMI l yX5_setting cX5_setting 2 (some .int) 1 22 [.ref ob, .int p1] (dC, dI) (tyS cyI cyC cyO) (wX5 cyI cyC ob a1 a2 a3 a4 a5 a6 a7 a8 v_thrown v_z v_saved v_savedMany v_spare v_buffer v_typed v_marksBlown v_rests v_begins v_orders v_orderMany v_spot v_wrong v_isShort v_before v_hash) (wX5 cyI cyC ob a1 a2 a3 a4 a5 a6 a7 a8 r_thrown v_z v_saved v_savedMany v_spare v_buffer v_typed v_marksBlown v_rests v_begins v_orders v_orderMany v_spot v_wrong v_isShort v_before v_hash) r := by
  refine metMI_of (by decide) (Nat.le_of_ble_eq_true rfl) ?_
  intro p e s m below meth c ls hC hr hlk hP hK hD hl
  have hC : CallFix p m c cX5_setting 2 s [.ref ob, .int p1].toArray wA RX5 := hC
  obtain ⟨hx, hb, hml, hown, hts⟩ := id hC
  have hS : va_S (k_A (wX5 cyI cyC ob a1 a2 a3 a4 a5 a6 a7 a8 v_thrown v_z v_saved v_savedMany v_spare v_buffer v_typed v_marksBlown v_rests v_begins v_orders v_orderMany v_spot v_wrong v_isShort v_before v_hash)) s.heap s.heap [] := va_S.rf
  have hl : lv_has ls 2 [(0, .ref ob), (1, .int p1)] := hl
  have h := hf
  unfold fX5_setting at h
  obtain ⟨H, hH⟩ : ∃ H, H = s.heap := ⟨_, rfl⟩
  obtain ⟨locs, hlo⟩ : ∃ locs : List Loc, locs = [] := ⟨_, rfl⟩
  rw [← hH] at hP
  rw [← hlo] at hS
  have hS : va_S (k_A (wX5 cyI cyC ob a1 a2 a3 a4 a5 a6 a7 a8 v_thrown v_z v_saved v_savedMany v_spare v_buffer v_typed v_marksBlown v_rests v_begins v_orders v_orderMany v_spot v_wrong v_isShort v_before v_hash)) s.heap H locs := by rw [hH]; exact hS
  show W p l e (k_rm 1 22) s m [.ref ob, .int p1].toArray below meth c s.heap [] 0 0 _ _
  rw [← hlo, ← hH]
  refine lv_aload_n hx hb dX5_setting_0 rfl (lv_at hl 0 rfl) ?_
  refine lv_iload_n hx hb dX5_setting_1 rfl (lv_at hl 1 rfl) ?_
  refine lv_iconst (v := 0) hx hb dX5_setting_2 (by decide) ?_
  refine lv_iconst (v := 3) hx hb dX5_setting_3 (by decide) ?_
  obtain ⟨x1, hc4, h⟩ := k_b1_e h
  refine g_callRI_S (As := [.int p1, .int 0, .int 3]) (rest := [.ref ob]) hC (mX5_in l dC dI cyI cyC cyO p1 0 3 hc4) q748 q749 q75 q750 3 hdX5_in ⟨Nat.le_of_ble_eq_true rfl, Nat.le_of_ble_eq_true rfl⟩ ⟨Nat.le_of_ble_eq_true rfl, Nat.le_of_ble_eq_true rfl⟩ rfl rfl hl.1 (Nat.le_of_ble_eq_true rfl) va_P_nil hK hS dX5_setting_4 (fun H locs hk hS => ?_)
  have hP := k_kept hP hk
  obtain ⟨K15, hK15, h⟩ := k_j1_e h
  have J15 : ∀ (x2 : Int32) (H : Heap) (locs : List Loc) (ls : Array Slot), K15 x2 = some (r, r_thrown) → va_P (dC, dI) vwCl (wX5 cyI cyC ob a1 a2 a3 a4 a5 a6 a7 a8 v_thrown v_z v_saved v_savedMany v_spare v_buffer v_typed v_marksBlown v_rests v_begins v_orders v_orderMany v_spot v_wrong v_isShort v_before v_hash) H → va_S (k_A (wX5 cyI cyC ob a1 a2 a3 a4 a5 a6 a7 a8 v_thrown v_z v_saved v_savedMany v_spare v_buffer v_typed v_marksBlown v_rests v_begins v_orders v_orderMany v_spot v_wrong v_isShort v_before v_hash)) s.heap H locs → lv_has ls 2 [(0, .ref ob), (1, .int p1)] → W p l e (k_rm 1 22) s m [.ref ob, .int p1].toArray below meth c H locs 0 0 (MQ below (qMI r (dC, dI) (wX5 cyI cyC ob a1 a2 a3 a4 a5 a6 a7 a8 v_thrown v_z v_saved v_savedMany v_spare v_buffer v_typed v_marksBlown v_rests v_begins v_orders v_orderMany v_spot v_wrong v_isShort v_before v_hash) (wX5 cyI cyC ob a1 a2 a3 a4 a5 a6 a7 a8 r_thrown v_z v_saved v_savedMany v_spare v_buffer v_typed v_marksBlown v_rests v_begins v_orders v_orderMany v_spot v_wrong v_isShort v_before v_hash)) [.ref ob, .int p1].toArray s 0 0 (k_A (wX5 cyI cyC ob a1 a2 a3 a4 a5 a6 a7 a8 v_thrown v_z v_saved v_savedMany v_spare v_buffer v_typed v_marksBlown v_rests v_begins v_orders v_orderMany v_spot v_wrong v_isShort v_before v_hash))) (F0 m 15 ls [.int x2, .ref ob]) := by
    intro x2 H locs ls h hP hS hl
    have h := k_a1 hK15 h
    refine va_put (D := (dC, dI)) (ci := 4) (v := .int x2) (ty := .int) (C := RX5) (T := TX5) (N := 17) hx hb hts iaX5 tyX5 tyX5_ok nmX5 hown hK hP hD hS 0 rfl rfl 0 (by decide) (hts _ q716) (fun _ h9 => h9) rfl (by decide +kernel) rfl rfl (Nat.le_of_ble_eq_true rfl) dX5_setting_15 (fun H locs hP _ hS => ?_)
    have hP : va_P (dC, dI) vwCl (wX5 cyI cyC ob a1 a2 a3 a4 a5 a6 a7 a8 x2 v_z v_saved v_savedMany v_spare v_buffer v_typed v_marksBlown v_rests v_begins v_orders v_orderMany v_spot v_wrong v_isShort v_before v_hash) H := hP
    have hD : va_D (k_A (wX5 cyI cyC ob a1 a2 a3 a4 a5 a6 a7 a8 v_thrown v_z v_saved v_savedMany v_spare v_buffer v_typed v_marksBlown v_rests v_begins v_orders v_orderMany v_spot v_wrong v_isShort v_before v_hash)) (wX5 cyI cyC ob a1 a2 a3 a4 a5 a6 a7 a8 x2 v_z v_saved v_savedMany v_spare v_buffer v_typed v_marksBlown v_rests v_begins v_orders v_orderMany v_spot v_wrong v_isShort v_before v_hash) := k_Dm hD rfl
    refine lv_aload_n hx hb dX5_setting_18 rfl (lv_at hl 0 rfl) ?_
    refine va_get (D := (dC, dI)) (ci := 4) (v := .int x2) (C := RX5) (T := TX5) (N := 17) hx hb hts iaX5 hown hK hP 0 rfl rfl 0 (by decide) (hts _ q716) (fun _ h9 => h9) rfl dX5_setting_19 ?_
    refine g_if_le (tgt := 29) hx hb dX5_setting_22 (by decide) h (fun h => ?_) (fun h => ?_)
    · refine lv_aload_n hx hb dX5_setting_29 rfl (lv_at hl 0 rfl) ?_
      refine va_get (D := (dC, dI)) (ci := 4) (v := .ref a1) (C := RX5) (T := TX5) (N := 17) hx hb hts iaX5 hown hK hP 0 rfl rfl 1 (by decide) (hts _ q717) (fun _ h9 => h9) rfl dX5_setting_30 ?_
      refine lv_iconst (v := 3) hx hb dX5_setting_33 (by decide) ?_
      refine lv_iload_n hx hb dX5_setting_34 rfl (lv_at hl 1 rfl) ?_
      refine g_iadd hx hb dX5_setting_35 h (fun x3 h => ?_)
      refine g_iald hx hb hK hP 1 0 rfl rfl dX5_setting_36 h (fun x4 h => ?_)
      obtain ⟨e0, e1⟩ := k_t2 h
      exact g_retMI hx hb hr hlk hS e0 (by rw [← e1]; exact hP) dX5_setting_37
    · refine lv_iconst (v := 0) hx hb dX5_setting_25 (by decide) ?_
      refine lv_goto (tgt := 37) hx hb dX5_setting_26 (by decide) ?_
      obtain ⟨e0, e1⟩ := k_t2 h
      exact g_retMI hx hb hr hlk hS e0 (by rw [← e1]; exact hP) dX5_setting_37
  refine g_if_eq (tgt := 14) hx hb dX5_setting_7 (by decide) h (fun h => ?_) (fun h => ?_)
  · refine lv_iconst (v := 1) hx hb dX5_setting_14 (by decide) ?_
    exact J15 1 _ _ _ h hP hS (lv_sub hl [0, 1] rfl)
  · refine lv_iconst (v := 0) hx hb dX5_setting_10 (by decide) ?_
    refine lv_goto (tgt := 15) hx hb dX5_setting_11 (by decide) ?_
    exact J15 0 _ _ _ h hP hS (lv_sub hl [0, 1] rfl)
def fX5_wouldPut (v_z : Nat → Int32) (v_spare : Nat → Int32) (v_marksBlown : Int32) (p1 : Int32) (p2 : Int32) (p3 : Int32) : Option (Int32 × (Nat → Int32) × (Nat → Int32) × Int32) :=
  k_b1 (fX5_nextRow v_z) fun (x1 : Int32) =>
  k_if (x1 = ((-1)))
  (
    some ((-1), v_z, v_spare, v_marksBlown))
  (
    k_b1 (fX5_putAside v_z v_spare) fun (c2 : Nat → Int32) =>
    k_ck (1 : Int32) 327 <| k_let (v_z (1 : Int32).toNatClampNeg) fun (x3 : Int32) =>
    k_b3 (fX5_putInto v_z v_marksBlown x1 p1 p2) fun (x4 : Int32) (c5 : Nat → Int32) (c6 : Int32) =>
    k_j1
    (fun (x7 : Int32) =>
      k_b1 (fX5_bringBack c5 c2) fun (c8 : Nat → Int32) =>
      some (x7, c8, c2, c6))
    (fun K96 =>
    k_if (p3 = 0)
    (
      K96 x4)
    (
      k_if (p3 = 1)
      (
        k_b1 (fX5_maskNow c5 x1) fun (x12 : Int32) =>
        k_b1 (fX5_kindOf x12) fun (x13 : Int32) =>
        K96 x13)
      (
        k_if (p3 = 2)
        (
          k_ck (1 : Int32) 327 <| k_let (c5 (1 : Int32).toNatClampNeg) fun (x10 : Int32) =>
          k_let (x10 - x3) fun (x11 : Int32) =>
          K96 x11)
        (
          k_if (p3 = 3)
          (
            k_b1 (fX5_valueNow c5 p1) fun (x9 : Int32) =>
            K96 x9)
          (
            K96 c6))))))
theorem hdX5_wouldPut : yX5_wouldPut.cls = RX5 ∧ yX5_wouldPut.cls ≠ "java/lang/invoke/MethodHandle" ∧ yX5_wouldPut.cls ≠ "java/lang/invoke/VarHandle" ∧ (parseMethodDescriptor yX5_wouldPut.desc).map (fun d => d.parameters.length) = some 3 := by decide +kernel
set_option maxRecDepth 100000 in
set_option maxHeartbeats 4000000 in
theorem mX5_wouldPut (l : Launch) (dC : Nat → ClassId) (dI : Nat → Nat → Nat) (cyI cyC cyO : ClassId) (ob a1 a2 a3 a4 a5 a6 a7 a8 : Nat) (v_thrown : Int32) (v_z : Nat → Int32) (v_saved : Nat → Int32) (v_savedMany : Int32) (v_spare : Nat → Int32) (v_buffer : Nat → Int32) (v_typed : Int32) (v_marksBlown : Int32) (v_rests : Nat → Int32) (v_begins : Nat → Int32) (v_orders : Nat → Int32) (v_orderMany : Int32) (v_spot : Int32) (v_wrong : Int32) (v_isShort : Int32) (v_before : Nat → Int32) (v_hash : Int64) (p1 : Int32) (p2 : Int32) (p3 : Int32) {r : Int32} {r_z : Nat → Int32} {r_spare : Nat → Int32} {r_marksBlown : Int32} (hf : fX5_wouldPut v_z v_spare v_marksBlown p1 p2 p3 = some (r, r_z, r_spare, r_marksBlown)) : MetMI l yX5_wouldPut cX5_wouldPut 8 (some .int) 8 192 [.ref ob, .int p1, .int p2, .int p3] (dC, dI) (tyS cyI cyC cyO) (wX5 cyI cyC ob a1 a2 a3 a4 a5 a6 a7 a8 v_thrown v_z v_saved v_savedMany v_spare v_buffer v_typed v_marksBlown v_rests v_begins v_orders v_orderMany v_spot v_wrong v_isShort v_before v_hash) (wX5 cyI cyC ob a1 a2 a3 a4 a5 a6 a7 a8 v_thrown r_z v_saved v_savedMany r_spare v_buffer v_typed r_marksBlown v_rests v_begins v_orders v_orderMany v_spot v_wrong v_isShort v_before v_hash) r := by
  refine metMI_of (by decide) (Nat.le_of_ble_eq_true rfl) ?_
  intro p e s m below meth c ls hC hr hlk hP hK hD hl
  have hC : CallFix p m c cX5_wouldPut 8 s [.ref ob, .int p1, .int p2, .int p3].toArray wA RX5 := hC
  obtain ⟨hx, hb, hml, hown, hts⟩ := id hC
  have hS : va_S (k_A (wX5 cyI cyC ob a1 a2 a3 a4 a5 a6 a7 a8 v_thrown v_z v_saved v_savedMany v_spare v_buffer v_typed v_marksBlown v_rests v_begins v_orders v_orderMany v_spot v_wrong v_isShort v_before v_hash)) s.heap s.heap [] := va_S.rf
  have hl : lv_has ls 8 [(0, .ref ob), (1, .int p1), (2, .int p2), (3, .int p3)] := hl
  have h := hf
  unfold fX5_wouldPut at h
  obtain ⟨H, hH⟩ : ∃ H, H = s.heap := ⟨_, rfl⟩
  obtain ⟨locs, hlo⟩ : ∃ locs : List Loc, locs = [] := ⟨_, rfl⟩
  rw [← hH] at hP
  rw [← hlo] at hS
  have hS : va_S (k_A (wX5 cyI cyC ob a1 a2 a3 a4 a5 a6 a7 a8 v_thrown v_z v_saved v_savedMany v_spare v_buffer v_typed v_marksBlown v_rests v_begins v_orders v_orderMany v_spot v_wrong v_isShort v_before v_hash)) s.heap H locs := by rw [hH]; exact hS
  show W p l e (k_rm 8 192) s m [.ref ob, .int p1, .int p2, .int p3].toArray below meth c s.heap [] 0 0 _ _
  rw [← hlo, ← hH]
  refine lv_aload_n hx hb dX5_wouldPut_0 rfl (lv_at hl 0 rfl) ?_
  obtain ⟨x1, hc1, h⟩ := k_b1_e h
  refine g_callRI_V (As := []) (rest := []) hC (mX5_nextRow l dC dI cyI cyC cyO ob a1 a2 a3 a4 a5 a6 a7 a8 v_thrown v_z v_saved v_savedMany v_spare v_buffer v_typed v_marksBlown v_rests v_begins v_orders v_orderMany v_spot v_wrong v_isShort v_before v_hash hc1) q779 q780 q21 q75 q781 0 hdX5_nextRow ⟨Nat.le_of_ble_eq_true rfl, Nat.le_of_ble_eq_true rfl⟩ ⟨Nat.le_of_ble_eq_true rfl, Nat.le_of_ble_eq_true rfl⟩ rfl rfl hl.1 (Nat.le_of_ble_eq_true rfl) hP hK (va_recv hK hP (ci := 4) (q0 := 0) rfl rfl) hS dX5_wouldPut_1 (fun H locs hk hS => ?_)
  have hP := k_kept hP hk
  refine lv_istore (lv' := [(4, .int x1), (0, .ref ob), (1, .int p1), (2, .int p2), (3, .int p3)]) hx hb dX5_wouldPut_4 hl (by decide) rfl (fun ls hl => ?_)
  refine lv_iload hx hb dX5_wouldPut_6 (lv_at hl 0 rfl) ?_
  refine lv_iconst (v := (-1)) hx hb dX5_wouldPut_8 (by decide) ?_
  refine g_icmp_ne (tgt := 14) hx hb dX5_wouldPut_9 (by decide) h (fun h => ?_) (fun h => ?_)
  · refine lv_aload_n hx hb dX5_wouldPut_14 rfl (lv_at hl 1 rfl) ?_
    obtain ⟨c2, hc15, h⟩ := k_b1_e h
    refine g_callMV_V (As := []) (rest := []) hC (mX5_putAside l dC dI cyI cyC cyO ob a1 a2 a3 a4 a5 a6 a7 a8 v_thrown v_z v_saved v_savedMany v_spare v_buffer v_typed v_marksBlown v_rests v_begins v_orders v_orderMany v_spot v_wrong v_isShort v_before v_hash hc15) q985 q986 q60 q75 q987 0 hdX5_putAside ⟨Nat.le_of_ble_eq_true rfl, Nat.le_of_ble_eq_true rfl⟩ ⟨Nat.le_of_ble_eq_true rfl, Nat.le_of_ble_eq_true rfl⟩ rfl rfl hl.1 (Nat.le_of_ble_eq_true rfl) hP hK hD (va_recv hK hP (ci := 4) (q0 := 0) rfl rfl) hS dX5_wouldPut_15 (fun H locs hPn hk hS => ?_)
    have hP : va_P (dC, dI) vwCl (wX5 cyI cyC ob a1 a2 a3 a4 a5 a6 a7 a8 v_thrown v_z v_saved v_savedMany c2 v_buffer v_typed v_marksBlown v_rests v_begins v_orders v_orderMany v_spot v_wrong v_isShort v_before v_hash) H := hPn
    have hD : va_D (k_A (wX5 cyI cyC ob a1 a2 a3 a4 a5 a6 a7 a8 v_thrown v_z v_saved v_savedMany v_spare v_buffer v_typed v_marksBlown v_rests v_begins v_orders v_orderMany v_spot v_wrong v_isShort v_before v_hash)) (wX5 cyI cyC ob a1 a2 a3 a4 a5 a6 a7 a8 v_thrown v_z v_saved v_savedMany c2 v_buffer v_typed v_marksBlown v_rests v_begins v_orders v_orderMany v_spot v_wrong v_isShort v_before v_hash) := k_Dm hD rfl
    refine lv_aload_n hx hb dX5_wouldPut_18 rfl (lv_at hl 1 rfl) ?_
    refine va_get (D := (dC, dI)) (ci := 4) (v := .ref a1) (C := RX5) (T := TX5) (N := 17) hx hb hts iaX5 hown hK hP 0 rfl rfl 1 (by decide) (hts _ q717) (fun _ h9 => h9) rfl dX5_wouldPut_19 ?_
    refine lv_iconst (v := 1) hx hb dX5_wouldPut_22 (by decide) ?_
    refine g_iald hx hb hK hP 1 0 rfl rfl dX5_wouldPut_23 h (fun x3 h => ?_)
    refine lv_istore (lv' := [(5, .int x3), (4, .int x1), (0, .ref ob), (1, .int p1), (2, .int p2), (3, .int p3)]) hx hb dX5_wouldPut_24 hl (by decide) rfl (fun ls hl => ?_)
    refine lv_aload_n hx hb dX5_wouldPut_26 rfl (lv_at hl 2 rfl) ?_
    refine lv_iload hx hb dX5_wouldPut_27 (lv_at hl 1 rfl) ?_
    refine lv_iload_n hx hb dX5_wouldPut_29 rfl (lv_at hl 3 rfl) ?_
    refine lv_iload_n hx hb dX5_wouldPut_30 rfl (lv_at hl 4 rfl) ?_
    obtain ⟨x4, c5, c6, hc31, h⟩ := k_b3_e h
    refine g_callMI_V (As := [.int x1, .int p1, .int p2]) (rest := []) hC (mX5_putInto l dC dI cyI cyC cyO ob a1 a2 a3 a4 a5 a6 a7 a8 v_thrown v_z v_saved v_savedMany c2 v_buffer v_typed v_marksBlown v_rests v_begins v_orders v_orderMany v_spot v_wrong v_isShort v_before v_hash x1 p1 p2 hc31) q794 q795 q26 q75 q796 3 hdX5_putInto ⟨Nat.le_of_ble_eq_true rfl, Nat.le_of_ble_eq_true rfl⟩ ⟨Nat.le_of_ble_eq_true rfl, Nat.le_of_ble_eq_true rfl⟩ rfl rfl hl.1 (Nat.le_of_ble_eq_true rfl) hP hK hD (va_recv hK hP (ci := 4) (q0 := 0) rfl rfl) hS dX5_wouldPut_31 (fun H locs hPn hk hS => ?_)
    have hP : va_P (dC, dI) vwCl (wX5 cyI cyC ob a1 a2 a3 a4 a5 a6 a7 a8 v_thrown c5 v_saved v_savedMany c2 v_buffer v_typed c6 v_rests v_begins v_orders v_orderMany v_spot v_wrong v_isShort v_before v_hash) H := hPn
    have hD : va_D (k_A (wX5 cyI cyC ob a1 a2 a3 a4 a5 a6 a7 a8 v_thrown v_z v_saved v_savedMany v_spare v_buffer v_typed v_marksBlown v_rests v_begins v_orders v_orderMany v_spot v_wrong v_isShort v_before v_hash)) (wX5 cyI cyC ob a1 a2 a3 a4 a5 a6 a7 a8 v_thrown c5 v_saved v_savedMany c2 v_buffer v_typed c6 v_rests v_begins v_orders v_orderMany v_spot v_wrong v_isShort v_before v_hash) := k_Dm hD rfl
    refine lv_istore (lv' := [(6, .int x4), (5, .int x3), (4, .int x1), (0, .ref ob), (1, .int p1), (2, .int p2), (3, .int p3)]) hx hb dX5_wouldPut_34 hl (by decide) rfl (fun ls hl => ?_)
    refine lv_iload_n hx hb dX5_wouldPut_36 rfl (lv_at hl 6 rfl) ?_
    obtain ⟨K96, hK96, h⟩ := k_j1_e h
    have J96 : ∀ (x7 : Int32) (H : Heap) (locs : List Loc) (ls : Array Slot), K96 x7 = some (r, r_z, r_spare, r_marksBlown) → va_P (dC, dI) vwCl (wX5 cyI cyC ob a1 a2 a3 a4 a5 a6 a7 a8 v_thrown c5 v_saved v_savedMany c2 v_buffer v_typed c6 v_rests v_begins v_orders v_orderMany v_spot v_wrong v_isShort v_before v_hash) H → va_S (k_A (wX5 cyI cyC ob a1 a2 a3 a4 a5 a6 a7 a8 v_thrown v_z v_saved v_savedMany v_spare v_buffer v_typed v_marksBlown v_rests v_begins v_orders v_orderMany v_spot v_wrong v_isShort v_before v_hash)) s.heap H locs → lv_has ls 8 [(0, .ref ob)] → W p l e (k_rm 8 192) s m [.ref ob, .int p1, .int p2, .int p3].toArray below meth c H locs 0 0 (MQ below (qMI r (dC, dI) (wX5 cyI cyC ob a1 a2 a3 a4 a5 a6 a7 a8 v_thrown v_z v_saved v_savedMany v_spare v_buffer v_typed v_marksBlown v_rests v_begins v_orders v_orderMany v_spot v_wrong v_isShort v_before v_hash) (wX5 cyI cyC ob a1 a2 a3 a4 a5 a6 a7 a8 v_thrown r_z v_saved v_savedMany r_spare v_buffer v_typed r_marksBlown v_rests v_begins v_orders v_orderMany v_spot v_wrong v_isShort v_before v_hash)) [.ref ob, .int p1, .int p2, .int p3].toArray s 0 0 (k_A (wX5 cyI cyC ob a1 a2 a3 a4 a5 a6 a7 a8 v_thrown v_z v_saved v_savedMany v_spare v_buffer v_typed v_marksBlown v_rests v_begins v_orders v_orderMany v_spot v_wrong v_isShort v_before v_hash))) (F0 m 96 ls [.int x7]) := by
      intro x7 H locs ls h hP hS hl
      have h := k_a1 hK96 h
      refine lv_istore (lv' := [(7, .int x7), (0, .ref ob)]) hx hb dX5_wouldPut_96 hl (by decide) rfl (fun ls hl => ?_)
      refine lv_aload_n hx hb dX5_wouldPut_98 rfl (lv_at hl 1 rfl) ?_
      obtain ⟨c8, hc99, h⟩ := k_b1_e h
      refine g_callMV_V (As := []) (rest := []) hC (mX5_bringBack l dC dI cyI cyC cyO ob a1 a2 a3 a4 a5 a6 a7 a8 v_thrown c5 v_saved v_savedMany c2 v_buffer v_typed c6 v_rests v_begins v_orders v_orderMany v_spot v_wrong v_isShort v_before v_hash hc99) q988 q989 q61 q75 q990 0 hdX5_bringBack ⟨Nat.le_of_ble_eq_true rfl, Nat.le_of_ble_eq_true rfl⟩ ⟨Nat.le_of_ble_eq_true rfl, Nat.le_of_ble_eq_true rfl⟩ rfl rfl hl.1 (Nat.le_of_ble_eq_true rfl) hP hK hD (va_recv hK hP (ci := 4) (q0 := 0) rfl rfl) hS dX5_wouldPut_99 (fun H locs hPn hk hS => ?_)
      have hP : va_P (dC, dI) vwCl (wX5 cyI cyC ob a1 a2 a3 a4 a5 a6 a7 a8 v_thrown c8 v_saved v_savedMany c2 v_buffer v_typed c6 v_rests v_begins v_orders v_orderMany v_spot v_wrong v_isShort v_before v_hash) H := hPn
      have hD : va_D (k_A (wX5 cyI cyC ob a1 a2 a3 a4 a5 a6 a7 a8 v_thrown v_z v_saved v_savedMany v_spare v_buffer v_typed v_marksBlown v_rests v_begins v_orders v_orderMany v_spot v_wrong v_isShort v_before v_hash)) (wX5 cyI cyC ob a1 a2 a3 a4 a5 a6 a7 a8 v_thrown c8 v_saved v_savedMany c2 v_buffer v_typed c6 v_rests v_begins v_orders v_orderMany v_spot v_wrong v_isShort v_before v_hash) := k_Dm hD rfl
      refine lv_iload hx hb dX5_wouldPut_102 (lv_at hl 0 rfl) ?_
      obtain ⟨e0, e1, e2, e3⟩ := k_t4 h
      exact g_retMI hx hb hr hlk hS e0 (by rw [← e1, ← e2, ← e3]; exact hP) dX5_wouldPut_104
    refine g_if_ne (tgt := 45) hx hb dX5_wouldPut_37 (by decide) h (fun h => ?_) (fun h => ?_)
    · refine lv_iload_n hx hb dX5_wouldPut_45 rfl (lv_at hl 6 rfl) ?_
      refine lv_iconst (v := 1) hx hb dX5_wouldPut_46 (by decide) ?_
      refine g_icmp_ne (tgt := 62) hx hb dX5_wouldPut_47 (by decide) h (fun h => ?_) (fun h => ?_)
      · refine lv_iload_n hx hb dX5_wouldPut_62 rfl (lv_at hl 6 rfl) ?_
        refine lv_iconst (v := 2) hx hb dX5_wouldPut_63 (by decide) ?_
        refine g_icmp_ne (tgt := 79) hx hb dX5_wouldPut_64 (by decide) h (fun h => ?_) (fun h => ?_)
        · refine lv_iload_n hx hb dX5_wouldPut_79 rfl (lv_at hl 6 rfl) ?_
          refine lv_iconst (v := 3) hx hb dX5_wouldPut_80 (by decide) ?_
          refine g_icmp_ne (tgt := 92) hx hb dX5_wouldPut_81 (by decide) h (fun h => ?_) (fun h => ?_)
          · refine lv_aload_n hx hb dX5_wouldPut_92 rfl (lv_at hl 3 rfl) ?_
            refine va_get (D := (dC, dI)) (ci := 4) (v := .int c6) (C := RX5) (T := TX5) (N := 17) hx hb hts iaX5 hown hK hP 0 rfl rfl 7 (by decide) (hts _ q723) (fun _ h9 => h9) rfl dX5_wouldPut_93 ?_
            exact J96 c6 _ _ _ h hP hS (lv_sub hl [3] rfl)
          · refine lv_aload_n hx hb dX5_wouldPut_84 rfl (lv_at hl 3 rfl) ?_
            refine lv_iload_n hx hb dX5_wouldPut_85 rfl (lv_at hl 4 rfl) ?_
            obtain ⟨x9, hc86, h⟩ := k_b1_e h
            refine g_callRI_V (As := [.int p1]) (rest := []) hC (mX5_valueNow l dC dI cyI cyC cyO ob a1 a2 a3 a4 a5 a6 a7 a8 v_thrown c5 v_saved v_savedMany c2 v_buffer v_typed c6 v_rests v_begins v_orders v_orderMany v_spot v_wrong v_isShort v_before v_hash p1 hc86) q927 q928 q46 q75 q929 1 hdX5_valueNow ⟨Nat.le_of_ble_eq_true rfl, Nat.le_of_ble_eq_true rfl⟩ ⟨Nat.le_of_ble_eq_true rfl, Nat.le_of_ble_eq_true rfl⟩ rfl rfl hl.1 (Nat.le_of_ble_eq_true rfl) hP hK (va_recv hK hP (ci := 4) (q0 := 0) rfl rfl) hS dX5_wouldPut_86 (fun H locs hk hS => ?_)
            have hP := k_kept hP hk
            refine lv_goto (tgt := 96) hx hb dX5_wouldPut_89 (by decide) ?_
            exact J96 x9 _ _ _ h hP hS (lv_sub hl [3] rfl)
        · refine lv_aload_n hx hb dX5_wouldPut_67 rfl (lv_at hl 3 rfl) ?_
          refine va_get (D := (dC, dI)) (ci := 4) (v := .ref a1) (C := RX5) (T := TX5) (N := 17) hx hb hts iaX5 hown hK hP 0 rfl rfl 1 (by decide) (hts _ q717) (fun _ h9 => h9) rfl dX5_wouldPut_68 ?_
          refine lv_iconst (v := 1) hx hb dX5_wouldPut_71 (by decide) ?_
          refine g_iald hx hb hK hP 1 0 rfl rfl dX5_wouldPut_72 h (fun x10 h => ?_)
          refine lv_iload hx hb dX5_wouldPut_73 (lv_at hl 1 rfl) ?_
          refine g_isub hx hb dX5_wouldPut_75 h (fun x11 h => ?_)
          refine lv_goto (tgt := 96) hx hb dX5_wouldPut_76 (by decide) ?_
          exact J96 x11 _ _ _ h hP hS (lv_sub hl [3] rfl)
      · refine lv_aload_n hx hb dX5_wouldPut_50 rfl (lv_at hl 3 rfl) ?_
        refine lv_iload hx hb dX5_wouldPut_51 (lv_at hl 2 rfl) ?_
        obtain ⟨x12, hc53, h⟩ := k_b1_e h
        refine g_callRI_V (As := [.int x1]) (rest := []) hC (mX5_maskNow l dC dI cyI cyC cyO ob a1 a2 a3 a4 a5 a6 a7 a8 v_thrown c5 v_saved v_savedMany c2 v_buffer v_typed c6 v_rests v_begins v_orders v_orderMany v_spot v_wrong v_isShort v_before v_hash x1 hc53) q782 q783 q22 q75 q784 1 hdX5_maskNow ⟨Nat.le_of_ble_eq_true rfl, Nat.le_of_ble_eq_true rfl⟩ ⟨Nat.le_of_ble_eq_true rfl, Nat.le_of_ble_eq_true rfl⟩ rfl rfl hl.1 (Nat.le_of_ble_eq_true rfl) hP hK (va_recv hK hP (ci := 4) (q0 := 0) rfl rfl) hS dX5_wouldPut_53 (fun H locs hk hS => ?_)
        have hP := k_kept hP hk
        obtain ⟨x13, hc56, h⟩ := k_b1_e h
        refine g_callRI_S (As := [.int x12]) (rest := []) hC (mX5_kindOf l dC dI cyI cyC cyO x12 hc56) q806 q807 q75 q808 1 hdX5_kindOf ⟨Nat.le_of_ble_eq_true rfl, Nat.le_of_ble_eq_true rfl⟩ ⟨Nat.le_of_ble_eq_true rfl, Nat.le_of_ble_eq_true rfl⟩ rfl rfl hl.1 (Nat.le_of_ble_eq_true rfl) va_P_nil hK hS dX5_wouldPut_56 (fun H locs hk hS => ?_)
        have hP := k_kept hP hk
        refine lv_goto (tgt := 96) hx hb dX5_wouldPut_59 (by decide) ?_
        exact J96 x13 _ _ _ h hP hS (lv_sub hl [3] rfl)
    · refine lv_iload hx hb dX5_wouldPut_40 (lv_at hl 0 rfl) ?_
      refine lv_goto (tgt := 96) hx hb dX5_wouldPut_42 (by decide) ?_
      exact J96 x4 _ _ _ h hP hS (lv_sub hl [3] rfl)
  · refine lv_iconst (v := (-1)) hx hb dX5_wouldPut_12 (by decide) ?_
    obtain ⟨e0, e1, e2, e3⟩ := k_t4 h
    exact g_retMI hx hb hr hlk hS e0 (by rw [← e1, ← e2, ← e3]; exact hP) dX5_wouldPut_13
def fX5_ifPut (v_thrown : Int32) (v_z : Nat → Int32) (v_spare : Nat → Int32) (v_marksBlown : Int32) (p1 : Int32) (p2 : Int32) (p3 : Int32) : Option (Int32 × Int32 × (Nat → Int32) × (Nat → Int32) × Int32) :=
  k_b1 (fX5_isKey p1) fun (x1 : Int32) =>
  k_j1
  (fun (x2 : Int32) =>
    k_if (x2 ≤ 0)
    (
      k_b4 (fX5_wouldPut v_z v_spare v_marksBlown p1 p2 p3) fun (x3 : Int32) (c4 : Nat → Int32) (c5 : Nat → Int32) (c6 : Int32) =>
      some (x3, x2, c4, c5, c6))
    (
      some (0, x2, v_z, v_spare, v_marksBlown)))
  (fun K32 =>
  k_if (x1 = 0)
  (
    K32 1)
  (
    k_b1 (fX5_in p2 0 63) fun (x7 : Int32) =>
    k_if (x7 = 0)
    (
      K32 1)
    (
      k_b1 (fX5_in p3 0 4) fun (x8 : Int32) =>
      k_if (x8 = 0)
      (
        K32 1)
      (
        K32 0))))
theorem hdX5_ifPut : yX5_ifPut.cls = RX5 ∧ yX5_ifPut.cls ≠ "java/lang/invoke/MethodHandle" ∧ yX5_ifPut.cls ≠ "java/lang/invoke/VarHandle" ∧ (parseMethodDescriptor yX5_ifPut.desc).map (fun d => d.parameters.length) = some 3 := by decide +kernel
set_option maxRecDepth 100000 in
set_option maxHeartbeats 4000000 in
theorem mX5_ifPut (l : Launch) (dC : Nat → ClassId) (dI : Nat → Nat → Nat) (cyI cyC cyO : ClassId) (ob a1 a2 a3 a4 a5 a6 a7 a8 : Nat) (v_thrown : Int32) (v_z : Nat → Int32) (v_saved : Nat → Int32) (v_savedMany : Int32) (v_spare : Nat → Int32) (v_buffer : Nat → Int32) (v_typed : Int32) (v_marksBlown : Int32) (v_rests : Nat → Int32) (v_begins : Nat → Int32) (v_orders : Nat → Int32) (v_orderMany : Int32) (v_spot : Int32) (v_wrong : Int32) (v_isShort : Int32) (v_before : Nat → Int32) (v_hash : Int64) (p1 : Int32) (p2 : Int32) (p3 : Int32) {r : Int32} {r_thrown : Int32} {r_z : Nat → Int32} {r_spare : Nat → Int32} {r_marksBlown : Int32} (hf : fX5_ifPut v_thrown v_z v_spare v_marksBlown p1 p2 p3 = some (r, r_thrown, r_z, r_spare, r_marksBlown)) : MetMI l yX5_ifPut cX5_ifPut 4 (some .int) 9 219 [.ref ob, .int p1, .int p2, .int p3] (dC, dI) (tyS cyI cyC cyO) (wX5 cyI cyC ob a1 a2 a3 a4 a5 a6 a7 a8 v_thrown v_z v_saved v_savedMany v_spare v_buffer v_typed v_marksBlown v_rests v_begins v_orders v_orderMany v_spot v_wrong v_isShort v_before v_hash) (wX5 cyI cyC ob a1 a2 a3 a4 a5 a6 a7 a8 r_thrown r_z v_saved v_savedMany r_spare v_buffer v_typed r_marksBlown v_rests v_begins v_orders v_orderMany v_spot v_wrong v_isShort v_before v_hash) r := by
  refine metMI_of (by decide) (Nat.le_of_ble_eq_true rfl) ?_
  intro p e s m below meth c ls hC hr hlk hP hK hD hl
  have hC : CallFix p m c cX5_ifPut 4 s [.ref ob, .int p1, .int p2, .int p3].toArray wA RX5 := hC
  obtain ⟨hx, hb, hml, hown, hts⟩ := id hC
  have hS : va_S (k_A (wX5 cyI cyC ob a1 a2 a3 a4 a5 a6 a7 a8 v_thrown v_z v_saved v_savedMany v_spare v_buffer v_typed v_marksBlown v_rests v_begins v_orders v_orderMany v_spot v_wrong v_isShort v_before v_hash)) s.heap s.heap [] := va_S.rf
  have hl : lv_has ls 4 [(0, .ref ob), (1, .int p1), (2, .int p2), (3, .int p3)] := hl
  have h := hf
  unfold fX5_ifPut at h
  obtain ⟨H, hH⟩ : ∃ H, H = s.heap := ⟨_, rfl⟩
  obtain ⟨locs, hlo⟩ : ∃ locs : List Loc, locs = [] := ⟨_, rfl⟩
  rw [← hH] at hP
  rw [← hlo] at hS
  have hS : va_S (k_A (wX5 cyI cyC ob a1 a2 a3 a4 a5 a6 a7 a8 v_thrown v_z v_saved v_savedMany v_spare v_buffer v_typed v_marksBlown v_rests v_begins v_orders v_orderMany v_spot v_wrong v_isShort v_before v_hash)) s.heap H locs := by rw [hH]; exact hS
  show W p l e (k_rm 9 219) s m [.ref ob, .int p1, .int p2, .int p3].toArray below meth c s.heap [] 0 0 _ _
  rw [← hlo, ← hH]
  refine lv_aload_n hx hb dX5_ifPut_0 rfl (lv_at hl 0 rfl) ?_
  refine lv_iload_n hx hb dX5_ifPut_1 rfl (lv_at hl 1 rfl) ?_
  obtain ⟨x1, hc2, h⟩ := k_b1_e h
  refine g_callRI_S (As := [.int p1]) (rest := [.ref ob]) hC (mX5_isKey l dC dI cyI cyC cyO p1 hc2) q776 q777 q75 q778 1 hdX5_isKey ⟨Nat.le_of_ble_eq_true rfl, Nat.le_of_ble_eq_true rfl⟩ ⟨Nat.le_of_ble_eq_true rfl, Nat.le_of_ble_eq_true rfl⟩ rfl rfl hl.1 (Nat.le_of_ble_eq_true rfl) va_P_nil hK hS dX5_ifPut_2 (fun H locs hk hS => ?_)
  have hP := k_kept hP hk
  obtain ⟨K32, hK32, h⟩ := k_j1_e h
  have J32 : ∀ (x2 : Int32) (H : Heap) (locs : List Loc) (ls : Array Slot), K32 x2 = some (r, r_thrown, r_z, r_spare, r_marksBlown) → va_P (dC, dI) vwCl (wX5 cyI cyC ob a1 a2 a3 a4 a5 a6 a7 a8 v_thrown v_z v_saved v_savedMany v_spare v_buffer v_typed v_marksBlown v_rests v_begins v_orders v_orderMany v_spot v_wrong v_isShort v_before v_hash) H → va_S (k_A (wX5 cyI cyC ob a1 a2 a3 a4 a5 a6 a7 a8 v_thrown v_z v_saved v_savedMany v_spare v_buffer v_typed v_marksBlown v_rests v_begins v_orders v_orderMany v_spot v_wrong v_isShort v_before v_hash)) s.heap H locs → lv_has ls 4 [(0, .ref ob), (1, .int p1), (2, .int p2), (3, .int p3)] → W p l e (k_rm 9 219) s m [.ref ob, .int p1, .int p2, .int p3].toArray below meth c H locs 0 0 (MQ below (qMI r (dC, dI) (wX5 cyI cyC ob a1 a2 a3 a4 a5 a6 a7 a8 v_thrown v_z v_saved v_savedMany v_spare v_buffer v_typed v_marksBlown v_rests v_begins v_orders v_orderMany v_spot v_wrong v_isShort v_before v_hash) (wX5 cyI cyC ob a1 a2 a3 a4 a5 a6 a7 a8 r_thrown r_z v_saved v_savedMany r_spare v_buffer v_typed r_marksBlown v_rests v_begins v_orders v_orderMany v_spot v_wrong v_isShort v_before v_hash)) [.ref ob, .int p1, .int p2, .int p3].toArray s 0 0 (k_A (wX5 cyI cyC ob a1 a2 a3 a4 a5 a6 a7 a8 v_thrown v_z v_saved v_savedMany v_spare v_buffer v_typed v_marksBlown v_rests v_begins v_orders v_orderMany v_spot v_wrong v_isShort v_before v_hash))) (F0 m 32 ls [.int x2, .ref ob]) := by
    intro x2 H locs ls h hP hS hl
    have h := k_a1 hK32 h
    refine va_put (D := (dC, dI)) (ci := 4) (v := .int x2) (ty := .int) (C := RX5) (T := TX5) (N := 17) hx hb hts iaX5 tyX5 tyX5_ok nmX5 hown hK hP hD hS 0 rfl rfl 0 (by decide) (hts _ q716) (fun _ h9 => h9) rfl (by decide +kernel) rfl rfl (Nat.le_of_ble_eq_true rfl) dX5_ifPut_32 (fun H locs hP _ hS => ?_)
    have hP : va_P (dC, dI) vwCl (wX5 cyI cyC ob a1 a2 a3 a4 a5 a6 a7 a8 x2 v_z v_saved v_savedMany v_spare v_buffer v_typed v_marksBlown v_rests v_begins v_orders v_orderMany v_spot v_wrong v_isShort v_before v_hash) H := hP
    have hD : va_D (k_A (wX5 cyI cyC ob a1 a2 a3 a4 a5 a6 a7 a8 v_thrown v_z v_saved v_savedMany v_spare v_buffer v_typed v_marksBlown v_rests v_begins v_orders v_orderMany v_spot v_wrong v_isShort v_before v_hash)) (wX5 cyI cyC ob a1 a2 a3 a4 a5 a6 a7 a8 x2 v_z v_saved v_savedMany v_spare v_buffer v_typed v_marksBlown v_rests v_begins v_orders v_orderMany v_spot v_wrong v_isShort v_before v_hash) := k_Dm hD rfl
    refine lv_aload_n hx hb dX5_ifPut_35 rfl (lv_at hl 0 rfl) ?_
    refine va_get (D := (dC, dI)) (ci := 4) (v := .int x2) (C := RX5) (T := TX5) (N := 17) hx hb hts iaX5 hown hK hP 0 rfl rfl 0 (by decide) (hts _ q716) (fun _ h9 => h9) rfl dX5_ifPut_36 ?_
    refine g_if_le (tgt := 46) hx hb dX5_ifPut_39 (by decide) h (fun h => ?_) (fun h => ?_)
    · refine lv_aload_n hx hb dX5_ifPut_46 rfl (lv_at hl 0 rfl) ?_
      refine lv_iload_n hx hb dX5_ifPut_47 rfl (lv_at hl 1 rfl) ?_
      refine lv_iload_n hx hb dX5_ifPut_48 rfl (lv_at hl 2 rfl) ?_
      refine lv_iload_n hx hb dX5_ifPut_49 rfl (lv_at hl 3 rfl) ?_
      obtain ⟨x3, c4, c5, c6, hc50, h⟩ := k_b4_e h
      refine g_callMI_V (As := [.int p1, .int p2, .int p3]) (rest := []) hC (mX5_wouldPut l dC dI cyI cyC cyO ob a1 a2 a3 a4 a5 a6 a7 a8 x2 v_z v_saved v_savedMany v_spare v_buffer v_typed v_marksBlown v_rests v_begins v_orders v_orderMany v_spot v_wrong v_isShort v_before v_hash p1 p2 p3 hc50) q982 q983 q59 q75 q984 3 hdX5_wouldPut ⟨Nat.le_of_ble_eq_true rfl, Nat.le_of_ble_eq_true rfl⟩ ⟨Nat.le_of_ble_eq_true rfl, Nat.le_of_ble_eq_true rfl⟩ rfl rfl hl.1 (Nat.le_of_ble_eq_true rfl) hP hK hD (va_recv hK hP (ci := 4) (q0 := 0) rfl rfl) hS dX5_ifPut_50 (fun H locs hPn hk hS => ?_)
      have hP : va_P (dC, dI) vwCl (wX5 cyI cyC ob a1 a2 a3 a4 a5 a6 a7 a8 x2 c4 v_saved v_savedMany c5 v_buffer v_typed c6 v_rests v_begins v_orders v_orderMany v_spot v_wrong v_isShort v_before v_hash) H := hPn
      have hD : va_D (k_A (wX5 cyI cyC ob a1 a2 a3 a4 a5 a6 a7 a8 v_thrown v_z v_saved v_savedMany v_spare v_buffer v_typed v_marksBlown v_rests v_begins v_orders v_orderMany v_spot v_wrong v_isShort v_before v_hash)) (wX5 cyI cyC ob a1 a2 a3 a4 a5 a6 a7 a8 x2 c4 v_saved v_savedMany c5 v_buffer v_typed c6 v_rests v_begins v_orders v_orderMany v_spot v_wrong v_isShort v_before v_hash) := k_Dm hD rfl
      obtain ⟨e0, e1, e2, e3, e4⟩ := k_t5 h
      exact g_retMI hx hb hr hlk hS e0 (by rw [← e1, ← e2, ← e3, ← e4]; exact hP) dX5_ifPut_53
    · refine lv_iconst (v := 0) hx hb dX5_ifPut_42 (by decide) ?_
      refine lv_goto (tgt := 53) hx hb dX5_ifPut_43 (by decide) ?_
      obtain ⟨e0, e1, e2, e3, e4⟩ := k_t5 h
      exact g_retMI hx hb hr hlk hS e0 (by rw [← e1, ← e2, ← e3, ← e4]; exact hP) dX5_ifPut_53
  refine g_if_eq (tgt := 31) hx hb dX5_ifPut_5 (by decide) h (fun h => ?_) (fun h => ?_)
  · refine lv_iconst (v := 1) hx hb dX5_ifPut_31 (by decide) ?_
    exact J32 1 _ _ _ h hP hS (lv_sub hl [0, 1, 2, 3] rfl)
  · refine lv_iload_n hx hb dX5_ifPut_8 rfl (lv_at hl 2 rfl) ?_
    refine lv_iconst (v := 0) hx hb dX5_ifPut_9 (by decide) ?_
    refine lv_bipush (v := 63) hx hb dX5_ifPut_10 (by decide) ?_
    obtain ⟨x7, hc12, h⟩ := k_b1_e h
    refine g_callRI_S (As := [.int p2, .int 0, .int 63]) (rest := [.ref ob]) hC (mX5_in l dC dI cyI cyC cyO p2 0 63 hc12) q748 q749 q75 q750 3 hdX5_in ⟨Nat.le_of_ble_eq_true rfl, Nat.le_of_ble_eq_true rfl⟩ ⟨Nat.le_of_ble_eq_true rfl, Nat.le_of_ble_eq_true rfl⟩ rfl rfl hl.1 (Nat.le_of_ble_eq_true rfl) va_P_nil hK hS dX5_ifPut_12 (fun H locs hk hS => ?_)
    have hP := k_kept hP hk
    refine g_if_eq (tgt := 31) hx hb dX5_ifPut_15 (by decide) h (fun h => ?_) (fun h => ?_)
    · refine lv_iconst (v := 1) hx hb dX5_ifPut_31 (by decide) ?_
      exact J32 1 _ _ _ h hP hS (lv_sub hl [0, 1, 2, 3] rfl)
    · refine lv_iload_n hx hb dX5_ifPut_18 rfl (lv_at hl 3 rfl) ?_
      refine lv_iconst (v := 0) hx hb dX5_ifPut_19 (by decide) ?_
      refine lv_iconst (v := 4) hx hb dX5_ifPut_20 (by decide) ?_
      obtain ⟨x8, hc21, h⟩ := k_b1_e h
      refine g_callRI_S (As := [.int p3, .int 0, .int 4]) (rest := [.ref ob]) hC (mX5_in l dC dI cyI cyC cyO p3 0 4 hc21) q748 q749 q75 q750 3 hdX5_in ⟨Nat.le_of_ble_eq_true rfl, Nat.le_of_ble_eq_true rfl⟩ ⟨Nat.le_of_ble_eq_true rfl, Nat.le_of_ble_eq_true rfl⟩ rfl rfl hl.1 (Nat.le_of_ble_eq_true rfl) va_P_nil hK hS dX5_ifPut_21 (fun H locs hk hS => ?_)
      have hP := k_kept hP hk
      refine g_if_eq (tgt := 31) hx hb dX5_ifPut_24 (by decide) h (fun h => ?_) (fun h => ?_)
      · refine lv_iconst (v := 1) hx hb dX5_ifPut_31 (by decide) ?_
        exact J32 1 _ _ _ h hP hS (lv_sub hl [0, 1, 2, 3] rfl)
      · refine lv_iconst (v := 0) hx hb dX5_ifPut_27 (by decide) ?_
        refine lv_goto (tgt := 32) hx hb dX5_ifPut_28 (by decide) ?_
        exact J32 0 _ _ _ h hP hS (lv_sub hl [0, 1, 2, 3] rfl)
def fX5_layBefore_s30 (v_z : Nat → Int32) (rec30 : Int32 → (Nat → Int32) → Option ((Nat → Int32))) (x2 : Int32) (c3 : Nat → Int32) : Option ((Nat → Int32)) :=
  k_if (16 ≤ x2)
  (
    some c3)
  (
    k_let (20 + x2) fun (x4 : Int32) =>
    k_b1 (fX5_valueNow v_z x2) fun (x5 : Int32) =>
    k_ck x4 36 <| k_let (upd c3 x4.toNatClampNeg x5) fun (c6 : Nat → Int32) =>
    k_let (x2 + 1) fun (x7 : Int32) =>
    rec30 x7 c6)
def fX5_layBefore_s2 (K28 : (Nat → Int32) → Option ((Nat → Int32))) (v_z : Nat → Int32) (rec2 : Int32 → (Nat → Int32) → Option ((Nat → Int32))) (x8 : Int32) (c9 : Nat → Int32) : Option ((Nat → Int32)) :=
  k_if (20 ≤ x8)
  (
    K28 c9)
  (
    k_b1 (fX5_maskNow v_z x8) fun (x10 : Int32) =>
    k_b1 (fX5_kindOf x10) fun (x11 : Int32) =>
    k_ck x8 36 <| k_let (upd c9 x8.toNatClampNeg x11) fun (c12 : Nat → Int32) =>
    k_let (x8 + 1) fun (x13 : Int32) =>
    rec2 x13 c12)
def fX5_layBefore (v_z : Nat → Int32) (v_before : Nat → Int32) : Option ((Nat → Int32)) :=
  k_j1
  (fun (c1 : Nat → Int32) =>
    k_l2 (fX5_layBefore_s30 v_z) 5000 0 c1)
  (fun K28 =>
  k_l2 (fX5_layBefore_s2 K28 v_z) 5000 0 v_before)
theorem hdX5_layBefore : yX5_layBefore.cls = RX5 ∧ yX5_layBefore.cls ≠ "java/lang/invoke/MethodHandle" ∧ yX5_layBefore.cls ≠ "java/lang/invoke/VarHandle" ∧ (parseMethodDescriptor yX5_layBefore.desc).map (fun d => d.parameters.length) = some 0 := by decide +kernel
set_option maxRecDepth 100000 in
set_option maxHeartbeats 4000000 in
theorem mX5_layBefore (l : Launch) (dC : Nat → ClassId) (dI : Nat → Nat → Nat) (cyI cyC cyO : ClassId) (ob a1 a2 a3 a4 a5 a6 a7 a8 : Nat) (v_thrown : Int32) (v_z : Nat → Int32) (v_saved : Nat → Int32) (v_savedMany : Int32) (v_spare : Nat → Int32) (v_buffer : Nat → Int32) (v_typed : Int32) (v_marksBlown : Int32) (v_rests : Nat → Int32) (v_begins : Nat → Int32) (v_orders : Nat → Int32) (v_orderMany : Int32) (v_spot : Int32) (v_wrong : Int32) (v_isShort : Int32) (v_before : Nat → Int32) (v_hash : Int64)  {r_before : Nat → Int32} (hf : fX5_layBefore v_z v_before = some r_before) : MetMV l yX5_layBefore cX5_layBefore 2 none 8 188 [.ref ob] (dC, dI) (tyS cyI cyC cyO) (wX5 cyI cyC ob a1 a2 a3 a4 a5 a6 a7 a8 v_thrown v_z v_saved v_savedMany v_spare v_buffer v_typed v_marksBlown v_rests v_begins v_orders v_orderMany v_spot v_wrong v_isShort v_before v_hash) (wX5 cyI cyC ob a1 a2 a3 a4 a5 a6 a7 a8 v_thrown v_z v_saved v_savedMany v_spare v_buffer v_typed v_marksBlown v_rests v_begins v_orders v_orderMany v_spot v_wrong v_isShort r_before v_hash) := by
  refine metMV_of (by decide) (Nat.le_of_ble_eq_true rfl) ?_
  intro p e s m below meth c ls hC hr hlk hP hK hD hl
  have hC : CallFix p m c cX5_layBefore 2 s [.ref ob].toArray wA RX5 := hC
  obtain ⟨hx, hb, hml, hown, hts⟩ := id hC
  have hS : va_S (k_A (wX5 cyI cyC ob a1 a2 a3 a4 a5 a6 a7 a8 v_thrown v_z v_saved v_savedMany v_spare v_buffer v_typed v_marksBlown v_rests v_begins v_orders v_orderMany v_spot v_wrong v_isShort v_before v_hash)) s.heap s.heap [] := va_S.rf
  have hl : lv_has ls 2 [(0, .ref ob)] := hl
  have h := hf
  unfold fX5_layBefore at h
  obtain ⟨H, hH⟩ : ∃ H, H = s.heap := ⟨_, rfl⟩
  obtain ⟨locs, hlo⟩ : ∃ locs : List Loc, locs = [] := ⟨_, rfl⟩
  rw [← hH] at hP
  rw [← hlo] at hS
  have hS : va_S (k_A (wX5 cyI cyC ob a1 a2 a3 a4 a5 a6 a7 a8 v_thrown v_z v_saved v_savedMany v_spare v_buffer v_typed v_marksBlown v_rests v_begins v_orders v_orderMany v_spot v_wrong v_isShort v_before v_hash)) s.heap H locs := by rw [hH]; exact hS
  show W p l e (k_rm 8 188) s m [.ref ob].toArray below meth c s.heap [] 0 0 _ _
  rw [← hlo, ← hH]
  refine lv_iconst (v := 0) hx hb dX5_layBefore_0 (by decide) ?_
  refine lv_istore_n (lv' := [(1, .int 0), (0, .ref ob)]) hx hb dX5_layBefore_1 rfl hl (by decide) rfl (fun ls hl => ?_)
  obtain ⟨K28, hK28, h⟩ := k_j1_e h
  have J28 : ∀ (c1 : Nat → Int32) (H : Heap) (locs : List Loc) (ls : Array Slot), K28 c1 = some r_before → va_P (dC, dI) vwCl (wX5 cyI cyC ob a1 a2 a3 a4 a5 a6 a7 a8 v_thrown v_z v_saved v_savedMany v_spare v_buffer v_typed v_marksBlown v_rests v_begins v_orders v_orderMany v_spot v_wrong v_isShort c1 v_hash) H → va_S (k_A (wX5 cyI cyC ob a1 a2 a3 a4 a5 a6 a7 a8 v_thrown v_z v_saved v_savedMany v_spare v_buffer v_typed v_marksBlown v_rests v_begins v_orders v_orderMany v_spot v_wrong v_isShort v_before v_hash)) s.heap H locs → lv_has ls 2 [(0, .ref ob)] → W p l e (k_rm 8 188) s m [.ref ob].toArray below meth c H locs 0 0 (MQ below (qMV (dC, dI) (wX5 cyI cyC ob a1 a2 a3 a4 a5 a6 a7 a8 v_thrown v_z v_saved v_savedMany v_spare v_buffer v_typed v_marksBlown v_rests v_begins v_orders v_orderMany v_spot v_wrong v_isShort v_before v_hash) (wX5 cyI cyC ob a1 a2 a3 a4 a5 a6 a7 a8 v_thrown v_z v_saved v_savedMany v_spare v_buffer v_typed v_marksBlown v_rests v_begins v_orders v_orderMany v_spot v_wrong v_isShort r_before v_hash)) [.ref ob].toArray s 0 0 (k_A (wX5 cyI cyC ob a1 a2 a3 a4 a5 a6 a7 a8 v_thrown v_z v_saved v_savedMany v_spare v_buffer v_typed v_marksBlown v_rests v_begins v_orders v_orderMany v_spot v_wrong v_isShort v_before v_hash))) (F0 m 28 ls []) := by
    intro c1 H locs ls h hP hS hl
    have hD : va_D (k_A (wX5 cyI cyC ob a1 a2 a3 a4 a5 a6 a7 a8 v_thrown v_z v_saved v_savedMany v_spare v_buffer v_typed v_marksBlown v_rests v_begins v_orders v_orderMany v_spot v_wrong v_isShort v_before v_hash)) (wX5 cyI cyC ob a1 a2 a3 a4 a5 a6 a7 a8 v_thrown v_z v_saved v_savedMany v_spare v_buffer v_typed v_marksBlown v_rests v_begins v_orders v_orderMany v_spot v_wrong v_isShort c1 v_hash) := k_Dm hD rfl
    have h := k_a1 hK28 h
    refine lv_iconst (v := 0) hx hb dX5_layBefore_28 (by decide) ?_
    refine lv_istore_n (lv' := [(1, .int 0), (0, .ref ob)]) hx hb dX5_layBefore_29 rfl hl (by decide) rfl (fun ls hl => ?_)
    obtain ⟨S30, hS30⟩ : ∃ z, z = (fX5_layBefore_s30 v_z) := ⟨_, rfl⟩
    rw [← hS30] at h
    have L30 : ∀ (n : Nat) (x2 : Int32) (c3 : Nat → Int32) (H : Heap) (locs : List Loc) (ls : Array Slot), k_l2 S30 n x2 c3 = some r_before → va_P (dC, dI) vwCl (wX5 cyI cyC ob a1 a2 a3 a4 a5 a6 a7 a8 v_thrown v_z v_saved v_savedMany v_spare v_buffer v_typed v_marksBlown v_rests v_begins v_orders v_orderMany v_spot v_wrong v_isShort c3 v_hash) H → va_S (k_A (wX5 cyI cyC ob a1 a2 a3 a4 a5 a6 a7 a8 v_thrown v_z v_saved v_savedMany v_spare v_buffer v_typed v_marksBlown v_rests v_begins v_orders v_orderMany v_spot v_wrong v_isShort v_before v_hash)) s.heap H locs → lv_has ls 2 [(0, .ref ob), (1, .int x2)] → W p l e (k_rm 8 188) s m [.ref ob].toArray below meth c H locs 0 0 (MQ below (qMV (dC, dI) (wX5 cyI cyC ob a1 a2 a3 a4 a5 a6 a7 a8 v_thrown v_z v_saved v_savedMany v_spare v_buffer v_typed v_marksBlown v_rests v_begins v_orders v_orderMany v_spot v_wrong v_isShort v_before v_hash) (wX5 cyI cyC ob a1 a2 a3 a4 a5 a6 a7 a8 v_thrown v_z v_saved v_savedMany v_spare v_buffer v_typed v_marksBlown v_rests v_begins v_orders v_orderMany v_spot v_wrong v_isShort r_before v_hash)) [.ref ob].toArray s 0 0 (k_A (wX5 cyI cyC ob a1 a2 a3 a4 a5 a6 a7 a8 v_thrown v_z v_saved v_savedMany v_spare v_buffer v_typed v_marksBlown v_rests v_begins v_orders v_orderMany v_spot v_wrong v_isShort v_before v_hash))) (F0 m 30 ls []) := by
      intro n
      induction n with
      | zero =>
        intro x2 c3 H locs ls h
        exact (k_l2_0 h).elim
      | succ n ih30 =>
        intro x2 c3 H locs ls h hP hS hl
        have hD : va_D (k_A (wX5 cyI cyC ob a1 a2 a3 a4 a5 a6 a7 a8 v_thrown v_z v_saved v_savedMany v_spare v_buffer v_typed v_marksBlown v_rests v_begins v_orders v_orderMany v_spot v_wrong v_isShort v_before v_hash)) (wX5 cyI cyC ob a1 a2 a3 a4 a5 a6 a7 a8 v_thrown v_z v_saved v_savedMany v_spare v_buffer v_typed v_marksBlown v_rests v_begins v_orders v_orderMany v_spot v_wrong v_isShort c3 v_hash) := k_Dm hD rfl
        have h := k_l2_s h
        have h := k_a3 hS30 h
        unfold fX5_layBefore_s30 at h
        refine lv_iload_n hx hb dX5_layBefore_30 rfl (lv_at hl 1 rfl) ?_
        refine lv_bipush (v := 16) hx hb dX5_layBefore_31 (by decide) ?_
        refine g_icmp_ge (tgt := 56) hx hb dX5_layBefore_33 (by decide) h (fun h => ?_) (fun h => ?_)
        · have e0 := k_t1 h
          exact g_retMV hx hb hr hlk hS (by rw [← e0]; exact hP) dX5_layBefore_56
        · refine lv_aload_n hx hb dX5_layBefore_36 rfl (lv_at hl 0 rfl) ?_
          refine va_get (D := (dC, dI)) (ci := 4) (v := .ref a8) (C := RX5) (T := TX5) (N := 17) hx hb hts iaX5 hown hK hP 0 rfl rfl 15 (by decide) (hts _ q731) (fun _ h9 => h9) rfl dX5_layBefore_37 ?_
          refine lv_bipush (v := 20) hx hb dX5_layBefore_40 (by decide) ?_
          refine lv_iload_n hx hb dX5_layBefore_42 rfl (lv_at hl 1 rfl) ?_
          refine g_iadd hx hb dX5_layBefore_43 h (fun x4 h => ?_)
          refine lv_aload_n hx hb dX5_layBefore_44 rfl (lv_at hl 0 rfl) ?_
          refine lv_iload_n hx hb dX5_layBefore_45 rfl (lv_at hl 1 rfl) ?_
          obtain ⟨x5, hc46, h⟩ := k_b1_e h
          refine g_callRI_V (As := [.int x2]) (rest := [.int x4, .ref a8]) hC (mX5_valueNow l dC dI cyI cyC cyO ob a1 a2 a3 a4 a5 a6 a7 a8 v_thrown v_z v_saved v_savedMany v_spare v_buffer v_typed v_marksBlown v_rests v_begins v_orders v_orderMany v_spot v_wrong v_isShort c3 v_hash x2 hc46) q927 q928 q46 q75 q929 1 hdX5_valueNow ⟨Nat.le_of_ble_eq_true rfl, Nat.le_of_ble_eq_true rfl⟩ ⟨Nat.le_of_ble_eq_true rfl, Nat.le_of_ble_eq_true rfl⟩ rfl rfl hl.1 (Nat.le_of_ble_eq_true rfl) hP hK (va_recv hK hP (ci := 4) (q0 := 0) rfl rfl) hS dX5_layBefore_46 (fun H locs hk hS => ?_)
          have hP := k_kept hP hk
          refine g_iast hx hb hK hP hD hS 8 0 rfl rfl dX5_layBefore_49 h (fun c6 H locs h hP hS => ?_)
          have hP : va_P (dC, dI) vwCl (wX5 cyI cyC ob a1 a2 a3 a4 a5 a6 a7 a8 v_thrown v_z v_saved v_savedMany v_spare v_buffer v_typed v_marksBlown v_rests v_begins v_orders v_orderMany v_spot v_wrong v_isShort c6 v_hash) H := hP
          have hD : va_D (k_A (wX5 cyI cyC ob a1 a2 a3 a4 a5 a6 a7 a8 v_thrown v_z v_saved v_savedMany v_spare v_buffer v_typed v_marksBlown v_rests v_begins v_orders v_orderMany v_spot v_wrong v_isShort v_before v_hash)) (wX5 cyI cyC ob a1 a2 a3 a4 a5 a6 a7 a8 v_thrown v_z v_saved v_savedMany v_spare v_buffer v_typed v_marksBlown v_rests v_begins v_orders v_orderMany v_spot v_wrong v_isShort c6 v_hash) := k_Dm hD rfl
          refine g_iinc (dv := 1) hx hb dX5_layBefore_50 hl (j := 1) rfl (by decide) (by decide) h (fun x7 ls h hl => ?_)
          have hl : lv_has ls 2 [(1, .int x7), (0, .ref ob)] := hl
          refine lv_goto (tgt := 30) hx hb dX5_layBefore_53 (by decide) ?_
          exact ih30 x7 c6 _ _ _ h hP hS (lv_sub hl [1, 0] rfl)
    exact L30 5000 0 c1 _ _ _ h hP hS (lv_sub hl [1, 0] rfl)
  obtain ⟨S2, hS2⟩ : ∃ z, z = (fX5_layBefore_s2 K28 v_z) := ⟨_, rfl⟩
  rw [← hS2] at h
  have L2 : ∀ (n : Nat) (x8 : Int32) (c9 : Nat → Int32) (H : Heap) (locs : List Loc) (ls : Array Slot), k_l2 S2 n x8 c9 = some r_before → va_P (dC, dI) vwCl (wX5 cyI cyC ob a1 a2 a3 a4 a5 a6 a7 a8 v_thrown v_z v_saved v_savedMany v_spare v_buffer v_typed v_marksBlown v_rests v_begins v_orders v_orderMany v_spot v_wrong v_isShort c9 v_hash) H → va_S (k_A (wX5 cyI cyC ob a1 a2 a3 a4 a5 a6 a7 a8 v_thrown v_z v_saved v_savedMany v_spare v_buffer v_typed v_marksBlown v_rests v_begins v_orders v_orderMany v_spot v_wrong v_isShort v_before v_hash)) s.heap H locs → lv_has ls 2 [(0, .ref ob), (1, .int x8)] → W p l e (k_rm 8 188) s m [.ref ob].toArray below meth c H locs 0 0 (MQ below (qMV (dC, dI) (wX5 cyI cyC ob a1 a2 a3 a4 a5 a6 a7 a8 v_thrown v_z v_saved v_savedMany v_spare v_buffer v_typed v_marksBlown v_rests v_begins v_orders v_orderMany v_spot v_wrong v_isShort v_before v_hash) (wX5 cyI cyC ob a1 a2 a3 a4 a5 a6 a7 a8 v_thrown v_z v_saved v_savedMany v_spare v_buffer v_typed v_marksBlown v_rests v_begins v_orders v_orderMany v_spot v_wrong v_isShort r_before v_hash)) [.ref ob].toArray s 0 0 (k_A (wX5 cyI cyC ob a1 a2 a3 a4 a5 a6 a7 a8 v_thrown v_z v_saved v_savedMany v_spare v_buffer v_typed v_marksBlown v_rests v_begins v_orders v_orderMany v_spot v_wrong v_isShort v_before v_hash))) (F0 m 2 ls []) := by
    intro n
    induction n with
    | zero =>
      intro x8 c9 H locs ls h
      exact (k_l2_0 h).elim
    | succ n ih2 =>
      intro x8 c9 H locs ls h hP hS hl
      have hD : va_D (k_A (wX5 cyI cyC ob a1 a2 a3 a4 a5 a6 a7 a8 v_thrown v_z v_saved v_savedMany v_spare v_buffer v_typed v_marksBlown v_rests v_begins v_orders v_orderMany v_spot v_wrong v_isShort v_before v_hash)) (wX5 cyI cyC ob a1 a2 a3 a4 a5 a6 a7 a8 v_thrown v_z v_saved v_savedMany v_spare v_buffer v_typed v_marksBlown v_rests v_begins v_orders v_orderMany v_spot v_wrong v_isShort c9 v_hash) := k_Dm hD rfl
      have h := k_l2_s h
      have h := k_a3 hS2 h
      unfold fX5_layBefore_s2 at h
      refine lv_iload_n hx hb dX5_layBefore_2 rfl (lv_at hl 1 rfl) ?_
      refine lv_bipush (v := 20) hx hb dX5_layBefore_3 (by decide) ?_
      refine g_icmp_ge (tgt := 28) hx hb dX5_layBefore_5 (by decide) h (fun h => ?_) (fun h => ?_)
      · exact J28 c9 _ _ _ h hP hS (lv_sub hl [0] rfl)
      · refine lv_aload_n hx hb dX5_layBefore_8 rfl (lv_at hl 0 rfl) ?_
        refine va_get (D := (dC, dI)) (ci := 4) (v := .ref a8) (C := RX5) (T := TX5) (N := 17) hx hb hts iaX5 hown hK hP 0 rfl rfl 15 (by decide) (hts _ q731) (fun _ h9 => h9) rfl dX5_layBefore_9 ?_
        refine lv_iload_n hx hb dX5_layBefore_12 rfl (lv_at hl 1 rfl) ?_
        refine lv_aload_n hx hb dX5_layBefore_13 rfl (lv_at hl 0 rfl) ?_
        refine lv_iload_n hx hb dX5_layBefore_14 rfl (lv_at hl 1 rfl) ?_
        obtain ⟨x10, hc15, h⟩ := k_b1_e h
        refine g_callRI_V (As := [.int x8]) (rest := [.int x8, .ref a8]) hC (mX5_maskNow l dC dI cyI cyC cyO ob a1 a2 a3 a4 a5 a6 a7 a8 v_thrown v_z v_saved v_savedMany v_spare v_buffer v_typed v_marksBlown v_rests v_begins v_orders v_orderMany v_spot v_wrong v_isShort c9 v_hash x8 hc15) q782 q783 q22 q75 q784 1 hdX5_maskNow ⟨Nat.le_of_ble_eq_true rfl, Nat.le_of_ble_eq_true rfl⟩ ⟨Nat.le_of_ble_eq_true rfl, Nat.le_of_ble_eq_true rfl⟩ rfl rfl hl.1 (Nat.le_of_ble_eq_true rfl) hP hK (va_recv hK hP (ci := 4) (q0 := 0) rfl rfl) hS dX5_layBefore_15 (fun H locs hk hS => ?_)
        have hP := k_kept hP hk
        obtain ⟨x11, hc18, h⟩ := k_b1_e h
        refine g_callRI_S (As := [.int x10]) (rest := [.int x8, .ref a8]) hC (mX5_kindOf l dC dI cyI cyC cyO x10 hc18) q806 q807 q75 q808 1 hdX5_kindOf ⟨Nat.le_of_ble_eq_true rfl, Nat.le_of_ble_eq_true rfl⟩ ⟨Nat.le_of_ble_eq_true rfl, Nat.le_of_ble_eq_true rfl⟩ rfl rfl hl.1 (Nat.le_of_ble_eq_true rfl) va_P_nil hK hS dX5_layBefore_18 (fun H locs hk hS => ?_)
        have hP := k_kept hP hk
        refine g_iast hx hb hK hP hD hS 8 0 rfl rfl dX5_layBefore_21 h (fun c12 H locs h hP hS => ?_)
        have hP : va_P (dC, dI) vwCl (wX5 cyI cyC ob a1 a2 a3 a4 a5 a6 a7 a8 v_thrown v_z v_saved v_savedMany v_spare v_buffer v_typed v_marksBlown v_rests v_begins v_orders v_orderMany v_spot v_wrong v_isShort c12 v_hash) H := hP
        have hD : va_D (k_A (wX5 cyI cyC ob a1 a2 a3 a4 a5 a6 a7 a8 v_thrown v_z v_saved v_savedMany v_spare v_buffer v_typed v_marksBlown v_rests v_begins v_orders v_orderMany v_spot v_wrong v_isShort v_before v_hash)) (wX5 cyI cyC ob a1 a2 a3 a4 a5 a6 a7 a8 v_thrown v_z v_saved v_savedMany v_spare v_buffer v_typed v_marksBlown v_rests v_begins v_orders v_orderMany v_spot v_wrong v_isShort c12 v_hash) := k_Dm hD rfl
        refine g_iinc (dv := 1) hx hb dX5_layBefore_22 hl (j := 1) rfl (by decide) (by decide) h (fun x13 ls h hl => ?_)
        have hl : lv_has ls 2 [(1, .int x13), (0, .ref ob)] := hl
        refine lv_goto (tgt := 2) hx hb dX5_layBefore_25 (by decide) ?_
        exact ih2 x13 c12 _ _ _ h hP hS (lv_sub hl [1, 0] rfl)
  exact L2 5000 0 v_before _ _ _ h hP hS (lv_sub hl [1, 0] rfl)
