def fX5_wouldHeat_s68 (K110 : Int32 → Option (Int32 × (Nat → Int32) × (Nat → Int32) × (Nat → Int32))) (c1 : Nat → Int32) (c4 : Nat → Int32) (rec68 : Int32 → Int32 → Option (Int32 × (Nat → Int32) × (Nat → Int32) × (Nat → Int32))) (x8 : Int32) (x9 : Int32) : Option (Int32 × (Nat → Int32) × (Nat → Int32) × (Nat → Int32)) :=
  k_if (16 ≤ x9)
  (
    K110 x8)
  (
    k_let (20 + x9) fun (x10 : Int32) =>
    k_ck x10 36 <| k_let (c1 x10.toNatClampNeg) fun (x11 : Int32) =>
    k_b1 (fX5_valueNow c4 x9) fun (x12 : Int32) =>
    k_j1
    (fun (x13 : Int32) =>
      k_let (x8 + x13) fun (x14 : Int32) =>
      k_let (x9 + 1) fun (x15 : Int32) =>
      rec68 x14 x15)
    (fun K101 =>
    k_if (x11 = x12)
    (
      K101 0)
    (
      K101 1)))
def fX5_wouldHeat_s20 (K62 : Int32 → Option (Int32 × (Nat → Int32) × (Nat → Int32) × (Nat → Int32))) (c1 : Nat → Int32) (c4 : Nat → Int32) (rec20 : Int32 → Int32 → Option (Int32 × (Nat → Int32) × (Nat → Int32) × (Nat → Int32))) (x16 : Int32) (x17 : Int32) : Option (Int32 × (Nat → Int32) × (Nat → Int32) × (Nat → Int32)) :=
  k_if (20 ≤ x17)
  (
    K62 x16)
  (
    k_ck x17 36 <| k_let (c1 x17.toNatClampNeg) fun (x18 : Int32) =>
    k_b1 (fX5_maskNow c4 x17) fun (x19 : Int32) =>
    k_b1 (fX5_kindOf x19) fun (x20 : Int32) =>
    k_j1
    (fun (x21 : Int32) =>
      k_let (x16 + x21) fun (x22 : Int32) =>
      k_let (x17 + 1) fun (x23 : Int32) =>
      rec20 x22 x23)
    (fun K53 =>
    k_if (x18 = x20)
    (
      K53 0)
    (
      K53 1)))
def fX5_wouldHeat (v_z : Nat → Int32) (v_spare : Nat → Int32) (v_before : Nat → Int32) (p1 : Int32) (p2 : Int32) : Option (Int32 × (Nat → Int32) × (Nat → Int32) × (Nat → Int32)) :=
  k_b1 (fX5_layBefore v_z v_before) fun (c1 : Nat → Int32) =>
  k_b1 (fX5_putAside v_z v_spare) fun (c2 : Nat → Int32) =>
  k_b2 (fX5_heatAll v_z p1) fun (x3 : Int32) (c4 : Nat → Int32) =>
  k_j1
  (fun (x5 : Int32) =>
    k_j1
    (fun (x6 : Int32) =>
      k_b1 (fX5_bringBack c4 c2) fun (c7 : Nat → Int32) =>
      k_if (p2 = 0)
      (
        some (x3, c7, c2, c1))
      (
        k_if (p2 = 1)
        (
          some (x5, c7, c2, c1))
        (
          some (x6, c7, c2, c1))))
    (fun K110 =>
    k_l2 (fX5_wouldHeat_s68 K110 c1 c4) 5000 0 0))
  (fun K62 =>
  k_l2 (fX5_wouldHeat_s20 K62 c1 c4) 5000 0 0)
theorem hdX5_wouldHeat : yX5_wouldHeat.cls = RX5 ∧ yX5_wouldHeat.cls ≠ "java/lang/invoke/MethodHandle" ∧ yX5_wouldHeat.cls ≠ "java/lang/invoke/VarHandle" ∧ (parseMethodDescriptor yX5_wouldHeat.desc).map (fun d => d.parameters.length) = some 2 := by decide +kernel
set_option maxRecDepth 100000 in
set_option maxHeartbeats 4000000 in
theorem mX5_wouldHeat (l : Launch) (dC : Nat → ClassId) (dI : Nat → Nat → Nat) (cyI cyC cyO : ClassId) (ob a1 a2 a3 a4 a5 a6 a7 a8 : Nat) (v_thrown : Int32) (v_z : Nat → Int32) (v_saved : Nat → Int32) (v_savedMany : Int32) (v_spare : Nat → Int32) (v_buffer : Nat → Int32) (v_typed : Int32) (v_marksBlown : Int32) (v_rests : Nat → Int32) (v_begins : Nat → Int32) (v_orders : Nat → Int32) (v_orderMany : Int32) (v_spot : Int32) (v_wrong : Int32) (v_isShort : Int32) (v_before : Nat → Int32) (v_hash : Int64) (p1 : Int32) (p2 : Int32) {r : Int32} {r_z : Nat → Int32} {r_spare : Nat → Int32} {r_before : Nat → Int32} (hf : fX5_wouldHeat v_z v_spare v_before p1 p2 = some (r, r_z, r_spare, r_before)) : MetMI l yX5_wouldHeat cX5_wouldHeat 7 (some .int) 9 209 [.ref ob, .int p1, .int p2] (dC, dI) (tyS cyI cyC cyO) (wX5 cyI cyC ob a1 a2 a3 a4 a5 a6 a7 a8 v_thrown v_z v_saved v_savedMany v_spare v_buffer v_typed v_marksBlown v_rests v_begins v_orders v_orderMany v_spot v_wrong v_isShort v_before v_hash) (wX5 cyI cyC ob a1 a2 a3 a4 a5 a6 a7 a8 v_thrown r_z v_saved v_savedMany r_spare v_buffer v_typed v_marksBlown v_rests v_begins v_orders v_orderMany v_spot v_wrong v_isShort r_before v_hash) r := by
  refine metMI_of (by decide) (Nat.le_of_ble_eq_true rfl) ?_
  intro p e s m below meth c ls hC hr hlk hP hK hD hl
  have hC : CallFix p m c cX5_wouldHeat 7 s [.ref ob, .int p1, .int p2].toArray wA RX5 := hC
  obtain ⟨hx, hb, hml, hown, hts⟩ := id hC
  have hS : va_S (k_A (wX5 cyI cyC ob a1 a2 a3 a4 a5 a6 a7 a8 v_thrown v_z v_saved v_savedMany v_spare v_buffer v_typed v_marksBlown v_rests v_begins v_orders v_orderMany v_spot v_wrong v_isShort v_before v_hash)) s.heap s.heap [] := va_S.rf
  have hl : lv_has ls 7 [(0, .ref ob), (1, .int p1), (2, .int p2)] := hl
  have h := hf
  unfold fX5_wouldHeat at h
  obtain ⟨H, hH⟩ : ∃ H, H = s.heap := ⟨_, rfl⟩
  obtain ⟨locs, hlo⟩ : ∃ locs : List Loc, locs = [] := ⟨_, rfl⟩
  rw [← hH] at hP
  rw [← hlo] at hS
  have hS : va_S (k_A (wX5 cyI cyC ob a1 a2 a3 a4 a5 a6 a7 a8 v_thrown v_z v_saved v_savedMany v_spare v_buffer v_typed v_marksBlown v_rests v_begins v_orders v_orderMany v_spot v_wrong v_isShort v_before v_hash)) s.heap H locs := by rw [hH]; exact hS
  show W p l e (k_rm 9 209) s m [.ref ob, .int p1, .int p2].toArray below meth c s.heap [] 0 0 _ _
  rw [← hlo, ← hH]
  refine lv_aload_n hx hb dX5_wouldHeat_0 rfl (lv_at hl 0 rfl) ?_
  obtain ⟨c1, hc1, h⟩ := k_b1_e h
  refine g_callMV_V (As := []) (rest := []) hC (mX5_layBefore l dC dI cyI cyC cyO ob a1 a2 a3 a4 a5 a6 a7 a8 v_thrown v_z v_saved v_savedMany v_spare v_buffer v_typed v_marksBlown v_rests v_begins v_orders v_orderMany v_spot v_wrong v_isShort v_before v_hash hc1) q998 q999 q63 q75 q1000 0 hdX5_layBefore ⟨Nat.le_of_ble_eq_true rfl, Nat.le_of_ble_eq_true rfl⟩ ⟨Nat.le_of_ble_eq_true rfl, Nat.le_of_ble_eq_true rfl⟩ rfl rfl hl.1 (Nat.le_of_ble_eq_true rfl) hP hK hD (va_recv hK hP (ci := 4) (q0 := 0) rfl rfl) hS dX5_wouldHeat_1 (fun H locs hPn hk hS => ?_)
  have hP : va_P (dC, dI) vwCl (wX5 cyI cyC ob a1 a2 a3 a4 a5 a6 a7 a8 v_thrown v_z v_saved v_savedMany v_spare v_buffer v_typed v_marksBlown v_rests v_begins v_orders v_orderMany v_spot v_wrong v_isShort c1 v_hash) H := hPn
  have hD : va_D (k_A (wX5 cyI cyC ob a1 a2 a3 a4 a5 a6 a7 a8 v_thrown v_z v_saved v_savedMany v_spare v_buffer v_typed v_marksBlown v_rests v_begins v_orders v_orderMany v_spot v_wrong v_isShort v_before v_hash)) (wX5 cyI cyC ob a1 a2 a3 a4 a5 a6 a7 a8 v_thrown v_z v_saved v_savedMany v_spare v_buffer v_typed v_marksBlown v_rests v_begins v_orders v_orderMany v_spot v_wrong v_isShort c1 v_hash) := k_Dm hD rfl
  refine lv_aload_n hx hb dX5_wouldHeat_4 rfl (lv_at hl 0 rfl) ?_
  obtain ⟨c2, hc5, h⟩ := k_b1_e h
  refine g_callMV_V (As := []) (rest := []) hC (mX5_putAside l dC dI cyI cyC cyO ob a1 a2 a3 a4 a5 a6 a7 a8 v_thrown v_z v_saved v_savedMany v_spare v_buffer v_typed v_marksBlown v_rests v_begins v_orders v_orderMany v_spot v_wrong v_isShort c1 v_hash hc5) q985 q986 q60 q75 q987 0 hdX5_putAside ⟨Nat.le_of_ble_eq_true rfl, Nat.le_of_ble_eq_true rfl⟩ ⟨Nat.le_of_ble_eq_true rfl, Nat.le_of_ble_eq_true rfl⟩ rfl rfl hl.1 (Nat.le_of_ble_eq_true rfl) hP hK hD (va_recv hK hP (ci := 4) (q0 := 0) rfl rfl) hS dX5_wouldHeat_5 (fun H locs hPn hk hS => ?_)
  have hP : va_P (dC, dI) vwCl (wX5 cyI cyC ob a1 a2 a3 a4 a5 a6 a7 a8 v_thrown v_z v_saved v_savedMany c2 v_buffer v_typed v_marksBlown v_rests v_begins v_orders v_orderMany v_spot v_wrong v_isShort c1 v_hash) H := hPn
  have hD : va_D (k_A (wX5 cyI cyC ob a1 a2 a3 a4 a5 a6 a7 a8 v_thrown v_z v_saved v_savedMany v_spare v_buffer v_typed v_marksBlown v_rests v_begins v_orders v_orderMany v_spot v_wrong v_isShort v_before v_hash)) (wX5 cyI cyC ob a1 a2 a3 a4 a5 a6 a7 a8 v_thrown v_z v_saved v_savedMany c2 v_buffer v_typed v_marksBlown v_rests v_begins v_orders v_orderMany v_spot v_wrong v_isShort c1 v_hash) := k_Dm hD rfl
  refine lv_aload_n hx hb dX5_wouldHeat_8 rfl (lv_at hl 0 rfl) ?_
  refine lv_iload_n hx hb dX5_wouldHeat_9 rfl (lv_at hl 1 rfl) ?_
  obtain ⟨x3, c4, hc10, h⟩ := k_b2_e h
  refine g_callMI_V (As := [.int p1]) (rest := []) hC (mX5_heatAll l dC dI cyI cyC cyO ob a1 a2 a3 a4 a5 a6 a7 a8 v_thrown v_z v_saved v_savedMany c2 v_buffer v_typed v_marksBlown v_rests v_begins v_orders v_orderMany v_spot v_wrong v_isShort c1 v_hash p1 hc10) q843 q844 q32 q75 q845 1 hdX5_heatAll ⟨Nat.le_of_ble_eq_true rfl, Nat.le_of_ble_eq_true rfl⟩ ⟨Nat.le_of_ble_eq_true rfl, Nat.le_of_ble_eq_true rfl⟩ rfl rfl hl.1 (Nat.le_of_ble_eq_true rfl) hP hK hD (va_recv hK hP (ci := 4) (q0 := 0) rfl rfl) hS dX5_wouldHeat_10 (fun H locs hPn hk hS => ?_)
  have hP : va_P (dC, dI) vwCl (wX5 cyI cyC ob a1 a2 a3 a4 a5 a6 a7 a8 v_thrown c4 v_saved v_savedMany c2 v_buffer v_typed v_marksBlown v_rests v_begins v_orders v_orderMany v_spot v_wrong v_isShort c1 v_hash) H := hPn
  have hD : va_D (k_A (wX5 cyI cyC ob a1 a2 a3 a4 a5 a6 a7 a8 v_thrown v_z v_saved v_savedMany v_spare v_buffer v_typed v_marksBlown v_rests v_begins v_orders v_orderMany v_spot v_wrong v_isShort v_before v_hash)) (wX5 cyI cyC ob a1 a2 a3 a4 a5 a6 a7 a8 v_thrown c4 v_saved v_savedMany c2 v_buffer v_typed v_marksBlown v_rests v_begins v_orders v_orderMany v_spot v_wrong v_isShort c1 v_hash) := k_Dm hD rfl
  refine lv_istore_n (lv' := [(3, .int x3), (0, .ref ob), (1, .int p1), (2, .int p2)]) hx hb dX5_wouldHeat_13 rfl hl (by decide) rfl (fun ls hl => ?_)
  refine lv_iconst (v := 0) hx hb dX5_wouldHeat_14 (by decide) ?_
  refine lv_istore (lv' := [(4, .int 0), (3, .int x3), (0, .ref ob), (1, .int p1), (2, .int p2)]) hx hb dX5_wouldHeat_15 hl (by decide) rfl (fun ls hl => ?_)
  refine lv_iconst (v := 0) hx hb dX5_wouldHeat_17 (by decide) ?_
  refine lv_istore (lv' := [(5, .int 0), (4, .int 0), (3, .int x3), (0, .ref ob), (1, .int p1), (2, .int p2)]) hx hb dX5_wouldHeat_18 hl (by decide) rfl (fun ls hl => ?_)
  obtain ⟨K62, hK62, h⟩ := k_j1_e h
  have J62 : ∀ (x5 : Int32) (H : Heap) (locs : List Loc) (ls : Array Slot), K62 x5 = some (r, r_z, r_spare, r_before) → va_P (dC, dI) vwCl (wX5 cyI cyC ob a1 a2 a3 a4 a5 a6 a7 a8 v_thrown c4 v_saved v_savedMany c2 v_buffer v_typed v_marksBlown v_rests v_begins v_orders v_orderMany v_spot v_wrong v_isShort c1 v_hash) H → va_S (k_A (wX5 cyI cyC ob a1 a2 a3 a4 a5 a6 a7 a8 v_thrown v_z v_saved v_savedMany v_spare v_buffer v_typed v_marksBlown v_rests v_begins v_orders v_orderMany v_spot v_wrong v_isShort v_before v_hash)) s.heap H locs → lv_has ls 7 [(0, .ref ob), (2, .int p2), (3, .int x3), (4, .int x5)] → W p l e (k_rm 9 209) s m [.ref ob, .int p1, .int p2].toArray below meth c H locs 0 0 (MQ below (qMI r (dC, dI) (wX5 cyI cyC ob a1 a2 a3 a4 a5 a6 a7 a8 v_thrown v_z v_saved v_savedMany v_spare v_buffer v_typed v_marksBlown v_rests v_begins v_orders v_orderMany v_spot v_wrong v_isShort v_before v_hash) (wX5 cyI cyC ob a1 a2 a3 a4 a5 a6 a7 a8 v_thrown r_z v_saved v_savedMany r_spare v_buffer v_typed v_marksBlown v_rests v_begins v_orders v_orderMany v_spot v_wrong v_isShort r_before v_hash)) [.ref ob, .int p1, .int p2].toArray s 0 0 (k_A (wX5 cyI cyC ob a1 a2 a3 a4 a5 a6 a7 a8 v_thrown v_z v_saved v_savedMany v_spare v_buffer v_typed v_marksBlown v_rests v_begins v_orders v_orderMany v_spot v_wrong v_isShort v_before v_hash))) (F0 m 62 ls []) := by
    intro x5 H locs ls h hP hS hl
    have h := k_a1 hK62 h
    refine lv_iconst (v := 0) hx hb dX5_wouldHeat_62 (by decide) ?_
    refine lv_istore (lv' := [(5, .int 0), (0, .ref ob), (2, .int p2), (3, .int x3), (4, .int x5)]) hx hb dX5_wouldHeat_63 hl (by decide) rfl (fun ls hl => ?_)
    refine lv_iconst (v := 0) hx hb dX5_wouldHeat_65 (by decide) ?_
    refine lv_istore (lv' := [(6, .int 0), (5, .int 0), (0, .ref ob), (2, .int p2), (3, .int x3), (4, .int x5)]) hx hb dX5_wouldHeat_66 hl (by decide) rfl (fun ls hl => ?_)
    obtain ⟨K110, hK110, h⟩ := k_j1_e h
    have J110 : ∀ (x6 : Int32) (H : Heap) (locs : List Loc) (ls : Array Slot), K110 x6 = some (r, r_z, r_spare, r_before) → va_P (dC, dI) vwCl (wX5 cyI cyC ob a1 a2 a3 a4 a5 a6 a7 a8 v_thrown c4 v_saved v_savedMany c2 v_buffer v_typed v_marksBlown v_rests v_begins v_orders v_orderMany v_spot v_wrong v_isShort c1 v_hash) H → va_S (k_A (wX5 cyI cyC ob a1 a2 a3 a4 a5 a6 a7 a8 v_thrown v_z v_saved v_savedMany v_spare v_buffer v_typed v_marksBlown v_rests v_begins v_orders v_orderMany v_spot v_wrong v_isShort v_before v_hash)) s.heap H locs → lv_has ls 7 [(0, .ref ob), (2, .int p2), (3, .int x3), (4, .int x5), (5, .int x6)] → W p l e (k_rm 9 209) s m [.ref ob, .int p1, .int p2].toArray below meth c H locs 0 0 (MQ below (qMI r (dC, dI) (wX5 cyI cyC ob a1 a2 a3 a4 a5 a6 a7 a8 v_thrown v_z v_saved v_savedMany v_spare v_buffer v_typed v_marksBlown v_rests v_begins v_orders v_orderMany v_spot v_wrong v_isShort v_before v_hash) (wX5 cyI cyC ob a1 a2 a3 a4 a5 a6 a7 a8 v_thrown r_z v_saved v_savedMany r_spare v_buffer v_typed v_marksBlown v_rests v_begins v_orders v_orderMany v_spot v_wrong v_isShort r_before v_hash)) [.ref ob, .int p1, .int p2].toArray s 0 0 (k_A (wX5 cyI cyC ob a1 a2 a3 a4 a5 a6 a7 a8 v_thrown v_z v_saved v_savedMany v_spare v_buffer v_typed v_marksBlown v_rests v_begins v_orders v_orderMany v_spot v_wrong v_isShort v_before v_hash))) (F0 m 110 ls []) := by
      intro x6 H locs ls h hP hS hl
      have h := k_a1 hK110 h
      refine lv_aload_n hx hb dX5_wouldHeat_110 rfl (lv_at hl 0 rfl) ?_
      obtain ⟨c7, hc111, h⟩ := k_b1_e h
      refine g_callMV_V (As := []) (rest := []) hC (mX5_bringBack l dC dI cyI cyC cyO ob a1 a2 a3 a4 a5 a6 a7 a8 v_thrown c4 v_saved v_savedMany c2 v_buffer v_typed v_marksBlown v_rests v_begins v_orders v_orderMany v_spot v_wrong v_isShort c1 v_hash hc111) q988 q989 q61 q75 q990 0 hdX5_bringBack ⟨Nat.le_of_ble_eq_true rfl, Nat.le_of_ble_eq_true rfl⟩ ⟨Nat.le_of_ble_eq_true rfl, Nat.le_of_ble_eq_true rfl⟩ rfl rfl hl.1 (Nat.le_of_ble_eq_true rfl) hP hK hD (va_recv hK hP (ci := 4) (q0 := 0) rfl rfl) hS dX5_wouldHeat_111 (fun H locs hPn hk hS => ?_)
      have hP : va_P (dC, dI) vwCl (wX5 cyI cyC ob a1 a2 a3 a4 a5 a6 a7 a8 v_thrown c7 v_saved v_savedMany c2 v_buffer v_typed v_marksBlown v_rests v_begins v_orders v_orderMany v_spot v_wrong v_isShort c1 v_hash) H := hPn
      have hD : va_D (k_A (wX5 cyI cyC ob a1 a2 a3 a4 a5 a6 a7 a8 v_thrown v_z v_saved v_savedMany v_spare v_buffer v_typed v_marksBlown v_rests v_begins v_orders v_orderMany v_spot v_wrong v_isShort v_before v_hash)) (wX5 cyI cyC ob a1 a2 a3 a4 a5 a6 a7 a8 v_thrown c7 v_saved v_savedMany c2 v_buffer v_typed v_marksBlown v_rests v_begins v_orders v_orderMany v_spot v_wrong v_isShort c1 v_hash) := k_Dm hD rfl
      refine lv_iload_n hx hb dX5_wouldHeat_114 rfl (lv_at hl 1 rfl) ?_
      refine g_if_ne (tgt := 122) hx hb dX5_wouldHeat_115 (by decide) h (fun h => ?_) (fun h => ?_)
      · refine lv_iload_n hx hb dX5_wouldHeat_122 rfl (lv_at hl 1 rfl) ?_
        refine lv_iconst (v := 1) hx hb dX5_wouldHeat_123 (by decide) ?_
        refine g_icmp_ne (tgt := 132) hx hb dX5_wouldHeat_124 (by decide) h (fun h => ?_) (fun h => ?_)
        · refine lv_iload hx hb dX5_wouldHeat_132 (lv_at hl 4 rfl) ?_
          obtain ⟨e0, e1, e2, e3⟩ := k_t4 h
          exact g_retMI hx hb hr hlk hS e0 (by rw [← e1, ← e2, ← e3]; exact hP) dX5_wouldHeat_134
        · refine lv_iload hx hb dX5_wouldHeat_127 (lv_at hl 3 rfl) ?_
          refine lv_goto (tgt := 134) hx hb dX5_wouldHeat_129 (by decide) ?_
          obtain ⟨e0, e1, e2, e3⟩ := k_t4 h
          exact g_retMI hx hb hr hlk hS e0 (by rw [← e1, ← e2, ← e3]; exact hP) dX5_wouldHeat_134
      · refine lv_iload_n hx hb dX5_wouldHeat_118 rfl (lv_at hl 2 rfl) ?_
        refine lv_goto (tgt := 134) hx hb dX5_wouldHeat_119 (by decide) ?_
        obtain ⟨e0, e1, e2, e3⟩ := k_t4 h
        exact g_retMI hx hb hr hlk hS e0 (by rw [← e1, ← e2, ← e3]; exact hP) dX5_wouldHeat_134
    obtain ⟨S68, hS68⟩ : ∃ z, z = (fX5_wouldHeat_s68 K110 c1 c4) := ⟨_, rfl⟩
    rw [← hS68] at h
    have L68 : ∀ (n : Nat) (x8 : Int32) (x9 : Int32) (H : Heap) (locs : List Loc) (ls : Array Slot), k_l2 S68 n x8 x9 = some (r, r_z, r_spare, r_before) → va_P (dC, dI) vwCl (wX5 cyI cyC ob a1 a2 a3 a4 a5 a6 a7 a8 v_thrown c4 v_saved v_savedMany c2 v_buffer v_typed v_marksBlown v_rests v_begins v_orders v_orderMany v_spot v_wrong v_isShort c1 v_hash) H → va_S (k_A (wX5 cyI cyC ob a1 a2 a3 a4 a5 a6 a7 a8 v_thrown v_z v_saved v_savedMany v_spare v_buffer v_typed v_marksBlown v_rests v_begins v_orders v_orderMany v_spot v_wrong v_isShort v_before v_hash)) s.heap H locs → lv_has ls 7 [(0, .ref ob), (2, .int p2), (3, .int x3), (4, .int x5), (5, .int x8), (6, .int x9)] → W p l e (k_rm 9 209) s m [.ref ob, .int p1, .int p2].toArray below meth c H locs 0 0 (MQ below (qMI r (dC, dI) (wX5 cyI cyC ob a1 a2 a3 a4 a5 a6 a7 a8 v_thrown v_z v_saved v_savedMany v_spare v_buffer v_typed v_marksBlown v_rests v_begins v_orders v_orderMany v_spot v_wrong v_isShort v_before v_hash) (wX5 cyI cyC ob a1 a2 a3 a4 a5 a6 a7 a8 v_thrown r_z v_saved v_savedMany r_spare v_buffer v_typed v_marksBlown v_rests v_begins v_orders v_orderMany v_spot v_wrong v_isShort r_before v_hash)) [.ref ob, .int p1, .int p2].toArray s 0 0 (k_A (wX5 cyI cyC ob a1 a2 a3 a4 a5 a6 a7 a8 v_thrown v_z v_saved v_savedMany v_spare v_buffer v_typed v_marksBlown v_rests v_begins v_orders v_orderMany v_spot v_wrong v_isShort v_before v_hash))) (F0 m 68 ls []) := by
      intro n
      induction n with
      | zero =>
        intro x8 x9 H locs ls h
        exact (k_l2_0 h).elim
      | succ n ih68 =>
        intro x8 x9 H locs ls h hP hS hl
        have h := k_l2_s h
        have h := k_a3 hS68 h
        unfold fX5_wouldHeat_s68 at h
        refine lv_iload hx hb dX5_wouldHeat_68 (lv_at hl 5 rfl) ?_
        refine lv_bipush (v := 16) hx hb dX5_wouldHeat_70 (by decide) ?_
        refine g_icmp_ge (tgt := 110) hx hb dX5_wouldHeat_72 (by decide) h (fun h => ?_) (fun h => ?_)
        · exact J110 x8 _ _ _ h hP hS (lv_sub hl [0, 1, 2, 3, 4] rfl)
        · refine lv_iload hx hb dX5_wouldHeat_75 (lv_at hl 4 rfl) ?_
          refine lv_aload_n hx hb dX5_wouldHeat_77 rfl (lv_at hl 0 rfl) ?_
          refine va_get (D := (dC, dI)) (ci := 4) (v := .ref a8) (C := RX5) (T := TX5) (N := 17) hx hb hts iaX5 hown hK hP 0 rfl rfl 15 (by decide) (hts _ q731) (fun _ h9 => h9) rfl dX5_wouldHeat_78 ?_
          refine lv_bipush (v := 20) hx hb dX5_wouldHeat_81 (by decide) ?_
          refine lv_iload hx hb dX5_wouldHeat_83 (lv_at hl 5 rfl) ?_
          refine g_iadd hx hb dX5_wouldHeat_85 h (fun x10 h => ?_)
          refine g_iald hx hb hK hP 8 0 rfl rfl dX5_wouldHeat_86 h (fun x11 h => ?_)
          refine lv_aload_n hx hb dX5_wouldHeat_87 rfl (lv_at hl 0 rfl) ?_
          refine lv_iload hx hb dX5_wouldHeat_88 (lv_at hl 5 rfl) ?_
          obtain ⟨x12, hc90, h⟩ := k_b1_e h
          refine g_callRI_V (As := [.int x9]) (rest := [.int x11, .int x8]) hC (mX5_valueNow l dC dI cyI cyC cyO ob a1 a2 a3 a4 a5 a6 a7 a8 v_thrown c4 v_saved v_savedMany c2 v_buffer v_typed v_marksBlown v_rests v_begins v_orders v_orderMany v_spot v_wrong v_isShort c1 v_hash x9 hc90) q927 q928 q46 q75 q929 1 hdX5_valueNow ⟨Nat.le_of_ble_eq_true rfl, Nat.le_of_ble_eq_true rfl⟩ ⟨Nat.le_of_ble_eq_true rfl, Nat.le_of_ble_eq_true rfl⟩ rfl rfl hl.1 (Nat.le_of_ble_eq_true rfl) hP hK (va_recv hK hP (ci := 4) (q0 := 0) rfl rfl) hS dX5_wouldHeat_90 (fun H locs hk hS => ?_)
          have hP := k_kept hP hk
          obtain ⟨K101, hK101, h⟩ := k_j1_e h
          have J101 : ∀ (x13 : Int32) (H : Heap) (locs : List Loc) (ls : Array Slot), K101 x13 = some (r, r_z, r_spare, r_before) → va_P (dC, dI) vwCl (wX5 cyI cyC ob a1 a2 a3 a4 a5 a6 a7 a8 v_thrown c4 v_saved v_savedMany c2 v_buffer v_typed v_marksBlown v_rests v_begins v_orders v_orderMany v_spot v_wrong v_isShort c1 v_hash) H → va_S (k_A (wX5 cyI cyC ob a1 a2 a3 a4 a5 a6 a7 a8 v_thrown v_z v_saved v_savedMany v_spare v_buffer v_typed v_marksBlown v_rests v_begins v_orders v_orderMany v_spot v_wrong v_isShort v_before v_hash)) s.heap H locs → lv_has ls 7 [(0, .ref ob), (2, .int p2), (3, .int x3), (4, .int x5), (6, .int x9)] → W p l e (k_rm 9 209) s m [.ref ob, .int p1, .int p2].toArray below meth c H locs 0 0 (MQ below (qMI r (dC, dI) (wX5 cyI cyC ob a1 a2 a3 a4 a5 a6 a7 a8 v_thrown v_z v_saved v_savedMany v_spare v_buffer v_typed v_marksBlown v_rests v_begins v_orders v_orderMany v_spot v_wrong v_isShort v_before v_hash) (wX5 cyI cyC ob a1 a2 a3 a4 a5 a6 a7 a8 v_thrown r_z v_saved v_savedMany r_spare v_buffer v_typed v_marksBlown v_rests v_begins v_orders v_orderMany v_spot v_wrong v_isShort r_before v_hash)) [.ref ob, .int p1, .int p2].toArray s 0 0 (k_A (wX5 cyI cyC ob a1 a2 a3 a4 a5 a6 a7 a8 v_thrown v_z v_saved v_savedMany v_spare v_buffer v_typed v_marksBlown v_rests v_begins v_orders v_orderMany v_spot v_wrong v_isShort v_before v_hash))) (F0 m 101 ls [.int x13, .int x8]) := by
            intro x13 H locs ls h hP hS hl
            have h := k_a1 hK101 h
            refine g_iadd hx hb dX5_wouldHeat_101 h (fun x14 h => ?_)
            refine lv_istore (lv' := [(5, .int x14), (0, .ref ob), (2, .int p2), (3, .int x3), (4, .int x5), (6, .int x9)]) hx hb dX5_wouldHeat_102 hl (by decide) rfl (fun ls hl => ?_)
            refine g_iinc (dv := 1) hx hb dX5_wouldHeat_104 hl (j := 5) rfl (by decide) (by decide) h (fun x15 ls h hl => ?_)
            have hl : lv_has ls 7 [(6, .int x15), (5, .int x14), (0, .ref ob), (2, .int p2), (3, .int x3), (4, .int x5)] := hl
            refine lv_goto (tgt := 68) hx hb dX5_wouldHeat_107 (by decide) ?_
            exact ih68 x14 x15 _ _ _ h hP hS (lv_sub hl [2, 3, 4, 5, 1, 0] rfl)
          refine g_icmp_ne (tgt := 100) hx hb dX5_wouldHeat_93 (by decide) h (fun h => ?_) (fun h => ?_)
          · refine lv_iconst (v := 1) hx hb dX5_wouldHeat_100 (by decide) ?_
            exact J101 1 _ _ _ h hP hS (lv_sub hl [0, 1, 2, 3, 5] rfl)
          · refine lv_iconst (v := 0) hx hb dX5_wouldHeat_96 (by decide) ?_
            refine lv_goto (tgt := 101) hx hb dX5_wouldHeat_97 (by decide) ?_
            exact J101 0 _ _ _ h hP hS (lv_sub hl [0, 1, 2, 3, 5] rfl)
    exact L68 5000 0 0 _ _ _ h hP hS (lv_sub hl [2, 3, 4, 5, 1, 0] rfl)
  obtain ⟨S20, hS20⟩ : ∃ z, z = (fX5_wouldHeat_s20 K62 c1 c4) := ⟨_, rfl⟩
  rw [← hS20] at h
  have L20 : ∀ (n : Nat) (x16 : Int32) (x17 : Int32) (H : Heap) (locs : List Loc) (ls : Array Slot), k_l2 S20 n x16 x17 = some (r, r_z, r_spare, r_before) → va_P (dC, dI) vwCl (wX5 cyI cyC ob a1 a2 a3 a4 a5 a6 a7 a8 v_thrown c4 v_saved v_savedMany c2 v_buffer v_typed v_marksBlown v_rests v_begins v_orders v_orderMany v_spot v_wrong v_isShort c1 v_hash) H → va_S (k_A (wX5 cyI cyC ob a1 a2 a3 a4 a5 a6 a7 a8 v_thrown v_z v_saved v_savedMany v_spare v_buffer v_typed v_marksBlown v_rests v_begins v_orders v_orderMany v_spot v_wrong v_isShort v_before v_hash)) s.heap H locs → lv_has ls 7 [(0, .ref ob), (2, .int p2), (3, .int x3), (4, .int x16), (5, .int x17)] → W p l e (k_rm 9 209) s m [.ref ob, .int p1, .int p2].toArray below meth c H locs 0 0 (MQ below (qMI r (dC, dI) (wX5 cyI cyC ob a1 a2 a3 a4 a5 a6 a7 a8 v_thrown v_z v_saved v_savedMany v_spare v_buffer v_typed v_marksBlown v_rests v_begins v_orders v_orderMany v_spot v_wrong v_isShort v_before v_hash) (wX5 cyI cyC ob a1 a2 a3 a4 a5 a6 a7 a8 v_thrown r_z v_saved v_savedMany r_spare v_buffer v_typed v_marksBlown v_rests v_begins v_orders v_orderMany v_spot v_wrong v_isShort r_before v_hash)) [.ref ob, .int p1, .int p2].toArray s 0 0 (k_A (wX5 cyI cyC ob a1 a2 a3 a4 a5 a6 a7 a8 v_thrown v_z v_saved v_savedMany v_spare v_buffer v_typed v_marksBlown v_rests v_begins v_orders v_orderMany v_spot v_wrong v_isShort v_before v_hash))) (F0 m 20 ls []) := by
    intro n
    induction n with
    | zero =>
      intro x16 x17 H locs ls h
      exact (k_l2_0 h).elim
    | succ n ih20 =>
      intro x16 x17 H locs ls h hP hS hl
      have h := k_l2_s h
      have h := k_a3 hS20 h
      unfold fX5_wouldHeat_s20 at h
      refine lv_iload hx hb dX5_wouldHeat_20 (lv_at hl 4 rfl) ?_
      refine lv_bipush (v := 20) hx hb dX5_wouldHeat_22 (by decide) ?_
      refine g_icmp_ge (tgt := 62) hx hb dX5_wouldHeat_24 (by decide) h (fun h => ?_) (fun h => ?_)
      · exact J62 x16 _ _ _ h hP hS (lv_sub hl [0, 1, 2, 3] rfl)
      · refine lv_iload hx hb dX5_wouldHeat_27 (lv_at hl 3 rfl) ?_
        refine lv_aload_n hx hb dX5_wouldHeat_29 rfl (lv_at hl 0 rfl) ?_
        refine va_get (D := (dC, dI)) (ci := 4) (v := .ref a8) (C := RX5) (T := TX5) (N := 17) hx hb hts iaX5 hown hK hP 0 rfl rfl 15 (by decide) (hts _ q731) (fun _ h9 => h9) rfl dX5_wouldHeat_30 ?_
        refine lv_iload hx hb dX5_wouldHeat_33 (lv_at hl 4 rfl) ?_
        refine g_iald hx hb hK hP 8 0 rfl rfl dX5_wouldHeat_35 h (fun x18 h => ?_)
        refine lv_aload_n hx hb dX5_wouldHeat_36 rfl (lv_at hl 0 rfl) ?_
        refine lv_iload hx hb dX5_wouldHeat_37 (lv_at hl 4 rfl) ?_
        obtain ⟨x19, hc39, h⟩ := k_b1_e h
        refine g_callRI_V (As := [.int x17]) (rest := [.int x18, .int x16]) hC (mX5_maskNow l dC dI cyI cyC cyO ob a1 a2 a3 a4 a5 a6 a7 a8 v_thrown c4 v_saved v_savedMany c2 v_buffer v_typed v_marksBlown v_rests v_begins v_orders v_orderMany v_spot v_wrong v_isShort c1 v_hash x17 hc39) q782 q783 q22 q75 q784 1 hdX5_maskNow ⟨Nat.le_of_ble_eq_true rfl, Nat.le_of_ble_eq_true rfl⟩ ⟨Nat.le_of_ble_eq_true rfl, Nat.le_of_ble_eq_true rfl⟩ rfl rfl hl.1 (Nat.le_of_ble_eq_true rfl) hP hK (va_recv hK hP (ci := 4) (q0 := 0) rfl rfl) hS dX5_wouldHeat_39 (fun H locs hk hS => ?_)
        have hP := k_kept hP hk
        obtain ⟨x20, hc42, h⟩ := k_b1_e h
        refine g_callRI_S (As := [.int x19]) (rest := [.int x18, .int x16]) hC (mX5_kindOf l dC dI cyI cyC cyO x19 hc42) q806 q807 q75 q808 1 hdX5_kindOf ⟨Nat.le_of_ble_eq_true rfl, Nat.le_of_ble_eq_true rfl⟩ ⟨Nat.le_of_ble_eq_true rfl, Nat.le_of_ble_eq_true rfl⟩ rfl rfl hl.1 (Nat.le_of_ble_eq_true rfl) va_P_nil hK hS dX5_wouldHeat_42 (fun H locs hk hS => ?_)
        have hP := k_kept hP hk
        obtain ⟨K53, hK53, h⟩ := k_j1_e h
        have J53 : ∀ (x21 : Int32) (H : Heap) (locs : List Loc) (ls : Array Slot), K53 x21 = some (r, r_z, r_spare, r_before) → va_P (dC, dI) vwCl (wX5 cyI cyC ob a1 a2 a3 a4 a5 a6 a7 a8 v_thrown c4 v_saved v_savedMany c2 v_buffer v_typed v_marksBlown v_rests v_begins v_orders v_orderMany v_spot v_wrong v_isShort c1 v_hash) H → va_S (k_A (wX5 cyI cyC ob a1 a2 a3 a4 a5 a6 a7 a8 v_thrown v_z v_saved v_savedMany v_spare v_buffer v_typed v_marksBlown v_rests v_begins v_orders v_orderMany v_spot v_wrong v_isShort v_before v_hash)) s.heap H locs → lv_has ls 7 [(0, .ref ob), (2, .int p2), (3, .int x3), (5, .int x17)] → W p l e (k_rm 9 209) s m [.ref ob, .int p1, .int p2].toArray below meth c H locs 0 0 (MQ below (qMI r (dC, dI) (wX5 cyI cyC ob a1 a2 a3 a4 a5 a6 a7 a8 v_thrown v_z v_saved v_savedMany v_spare v_buffer v_typed v_marksBlown v_rests v_begins v_orders v_orderMany v_spot v_wrong v_isShort v_before v_hash) (wX5 cyI cyC ob a1 a2 a3 a4 a5 a6 a7 a8 v_thrown r_z v_saved v_savedMany r_spare v_buffer v_typed v_marksBlown v_rests v_begins v_orders v_orderMany v_spot v_wrong v_isShort r_before v_hash)) [.ref ob, .int p1, .int p2].toArray s 0 0 (k_A (wX5 cyI cyC ob a1 a2 a3 a4 a5 a6 a7 a8 v_thrown v_z v_saved v_savedMany v_spare v_buffer v_typed v_marksBlown v_rests v_begins v_orders v_orderMany v_spot v_wrong v_isShort v_before v_hash))) (F0 m 53 ls [.int x21, .int x16]) := by
          intro x21 H locs ls h hP hS hl
          have h := k_a1 hK53 h
          refine g_iadd hx hb dX5_wouldHeat_53 h (fun x22 h => ?_)
          refine lv_istore (lv' := [(4, .int x22), (0, .ref ob), (2, .int p2), (3, .int x3), (5, .int x17)]) hx hb dX5_wouldHeat_54 hl (by decide) rfl (fun ls hl => ?_)
          refine g_iinc (dv := 1) hx hb dX5_wouldHeat_56 hl (j := 4) rfl (by decide) (by decide) h (fun x23 ls h hl => ?_)
          have hl : lv_has ls 7 [(5, .int x23), (4, .int x22), (0, .ref ob), (2, .int p2), (3, .int x3)] := hl
          refine lv_goto (tgt := 20) hx hb dX5_wouldHeat_59 (by decide) ?_
          exact ih20 x22 x23 _ _ _ h hP hS (lv_sub hl [2, 3, 4, 1, 0] rfl)
        refine g_icmp_ne (tgt := 52) hx hb dX5_wouldHeat_45 (by decide) h (fun h => ?_) (fun h => ?_)
        · refine lv_iconst (v := 1) hx hb dX5_wouldHeat_52 (by decide) ?_
          exact J53 1 _ _ _ h hP hS (lv_sub hl [0, 1, 2, 4] rfl)
        · refine lv_iconst (v := 0) hx hb dX5_wouldHeat_48 (by decide) ?_
          refine lv_goto (tgt := 53) hx hb dX5_wouldHeat_49 (by decide) ?_
          exact J53 0 _ _ _ h hP hS (lv_sub hl [0, 1, 2, 4] rfl)
  exact L20 5000 0 0 _ _ _ h hP hS (lv_sub hl [3, 5, 2, 1, 0] rfl)
def fX5_ifHeated (v_thrown : Int32) (v_z : Nat → Int32) (v_spare : Nat → Int32) (v_before : Nat → Int32) (p1 : Int32) (p2 : Int32) : Option (Int32 × Int32 × (Nat → Int32) × (Nat → Int32) × (Nat → Int32)) :=
  k_b1 (fX5_in p1 1 9) fun (x1 : Int32) =>
  k_j1
  (fun (x2 : Int32) =>
    k_if (x2 ≤ 0)
    (
      k_b4 (fX5_wouldHeat v_z v_spare v_before p1 p2) fun (x3 : Int32) (c4 : Nat → Int32) (c5 : Nat → Int32) (c6 : Nat → Int32) =>
      some (x3, x2, c4, c5, c6))
    (
      some (0, x2, v_z, v_spare, v_before)))
  (fun K25 =>
  k_if (x1 = 0)
  (
    K25 1)
  (
    k_b1 (fX5_in p2 0 2) fun (x7 : Int32) =>
    k_if (x7 = 0)
    (
      K25 1)
    (
      K25 0)))
theorem hdX5_ifHeated : yX5_ifHeated.cls = RX5 ∧ yX5_ifHeated.cls ≠ "java/lang/invoke/MethodHandle" ∧ yX5_ifHeated.cls ≠ "java/lang/invoke/VarHandle" ∧ (parseMethodDescriptor yX5_ifHeated.desc).map (fun d => d.parameters.length) = some 2 := by decide +kernel
set_option maxRecDepth 100000 in
set_option maxHeartbeats 4000000 in
theorem mX5_ifHeated (l : Launch) (dC : Nat → ClassId) (dI : Nat → Nat → Nat) (cyI cyC cyO : ClassId) (ob a1 a2 a3 a4 a5 a6 a7 a8 : Nat) (v_thrown : Int32) (v_z : Nat → Int32) (v_saved : Nat → Int32) (v_savedMany : Int32) (v_spare : Nat → Int32) (v_buffer : Nat → Int32) (v_typed : Int32) (v_marksBlown : Int32) (v_rests : Nat → Int32) (v_begins : Nat → Int32) (v_orders : Nat → Int32) (v_orderMany : Int32) (v_spot : Int32) (v_wrong : Int32) (v_isShort : Int32) (v_before : Nat → Int32) (v_hash : Int64) (p1 : Int32) (p2 : Int32) {r : Int32} {r_thrown : Int32} {r_z : Nat → Int32} {r_spare : Nat → Int32} {r_before : Nat → Int32} (hf : fX5_ifHeated v_thrown v_z v_spare v_before p1 p2 = some (r, r_thrown, r_z, r_spare, r_before)) : MetMI l yX5_ifHeated cX5_ifHeated 3 (some .int) 10 235 [.ref ob, .int p1, .int p2] (dC, dI) (tyS cyI cyC cyO) (wX5 cyI cyC ob a1 a2 a3 a4 a5 a6 a7 a8 v_thrown v_z v_saved v_savedMany v_spare v_buffer v_typed v_marksBlown v_rests v_begins v_orders v_orderMany v_spot v_wrong v_isShort v_before v_hash) (wX5 cyI cyC ob a1 a2 a3 a4 a5 a6 a7 a8 r_thrown r_z v_saved v_savedMany r_spare v_buffer v_typed v_marksBlown v_rests v_begins v_orders v_orderMany v_spot v_wrong v_isShort r_before v_hash) r := by
  refine metMI_of (by decide) (Nat.le_of_ble_eq_true rfl) ?_
  intro p e s m below meth c ls hC hr hlk hP hK hD hl
  have hC : CallFix p m c cX5_ifHeated 3 s [.ref ob, .int p1, .int p2].toArray wA RX5 := hC
  obtain ⟨hx, hb, hml, hown, hts⟩ := id hC
  have hS : va_S (k_A (wX5 cyI cyC ob a1 a2 a3 a4 a5 a6 a7 a8 v_thrown v_z v_saved v_savedMany v_spare v_buffer v_typed v_marksBlown v_rests v_begins v_orders v_orderMany v_spot v_wrong v_isShort v_before v_hash)) s.heap s.heap [] := va_S.rf
  have hl : lv_has ls 3 [(0, .ref ob), (1, .int p1), (2, .int p2)] := hl
  have h := hf
  unfold fX5_ifHeated at h
  obtain ⟨H, hH⟩ : ∃ H, H = s.heap := ⟨_, rfl⟩
  obtain ⟨locs, hlo⟩ : ∃ locs : List Loc, locs = [] := ⟨_, rfl⟩
  rw [← hH] at hP
  rw [← hlo] at hS
  have hS : va_S (k_A (wX5 cyI cyC ob a1 a2 a3 a4 a5 a6 a7 a8 v_thrown v_z v_saved v_savedMany v_spare v_buffer v_typed v_marksBlown v_rests v_begins v_orders v_orderMany v_spot v_wrong v_isShort v_before v_hash)) s.heap H locs := by rw [hH]; exact hS
  show W p l e (k_rm 10 235) s m [.ref ob, .int p1, .int p2].toArray below meth c s.heap [] 0 0 _ _
  rw [← hlo, ← hH]
  refine lv_aload_n hx hb dX5_ifHeated_0 rfl (lv_at hl 0 rfl) ?_
  refine lv_iload_n hx hb dX5_ifHeated_1 rfl (lv_at hl 1 rfl) ?_
  refine lv_iconst (v := 1) hx hb dX5_ifHeated_2 (by decide) ?_
  refine lv_bipush (v := 9) hx hb dX5_ifHeated_3 (by decide) ?_
  obtain ⟨x1, hc5, h⟩ := k_b1_e h
  refine g_callRI_S (As := [.int p1, .int 1, .int 9]) (rest := [.ref ob]) hC (mX5_in l dC dI cyI cyC cyO p1 1 9 hc5) q748 q749 q75 q750 3 hdX5_in ⟨Nat.le_of_ble_eq_true rfl, Nat.le_of_ble_eq_true rfl⟩ ⟨Nat.le_of_ble_eq_true rfl, Nat.le_of_ble_eq_true rfl⟩ rfl rfl hl.1 (Nat.le_of_ble_eq_true rfl) va_P_nil hK hS dX5_ifHeated_5 (fun H locs hk hS => ?_)
  have hP := k_kept hP hk
  obtain ⟨K25, hK25, h⟩ := k_j1_e h
  have J25 : ∀ (x2 : Int32) (H : Heap) (locs : List Loc) (ls : Array Slot), K25 x2 = some (r, r_thrown, r_z, r_spare, r_before) → va_P (dC, dI) vwCl (wX5 cyI cyC ob a1 a2 a3 a4 a5 a6 a7 a8 v_thrown v_z v_saved v_savedMany v_spare v_buffer v_typed v_marksBlown v_rests v_begins v_orders v_orderMany v_spot v_wrong v_isShort v_before v_hash) H → va_S (k_A (wX5 cyI cyC ob a1 a2 a3 a4 a5 a6 a7 a8 v_thrown v_z v_saved v_savedMany v_spare v_buffer v_typed v_marksBlown v_rests v_begins v_orders v_orderMany v_spot v_wrong v_isShort v_before v_hash)) s.heap H locs → lv_has ls 3 [(0, .ref ob), (1, .int p1), (2, .int p2)] → W p l e (k_rm 10 235) s m [.ref ob, .int p1, .int p2].toArray below meth c H locs 0 0 (MQ below (qMI r (dC, dI) (wX5 cyI cyC ob a1 a2 a3 a4 a5 a6 a7 a8 v_thrown v_z v_saved v_savedMany v_spare v_buffer v_typed v_marksBlown v_rests v_begins v_orders v_orderMany v_spot v_wrong v_isShort v_before v_hash) (wX5 cyI cyC ob a1 a2 a3 a4 a5 a6 a7 a8 r_thrown r_z v_saved v_savedMany r_spare v_buffer v_typed v_marksBlown v_rests v_begins v_orders v_orderMany v_spot v_wrong v_isShort r_before v_hash)) [.ref ob, .int p1, .int p2].toArray s 0 0 (k_A (wX5 cyI cyC ob a1 a2 a3 a4 a5 a6 a7 a8 v_thrown v_z v_saved v_savedMany v_spare v_buffer v_typed v_marksBlown v_rests v_begins v_orders v_orderMany v_spot v_wrong v_isShort v_before v_hash))) (F0 m 25 ls [.int x2, .ref ob]) := by
    intro x2 H locs ls h hP hS hl
    have h := k_a1 hK25 h
    refine va_put (D := (dC, dI)) (ci := 4) (v := .int x2) (ty := .int) (C := RX5) (T := TX5) (N := 17) hx hb hts iaX5 tyX5 tyX5_ok nmX5 hown hK hP hD hS 0 rfl rfl 0 (by decide) (hts _ q716) (fun _ h9 => h9) rfl (by decide +kernel) rfl rfl (Nat.le_of_ble_eq_true rfl) dX5_ifHeated_25 (fun H locs hP _ hS => ?_)
    have hP : va_P (dC, dI) vwCl (wX5 cyI cyC ob a1 a2 a3 a4 a5 a6 a7 a8 x2 v_z v_saved v_savedMany v_spare v_buffer v_typed v_marksBlown v_rests v_begins v_orders v_orderMany v_spot v_wrong v_isShort v_before v_hash) H := hP
    have hD : va_D (k_A (wX5 cyI cyC ob a1 a2 a3 a4 a5 a6 a7 a8 v_thrown v_z v_saved v_savedMany v_spare v_buffer v_typed v_marksBlown v_rests v_begins v_orders v_orderMany v_spot v_wrong v_isShort v_before v_hash)) (wX5 cyI cyC ob a1 a2 a3 a4 a5 a6 a7 a8 x2 v_z v_saved v_savedMany v_spare v_buffer v_typed v_marksBlown v_rests v_begins v_orders v_orderMany v_spot v_wrong v_isShort v_before v_hash) := k_Dm hD rfl
    refine lv_aload_n hx hb dX5_ifHeated_28 rfl (lv_at hl 0 rfl) ?_
    refine va_get (D := (dC, dI)) (ci := 4) (v := .int x2) (C := RX5) (T := TX5) (N := 17) hx hb hts iaX5 hown hK hP 0 rfl rfl 0 (by decide) (hts _ q716) (fun _ h9 => h9) rfl dX5_ifHeated_29 ?_
    refine g_if_le (tgt := 39) hx hb dX5_ifHeated_32 (by decide) h (fun h => ?_) (fun h => ?_)
    · refine lv_aload_n hx hb dX5_ifHeated_39 rfl (lv_at hl 0 rfl) ?_
      refine lv_iload_n hx hb dX5_ifHeated_40 rfl (lv_at hl 1 rfl) ?_
      refine lv_iload_n hx hb dX5_ifHeated_41 rfl (lv_at hl 2 rfl) ?_
      obtain ⟨x3, c4, c5, c6, hc42, h⟩ := k_b4_e h
      refine g_callMI_V (As := [.int p1, .int p2]) (rest := []) hC (mX5_wouldHeat l dC dI cyI cyC cyO ob a1 a2 a3 a4 a5 a6 a7 a8 x2 v_z v_saved v_savedMany v_spare v_buffer v_typed v_marksBlown v_rests v_begins v_orders v_orderMany v_spot v_wrong v_isShort v_before v_hash p1 p2 hc42) q995 q996 q62 q75 q997 2 hdX5_wouldHeat ⟨Nat.le_of_ble_eq_true rfl, Nat.le_of_ble_eq_true rfl⟩ ⟨Nat.le_of_ble_eq_true rfl, Nat.le_of_ble_eq_true rfl⟩ rfl rfl hl.1 (Nat.le_of_ble_eq_true rfl) hP hK hD (va_recv hK hP (ci := 4) (q0 := 0) rfl rfl) hS dX5_ifHeated_42 (fun H locs hPn hk hS => ?_)
      have hP : va_P (dC, dI) vwCl (wX5 cyI cyC ob a1 a2 a3 a4 a5 a6 a7 a8 x2 c4 v_saved v_savedMany c5 v_buffer v_typed v_marksBlown v_rests v_begins v_orders v_orderMany v_spot v_wrong v_isShort c6 v_hash) H := hPn
      have hD : va_D (k_A (wX5 cyI cyC ob a1 a2 a3 a4 a5 a6 a7 a8 v_thrown v_z v_saved v_savedMany v_spare v_buffer v_typed v_marksBlown v_rests v_begins v_orders v_orderMany v_spot v_wrong v_isShort v_before v_hash)) (wX5 cyI cyC ob a1 a2 a3 a4 a5 a6 a7 a8 x2 c4 v_saved v_savedMany c5 v_buffer v_typed v_marksBlown v_rests v_begins v_orders v_orderMany v_spot v_wrong v_isShort c6 v_hash) := k_Dm hD rfl
      obtain ⟨e0, e1, e2, e3, e4⟩ := k_t5 h
      exact g_retMI hx hb hr hlk hS e0 (by rw [← e1, ← e2, ← e3, ← e4]; exact hP) dX5_ifHeated_45
    · refine lv_iconst (v := 0) hx hb dX5_ifHeated_35 (by decide) ?_
      refine lv_goto (tgt := 45) hx hb dX5_ifHeated_36 (by decide) ?_
      obtain ⟨e0, e1, e2, e3, e4⟩ := k_t5 h
      exact g_retMI hx hb hr hlk hS e0 (by rw [← e1, ← e2, ← e3, ← e4]; exact hP) dX5_ifHeated_45
  refine g_if_eq (tgt := 24) hx hb dX5_ifHeated_8 (by decide) h (fun h => ?_) (fun h => ?_)
  · refine lv_iconst (v := 1) hx hb dX5_ifHeated_24 (by decide) ?_
    exact J25 1 _ _ _ h hP hS (lv_sub hl [0, 1, 2] rfl)
  · refine lv_iload_n hx hb dX5_ifHeated_11 rfl (lv_at hl 2 rfl) ?_
    refine lv_iconst (v := 0) hx hb dX5_ifHeated_12 (by decide) ?_
    refine lv_iconst (v := 2) hx hb dX5_ifHeated_13 (by decide) ?_
    obtain ⟨x7, hc14, h⟩ := k_b1_e h
    refine g_callRI_S (As := [.int p2, .int 0, .int 2]) (rest := [.ref ob]) hC (mX5_in l dC dI cyI cyC cyO p2 0 2 hc14) q748 q749 q75 q750 3 hdX5_in ⟨Nat.le_of_ble_eq_true rfl, Nat.le_of_ble_eq_true rfl⟩ ⟨Nat.le_of_ble_eq_true rfl, Nat.le_of_ble_eq_true rfl⟩ rfl rfl hl.1 (Nat.le_of_ble_eq_true rfl) va_P_nil hK hS dX5_ifHeated_14 (fun H locs hk hS => ?_)
    have hP := k_kept hP hk
    refine g_if_eq (tgt := 24) hx hb dX5_ifHeated_17 (by decide) h (fun h => ?_) (fun h => ?_)
    · refine lv_iconst (v := 1) hx hb dX5_ifHeated_24 (by decide) ?_
      exact J25 1 _ _ _ h hP hS (lv_sub hl [0, 1, 2] rfl)
    · refine lv_iconst (v := 0) hx hb dX5_ifHeated_20 (by decide) ?_
      refine lv_goto (tgt := 25) hx hb dX5_ifHeated_21 (by decide) ?_
      exact J25 0 _ _ _ h hP hS (lv_sub hl [0, 1, 2] rfl)
def fX5_wouldRead_s5 (v_z : Nat → Int32) (p1 : Int32) (p2 : Int32) (rec5 : Int32 → Int32 → Option (Int32)) (x1 : Int32) (x2 : Int32) : Option (Int32) :=
  k_if (16 ≤ x2)
  (
    some x1)
  (
    k_b1 (fX5_valueNow v_z x2) fun (x3 : Int32) =>
    k_ck (0 : Int32) 327 <| k_let (v_z (0 : Int32).toNatClampNeg) fun (x4 : Int32) =>
    k_let (x4 + p1) fun (x5 : Int32) =>
    k_b1 (fX5_valueOf v_z x2 x5 p2) fun (x6 : Int32) =>
    k_j1
    (fun (x7 : Int32) =>
      k_let (x1 + x7) fun (x8 : Int32) =>
      k_let (x2 + 1) fun (x9 : Int32) =>
      rec5 x8 x9)
    (fun K42 =>
    k_if (x3 = x6)
    (
      K42 0)
    (
      K42 1)))
def fX5_wouldRead (v_z : Nat → Int32) (p1 : Int32) (p2 : Int32) : Option (Int32) :=
  k_l2 (fX5_wouldRead_s5 v_z p1 p2) 5000 0 0
theorem hdX5_wouldRead : yX5_wouldRead.cls = RX5 ∧ yX5_wouldRead.cls ≠ "java/lang/invoke/MethodHandle" ∧ yX5_wouldRead.cls ≠ "java/lang/invoke/VarHandle" ∧ (parseMethodDescriptor yX5_wouldRead.desc).map (fun d => d.parameters.length) = some 2 := by decide +kernel
set_option maxRecDepth 100000 in
set_option maxHeartbeats 4000000 in
theorem mX5_wouldRead (l : Launch) (dC : Nat → ClassId) (dI : Nat → Nat → Nat) (cyI cyC cyO : ClassId) (ob a1 a2 a3 a4 a5 a6 a7 a8 : Nat) (v_thrown : Int32) (v_z : Nat → Int32) (v_saved : Nat → Int32) (v_savedMany : Int32) (v_spare : Nat → Int32) (v_buffer : Nat → Int32) (v_typed : Int32) (v_marksBlown : Int32) (v_rests : Nat → Int32) (v_begins : Nat → Int32) (v_orders : Nat → Int32) (v_orderMany : Int32) (v_spot : Int32) (v_wrong : Int32) (v_isShort : Int32) (v_before : Nat → Int32) (v_hash : Int64) (p1 : Int32) (p2 : Int32) {r : Int32} (hf : fX5_wouldRead v_z p1 p2 = some r) : MetRI l yX5_wouldRead cX5_wouldRead 5 (some .int) 8 188 [.ref ob, .int p1, .int p2] (dC, dI) (tyS cyI cyC cyO) (wX5 cyI cyC ob a1 a2 a3 a4 a5 a6 a7 a8 v_thrown v_z v_saved v_savedMany v_spare v_buffer v_typed v_marksBlown v_rests v_begins v_orders v_orderMany v_spot v_wrong v_isShort v_before v_hash) r := by
  refine metRI_of (by decide) (Nat.le_of_ble_eq_true rfl) ?_
  intro p e s m below meth c ls hC hr hlk hP hK hl
  have hC : CallFix p m c cX5_wouldRead 5 s [.ref ob, .int p1, .int p2].toArray wA RX5 := hC
  obtain ⟨hx, hb, hml, hown, hts⟩ := id hC
  have hS : va_S kF s.heap s.heap [] := va_S.rf
  have hl : lv_has ls 5 [(0, .ref ob), (1, .int p1), (2, .int p2)] := hl
  have h := hf
  unfold fX5_wouldRead at h
  obtain ⟨H, hH⟩ : ∃ H, H = s.heap := ⟨_, rfl⟩
  obtain ⟨locs, hlo⟩ : ∃ locs : List Loc, locs = [] := ⟨_, rfl⟩
  rw [← hH] at hP
  rw [← hlo] at hS
  have hS : va_S kF s.heap H locs := by rw [hH]; exact hS
  show W p l e (k_rm 8 188) s m [.ref ob, .int p1, .int p2].toArray below meth c s.heap [] 0 0 _ _
  rw [← hlo, ← hH]
  refine lv_iconst (v := 0) hx hb dX5_wouldRead_0 (by decide) ?_
  refine lv_istore_n (lv' := [(3, .int 0), (0, .ref ob), (1, .int p1), (2, .int p2)]) hx hb dX5_wouldRead_1 rfl hl (by decide) rfl (fun ls hl => ?_)
  refine lv_iconst (v := 0) hx hb dX5_wouldRead_2 (by decide) ?_
  refine lv_istore (lv' := [(4, .int 0), (3, .int 0), (0, .ref ob), (1, .int p1), (2, .int p2)]) hx hb dX5_wouldRead_3 hl (by decide) rfl (fun ls hl => ?_)
  obtain ⟨S5, hS5⟩ : ∃ z, z = (fX5_wouldRead_s5 v_z p1 p2) := ⟨_, rfl⟩
  rw [← hS5] at h
  have L5 : ∀ (n : Nat) (x1 : Int32) (x2 : Int32) (H : Heap) (locs : List Loc) (ls : Array Slot), k_l2 S5 n x1 x2 = some r → va_P (dC, dI) vwCl (wX5 cyI cyC ob a1 a2 a3 a4 a5 a6 a7 a8 v_thrown v_z v_saved v_savedMany v_spare v_buffer v_typed v_marksBlown v_rests v_begins v_orders v_orderMany v_spot v_wrong v_isShort v_before v_hash) H → va_S kF s.heap H locs → lv_has ls 5 [(0, .ref ob), (1, .int p1), (2, .int p2), (3, .int x1), (4, .int x2)] → W p l e (k_rm 8 188) s m [.ref ob, .int p1, .int p2].toArray below meth c H locs 0 0 (MQ below (qRI r) [.ref ob, .int p1, .int p2].toArray s 0 0 kF) (F0 m 5 ls []) := by
    intro n
    induction n with
    | zero =>
      intro x1 x2 H locs ls h
      exact (k_l2_0 h).elim
    | succ n ih5 =>
      intro x1 x2 H locs ls h hP hS hl
      have h := k_l2_s h
      have h := k_a3 hS5 h
      unfold fX5_wouldRead_s5 at h
      refine lv_iload hx hb dX5_wouldRead_5 (lv_at hl 4 rfl) ?_
      refine lv_bipush (v := 16) hx hb dX5_wouldRead_7 (by decide) ?_
      refine g_icmp_ge (tgt := 50) hx hb dX5_wouldRead_9 (by decide) h (fun h => ?_) (fun h => ?_)
      · refine lv_iload_n hx hb dX5_wouldRead_50 rfl (lv_at hl 3 rfl) ?_
        exact g_retRI hx hb hr hlk hS h dX5_wouldRead_51
      · refine lv_iload_n hx hb dX5_wouldRead_12 rfl (lv_at hl 3 rfl) ?_
        refine lv_aload_n hx hb dX5_wouldRead_13 rfl (lv_at hl 0 rfl) ?_
        refine lv_iload hx hb dX5_wouldRead_14 (lv_at hl 4 rfl) ?_
        obtain ⟨x3, hc16, h⟩ := k_b1_e h
        refine g_callRI_V (As := [.int x2]) (rest := [.int x1]) hC (mX5_valueNow l dC dI cyI cyC cyO ob a1 a2 a3 a4 a5 a6 a7 a8 v_thrown v_z v_saved v_savedMany v_spare v_buffer v_typed v_marksBlown v_rests v_begins v_orders v_orderMany v_spot v_wrong v_isShort v_before v_hash x2 hc16) q927 q928 q46 q75 q929 1 hdX5_valueNow ⟨Nat.le_of_ble_eq_true rfl, Nat.le_of_ble_eq_true rfl⟩ ⟨Nat.le_of_ble_eq_true rfl, Nat.le_of_ble_eq_true rfl⟩ rfl rfl hl.1 (Nat.le_of_ble_eq_true rfl) hP hK (va_recv hK hP (ci := 4) (q0 := 0) rfl rfl) hS dX5_wouldRead_16 (fun H locs hk hS => ?_)
        have hP := k_kept hP hk
        refine lv_aload_n hx hb dX5_wouldRead_19 rfl (lv_at hl 0 rfl) ?_
        refine lv_iload hx hb dX5_wouldRead_20 (lv_at hl 4 rfl) ?_
        refine lv_aload_n hx hb dX5_wouldRead_22 rfl (lv_at hl 0 rfl) ?_
        refine va_get (D := (dC, dI)) (ci := 4) (v := .ref a1) (C := RX5) (T := TX5) (N := 17) hx hb hts iaX5 hown hK hP 0 rfl rfl 1 (by decide) (hts _ q717) (fun _ h9 => h9) rfl dX5_wouldRead_23 ?_
        refine lv_iconst (v := 0) hx hb dX5_wouldRead_26 (by decide) ?_
        refine g_iald hx hb hK hP 1 0 rfl rfl dX5_wouldRead_27 h (fun x4 h => ?_)
        refine lv_iload_n hx hb dX5_wouldRead_28 rfl (lv_at hl 1 rfl) ?_
        refine g_iadd hx hb dX5_wouldRead_29 h (fun x5 h => ?_)
        refine lv_iload_n hx hb dX5_wouldRead_30 rfl (lv_at hl 2 rfl) ?_
        obtain ⟨x6, hc31, h⟩ := k_b1_e h
        refine g_callRI_V (As := [.int x2, .int x5, .int p2]) (rest := [.int x3, .int x1]) hC (mX5_valueOf l dC dI cyI cyC cyO ob a1 a2 a3 a4 a5 a6 a7 a8 v_thrown v_z v_saved v_savedMany v_spare v_buffer v_typed v_marksBlown v_rests v_begins v_orders v_orderMany v_spot v_wrong v_isShort v_before v_hash x2 x5 p2 hc31) q930 q931 q47 q75 q932 3 hdX5_valueOf ⟨Nat.le_of_ble_eq_true rfl, Nat.le_of_ble_eq_true rfl⟩ ⟨Nat.le_of_ble_eq_true rfl, Nat.le_of_ble_eq_true rfl⟩ rfl rfl hl.1 (Nat.le_of_ble_eq_true rfl) hP hK (va_recv hK hP (ci := 4) (q0 := 0) rfl rfl) hS dX5_wouldRead_31 (fun H locs hk hS => ?_)
        have hP := k_kept hP hk
        obtain ⟨K42, hK42, h⟩ := k_j1_e h
        have J42 : ∀ (x7 : Int32) (H : Heap) (locs : List Loc) (ls : Array Slot), K42 x7 = some r → va_P (dC, dI) vwCl (wX5 cyI cyC ob a1 a2 a3 a4 a5 a6 a7 a8 v_thrown v_z v_saved v_savedMany v_spare v_buffer v_typed v_marksBlown v_rests v_begins v_orders v_orderMany v_spot v_wrong v_isShort v_before v_hash) H → va_S kF s.heap H locs → lv_has ls 5 [(0, .ref ob), (1, .int p1), (2, .int p2), (4, .int x2)] → W p l e (k_rm 8 188) s m [.ref ob, .int p1, .int p2].toArray below meth c H locs 0 0 (MQ below (qRI r) [.ref ob, .int p1, .int p2].toArray s 0 0 kF) (F0 m 42 ls [.int x7, .int x1]) := by
          intro x7 H locs ls h hP hS hl
          have h := k_a1 hK42 h
          refine g_iadd hx hb dX5_wouldRead_42 h (fun x8 h => ?_)
          refine lv_istore_n (lv' := [(3, .int x8), (0, .ref ob), (1, .int p1), (2, .int p2), (4, .int x2)]) hx hb dX5_wouldRead_43 rfl hl (by decide) rfl (fun ls hl => ?_)
          refine g_iinc (dv := 1) hx hb dX5_wouldRead_44 hl (j := 4) rfl (by decide) (by decide) h (fun x9 ls h hl => ?_)
          have hl : lv_has ls 5 [(4, .int x9), (3, .int x8), (0, .ref ob), (1, .int p1), (2, .int p2)] := hl
          refine lv_goto (tgt := 5) hx hb dX5_wouldRead_47 (by decide) ?_
          exact ih5 x8 x9 _ _ _ h hP hS (lv_sub hl [2, 3, 4, 1, 0] rfl)
        refine g_icmp_ne (tgt := 41) hx hb dX5_wouldRead_34 (by decide) h (fun h => ?_) (fun h => ?_)
        · refine lv_iconst (v := 1) hx hb dX5_wouldRead_41 (by decide) ?_
          exact J42 1 _ _ _ h hP hS (lv_sub hl [0, 1, 2, 4] rfl)
        · refine lv_iconst (v := 0) hx hb dX5_wouldRead_37 (by decide) ?_
          refine lv_goto (tgt := 42) hx hb dX5_wouldRead_38 (by decide) ?_
          exact J42 0 _ _ _ h hP hS (lv_sub hl [0, 1, 2, 4] rfl)
  exact L5 5000 0 0 _ _ _ h hP hS (lv_sub hl [2, 3, 4, 1, 0] rfl)
def fX5_ifRead (v_thrown : Int32) (v_z : Nat → Int32) (p1 : Int32) (p2 : Int32) : Option (Int32 × Int32) :=
  k_b1 (fX5_in p1 0 99) fun (x1 : Int32) =>
  k_j1
  (fun (x2 : Int32) =>
    k_if (x2 ≤ 0)
    (
      k_b1 (fX5_wouldRead v_z p1 p2) fun (x3 : Int32) =>
      some (x3, x2))
    (
      some (0, x2)))
  (fun K16 =>
  k_if (x1 = 0)
  (
    K16 1)
  (
    K16 0))
theorem hdX5_ifRead : yX5_ifRead.cls = RX5 ∧ yX5_ifRead.cls ≠ "java/lang/invoke/MethodHandle" ∧ yX5_ifRead.cls ≠ "java/lang/invoke/VarHandle" ∧ (parseMethodDescriptor yX5_ifRead.desc).map (fun d => d.parameters.length) = some 2 := by decide +kernel
set_option maxRecDepth 100000 in
set_option maxHeartbeats 4000000 in
theorem mX5_ifRead (l : Launch) (dC : Nat → ClassId) (dI : Nat → Nat → Nat) (cyI cyC cyO : ClassId) (ob a1 a2 a3 a4 a5 a6 a7 a8 : Nat) (v_thrown : Int32) (v_z : Nat → Int32) (v_saved : Nat → Int32) (v_savedMany : Int32) (v_spare : Nat → Int32) (v_buffer : Nat → Int32) (v_typed : Int32) (v_marksBlown : Int32) (v_rests : Nat → Int32) (v_begins : Nat → Int32) (v_orders : Nat → Int32) (v_orderMany : Int32) (v_spot : Int32) (v_wrong : Int32) (v_isShort : Int32) (v_before : Nat → Int32) (v_hash : Int64) (p1 : Int32) (p2 : Int32) {r : Int32} {r_thrown : Int32} (hf : fX5_ifRead v_thrown v_z p1 p2 = some (r, r_thrown)) : MetMI l yX5_ifRead cX5_ifRead 3 (some .int) 9 212 [.ref ob, .int p1, .int p2] (dC, dI) (tyS cyI cyC cyO) (wX5 cyI cyC ob a1 a2 a3 a4 a5 a6 a7 a8 v_thrown v_z v_saved v_savedMany v_spare v_buffer v_typed v_marksBlown v_rests v_begins v_orders v_orderMany v_spot v_wrong v_isShort v_before v_hash) (wX5 cyI cyC ob a1 a2 a3 a4 a5 a6 a7 a8 r_thrown v_z v_saved v_savedMany v_spare v_buffer v_typed v_marksBlown v_rests v_begins v_orders v_orderMany v_spot v_wrong v_isShort v_before v_hash) r := by
  refine metMI_of (by decide) (Nat.le_of_ble_eq_true rfl) ?_
  intro p e s m below meth c ls hC hr hlk hP hK hD hl
  have hC : CallFix p m c cX5_ifRead 3 s [.ref ob, .int p1, .int p2].toArray wA RX5 := hC
  obtain ⟨hx, hb, hml, hown, hts⟩ := id hC
  have hS : va_S (k_A (wX5 cyI cyC ob a1 a2 a3 a4 a5 a6 a7 a8 v_thrown v_z v_saved v_savedMany v_spare v_buffer v_typed v_marksBlown v_rests v_begins v_orders v_orderMany v_spot v_wrong v_isShort v_before v_hash)) s.heap s.heap [] := va_S.rf
  have hl : lv_has ls 3 [(0, .ref ob), (1, .int p1), (2, .int p2)] := hl
  have h := hf
  unfold fX5_ifRead at h
  obtain ⟨H, hH⟩ : ∃ H, H = s.heap := ⟨_, rfl⟩
  obtain ⟨locs, hlo⟩ : ∃ locs : List Loc, locs = [] := ⟨_, rfl⟩
  rw [← hH] at hP
  rw [← hlo] at hS
  have hS : va_S (k_A (wX5 cyI cyC ob a1 a2 a3 a4 a5 a6 a7 a8 v_thrown v_z v_saved v_savedMany v_spare v_buffer v_typed v_marksBlown v_rests v_begins v_orders v_orderMany v_spot v_wrong v_isShort v_before v_hash)) s.heap H locs := by rw [hH]; exact hS
  show W p l e (k_rm 9 212) s m [.ref ob, .int p1, .int p2].toArray below meth c s.heap [] 0 0 _ _
  rw [← hlo, ← hH]
  refine lv_aload_n hx hb dX5_ifRead_0 rfl (lv_at hl 0 rfl) ?_
  refine lv_iload_n hx hb dX5_ifRead_1 rfl (lv_at hl 1 rfl) ?_
  refine lv_iconst (v := 0) hx hb dX5_ifRead_2 (by decide) ?_
  refine lv_bipush (v := 99) hx hb dX5_ifRead_3 (by decide) ?_
  obtain ⟨x1, hc5, h⟩ := k_b1_e h
  refine g_callRI_S (As := [.int p1, .int 0, .int 99]) (rest := [.ref ob]) hC (mX5_in l dC dI cyI cyC cyO p1 0 99 hc5) q748 q749 q75 q750 3 hdX5_in ⟨Nat.le_of_ble_eq_true rfl, Nat.le_of_ble_eq_true rfl⟩ ⟨Nat.le_of_ble_eq_true rfl, Nat.le_of_ble_eq_true rfl⟩ rfl rfl hl.1 (Nat.le_of_ble_eq_true rfl) va_P_nil hK hS dX5_ifRead_5 (fun H locs hk hS => ?_)
  have hP := k_kept hP hk
  obtain ⟨K16, hK16, h⟩ := k_j1_e h
  have J16 : ∀ (x2 : Int32) (H : Heap) (locs : List Loc) (ls : Array Slot), K16 x2 = some (r, r_thrown) → va_P (dC, dI) vwCl (wX5 cyI cyC ob a1 a2 a3 a4 a5 a6 a7 a8 v_thrown v_z v_saved v_savedMany v_spare v_buffer v_typed v_marksBlown v_rests v_begins v_orders v_orderMany v_spot v_wrong v_isShort v_before v_hash) H → va_S (k_A (wX5 cyI cyC ob a1 a2 a3 a4 a5 a6 a7 a8 v_thrown v_z v_saved v_savedMany v_spare v_buffer v_typed v_marksBlown v_rests v_begins v_orders v_orderMany v_spot v_wrong v_isShort v_before v_hash)) s.heap H locs → lv_has ls 3 [(0, .ref ob), (1, .int p1), (2, .int p2)] → W p l e (k_rm 9 212) s m [.ref ob, .int p1, .int p2].toArray below meth c H locs 0 0 (MQ below (qMI r (dC, dI) (wX5 cyI cyC ob a1 a2 a3 a4 a5 a6 a7 a8 v_thrown v_z v_saved v_savedMany v_spare v_buffer v_typed v_marksBlown v_rests v_begins v_orders v_orderMany v_spot v_wrong v_isShort v_before v_hash) (wX5 cyI cyC ob a1 a2 a3 a4 a5 a6 a7 a8 r_thrown v_z v_saved v_savedMany v_spare v_buffer v_typed v_marksBlown v_rests v_begins v_orders v_orderMany v_spot v_wrong v_isShort v_before v_hash)) [.ref ob, .int p1, .int p2].toArray s 0 0 (k_A (wX5 cyI cyC ob a1 a2 a3 a4 a5 a6 a7 a8 v_thrown v_z v_saved v_savedMany v_spare v_buffer v_typed v_marksBlown v_rests v_begins v_orders v_orderMany v_spot v_wrong v_isShort v_before v_hash))) (F0 m 16 ls [.int x2, .ref ob]) := by
    intro x2 H locs ls h hP hS hl
    have h := k_a1 hK16 h
    refine va_put (D := (dC, dI)) (ci := 4) (v := .int x2) (ty := .int) (C := RX5) (T := TX5) (N := 17) hx hb hts iaX5 tyX5 tyX5_ok nmX5 hown hK hP hD hS 0 rfl rfl 0 (by decide) (hts _ q716) (fun _ h9 => h9) rfl (by decide +kernel) rfl rfl (Nat.le_of_ble_eq_true rfl) dX5_ifRead_16 (fun H locs hP _ hS => ?_)
    have hP : va_P (dC, dI) vwCl (wX5 cyI cyC ob a1 a2 a3 a4 a5 a6 a7 a8 x2 v_z v_saved v_savedMany v_spare v_buffer v_typed v_marksBlown v_rests v_begins v_orders v_orderMany v_spot v_wrong v_isShort v_before v_hash) H := hP
    have hD : va_D (k_A (wX5 cyI cyC ob a1 a2 a3 a4 a5 a6 a7 a8 v_thrown v_z v_saved v_savedMany v_spare v_buffer v_typed v_marksBlown v_rests v_begins v_orders v_orderMany v_spot v_wrong v_isShort v_before v_hash)) (wX5 cyI cyC ob a1 a2 a3 a4 a5 a6 a7 a8 x2 v_z v_saved v_savedMany v_spare v_buffer v_typed v_marksBlown v_rests v_begins v_orders v_orderMany v_spot v_wrong v_isShort v_before v_hash) := k_Dm hD rfl
    refine lv_aload_n hx hb dX5_ifRead_19 rfl (lv_at hl 0 rfl) ?_
    refine va_get (D := (dC, dI)) (ci := 4) (v := .int x2) (C := RX5) (T := TX5) (N := 17) hx hb hts iaX5 hown hK hP 0 rfl rfl 0 (by decide) (hts _ q716) (fun _ h9 => h9) rfl dX5_ifRead_20 ?_
    refine g_if_le (tgt := 30) hx hb dX5_ifRead_23 (by decide) h (fun h => ?_) (fun h => ?_)
    · refine lv_aload_n hx hb dX5_ifRead_30 rfl (lv_at hl 0 rfl) ?_
      refine lv_iload_n hx hb dX5_ifRead_31 rfl (lv_at hl 1 rfl) ?_
      refine lv_iload_n hx hb dX5_ifRead_32 rfl (lv_at hl 2 rfl) ?_
      obtain ⟨x3, hc33, h⟩ := k_b1_e h
      refine g_callRI_V (As := [.int p1, .int p2]) (rest := []) hC (mX5_wouldRead l dC dI cyI cyC cyO ob a1 a2 a3 a4 a5 a6 a7 a8 x2 v_z v_saved v_savedMany v_spare v_buffer v_typed v_marksBlown v_rests v_begins v_orders v_orderMany v_spot v_wrong v_isShort v_before v_hash p1 p2 hc33) q1005 q1006 q64 q75 q1007 2 hdX5_wouldRead ⟨Nat.le_of_ble_eq_true rfl, Nat.le_of_ble_eq_true rfl⟩ ⟨Nat.le_of_ble_eq_true rfl, Nat.le_of_ble_eq_true rfl⟩ rfl rfl hl.1 (Nat.le_of_ble_eq_true rfl) hP hK (va_recv hK hP (ci := 4) (q0 := 0) rfl rfl) hS dX5_ifRead_33 (fun H locs hk hS => ?_)
      have hP := k_kept hP hk
      obtain ⟨e0, e1⟩ := k_t2 h
      exact g_retMI hx hb hr hlk hS e0 (by rw [← e1]; exact hP) dX5_ifRead_36
    · refine lv_iconst (v := 0) hx hb dX5_ifRead_26 (by decide) ?_
      refine lv_goto (tgt := 36) hx hb dX5_ifRead_27 (by decide) ?_
      obtain ⟨e0, e1⟩ := k_t2 h
      exact g_retMI hx hb hr hlk hS e0 (by rw [← e1]; exact hP) dX5_ifRead_36
  refine g_if_eq (tgt := 15) hx hb dX5_ifRead_8 (by decide) h (fun h => ?_) (fun h => ?_)
  · refine lv_iconst (v := 1) hx hb dX5_ifRead_15 (by decide) ?_
    exact J16 1 _ _ _ h hP hS (lv_sub hl [0, 1, 2] rfl)
  · refine lv_iconst (v := 0) hx hb dX5_ifRead_11 (by decide) ?_
    refine lv_goto (tgt := 16) hx hb dX5_ifRead_12 (by decide) ?_
    exact J16 0 _ _ _ h hP hS (lv_sub hl [0, 1, 2] rfl)
def fX5_worstNow_s6 (v_z : Nat → Int32) (rec6 : Int32 → Int32 → Int32 → Option (Int32)) (x1 : Int32) (x2 : Int32) (x3 : Int32) : Option (Int32) :=
  k_if (20 ≤ x3)
  (
    some x1)
  (
    k_b1 (fX5_maskNow v_z x3) fun (x4 : Int32) =>
    k_b1 (fX5_kindOf x4) fun (x5 : Int32) =>
    k_j1
    (fun (x6 : Int32) =>
      k_j1
      (fun (x7 : Int32) =>
        k_j1
        (fun (x8 : Int32) =>
          k_let (x3 + 1) fun (x9 : Int32) =>
          rec6 x7 x8 x9)
        (fun K67 =>
        k_if (x6 ≤ x2)
        (
          K67 x2)
        (
          K67 x6)))
      (fun K54 =>
      k_if (x6 ≤ x2)
      (
        K54 x1)
      (
        K54 x3)))
    (fun K41 =>
    k_if (x5 = 4)
    (
      k_b1 (fX5_isLocked v_z x3) fun (x10 : Int32) =>
      k_if (x10 = 0)
      (
        k_b1 (fX5_doubtful v_z x3) fun (x11 : Int32) =>
        K41 x11)
      (
        K41 0))
    (
      K41 0)))
def fX5_worstNow (v_z : Nat → Int32) : Option (Int32) :=
  k_l3 (fX5_worstNow_s6 v_z) 5000 ((-1)) 0 0
theorem hdX5_worstNow : yX5_worstNow.cls = RX5 ∧ yX5_worstNow.cls ≠ "java/lang/invoke/MethodHandle" ∧ yX5_worstNow.cls ≠ "java/lang/invoke/VarHandle" ∧ (parseMethodDescriptor yX5_worstNow.desc).map (fun d => d.parameters.length) = some 0 := by decide +kernel
set_option maxRecDepth 100000 in
set_option maxHeartbeats 4000000 in
theorem mX5_worstNow (l : Launch) (dC : Nat → ClassId) (dI : Nat → Nat → Nat) (cyI cyC cyO : ClassId) (ob a1 a2 a3 a4 a5 a6 a7 a8 : Nat) (v_thrown : Int32) (v_z : Nat → Int32) (v_saved : Nat → Int32) (v_savedMany : Int32) (v_spare : Nat → Int32) (v_buffer : Nat → Int32) (v_typed : Int32) (v_marksBlown : Int32) (v_rests : Nat → Int32) (v_begins : Nat → Int32) (v_orders : Nat → Int32) (v_orderMany : Int32) (v_spot : Int32) (v_wrong : Int32) (v_isShort : Int32) (v_before : Nat → Int32) (v_hash : Int64)  {r : Int32} (hf : fX5_worstNow v_z = some r) : MetRI l yX5_worstNow cX5_worstNow 5 (some .int) 6 138 [.ref ob] (dC, dI) (tyS cyI cyC cyO) (wX5 cyI cyC ob a1 a2 a3 a4 a5 a6 a7 a8 v_thrown v_z v_saved v_savedMany v_spare v_buffer v_typed v_marksBlown v_rests v_begins v_orders v_orderMany v_spot v_wrong v_isShort v_before v_hash) r := by
  refine metRI_of (by decide) (Nat.le_of_ble_eq_true rfl) ?_
  intro p e s m below meth c ls hC hr hlk hP hK hl
  have hC : CallFix p m c cX5_worstNow 5 s [.ref ob].toArray wA RX5 := hC
  obtain ⟨hx, hb, hml, hown, hts⟩ := id hC
  have hS : va_S kF s.heap s.heap [] := va_S.rf
  have hl : lv_has ls 5 [(0, .ref ob)] := hl
  have h := hf
  unfold fX5_worstNow at h
  obtain ⟨H, hH⟩ : ∃ H, H = s.heap := ⟨_, rfl⟩
  obtain ⟨locs, hlo⟩ : ∃ locs : List Loc, locs = [] := ⟨_, rfl⟩
  rw [← hH] at hP
  rw [← hlo] at hS
  have hS : va_S kF s.heap H locs := by rw [hH]; exact hS
  show W p l e (k_rm 6 138) s m [.ref ob].toArray below meth c s.heap [] 0 0 _ _
  rw [← hlo, ← hH]
  refine lv_iconst (v := (-1)) hx hb dX5_worstNow_0 (by decide) ?_
  refine lv_istore_n (lv' := [(1, .int ((-1))), (0, .ref ob)]) hx hb dX5_worstNow_1 rfl hl (by decide) rfl (fun ls hl => ?_)
  refine lv_iconst (v := 0) hx hb dX5_worstNow_2 (by decide) ?_
  refine lv_istore_n (lv' := [(2, .int 0), (1, .int ((-1))), (0, .ref ob)]) hx hb dX5_worstNow_3 rfl hl (by decide) rfl (fun ls hl => ?_)
  refine lv_iconst (v := 0) hx hb dX5_worstNow_4 (by decide) ?_
  refine lv_istore_n (lv' := [(3, .int 0), (2, .int 0), (1, .int ((-1))), (0, .ref ob)]) hx hb dX5_worstNow_5 rfl hl (by decide) rfl (fun ls hl => ?_)
  obtain ⟨S6, hS6⟩ : ∃ z, z = (fX5_worstNow_s6 v_z) := ⟨_, rfl⟩
  rw [← hS6] at h
  have L6 : ∀ (n : Nat) (x1 : Int32) (x2 : Int32) (x3 : Int32) (H : Heap) (locs : List Loc) (ls : Array Slot), k_l3 S6 n x1 x2 x3 = some r → va_P (dC, dI) vwCl (wX5 cyI cyC ob a1 a2 a3 a4 a5 a6 a7 a8 v_thrown v_z v_saved v_savedMany v_spare v_buffer v_typed v_marksBlown v_rests v_begins v_orders v_orderMany v_spot v_wrong v_isShort v_before v_hash) H → va_S kF s.heap H locs → lv_has ls 5 [(0, .ref ob), (1, .int x1), (2, .int x2), (3, .int x3)] → W p l e (k_rm 6 138) s m [.ref ob].toArray below meth c H locs 0 0 (MQ below (qRI r) [.ref ob].toArray s 0 0 kF) (F0 m 6 ls []) := by
    intro n
    induction n with
    | zero =>
      intro x1 x2 x3 H locs ls h
      exact (k_l3_0 h).elim
    | succ n ih6 =>
      intro x1 x2 x3 H locs ls h hP hS hl
      have h := k_l3_s h
      have h := k_a4 hS6 h
      unfold fX5_worstNow_s6 at h
      refine lv_iload_n hx hb dX5_worstNow_6 rfl (lv_at hl 3 rfl) ?_
      refine lv_bipush (v := 20) hx hb dX5_worstNow_7 (by decide) ?_
      refine g_icmp_ge (tgt := 74) hx hb dX5_worstNow_9 (by decide) h (fun h => ?_) (fun h => ?_)
      · refine lv_iload_n hx hb dX5_worstNow_74 rfl (lv_at hl 1 rfl) ?_
        exact g_retRI hx hb hr hlk hS h dX5_worstNow_75
      · refine lv_aload_n hx hb dX5_worstNow_12 rfl (lv_at hl 0 rfl) ?_
        refine lv_iload_n hx hb dX5_worstNow_13 rfl (lv_at hl 3 rfl) ?_
        obtain ⟨x4, hc14, h⟩ := k_b1_e h
        refine g_callRI_V (As := [.int x3]) (rest := []) hC (mX5_maskNow l dC dI cyI cyC cyO ob a1 a2 a3 a4 a5 a6 a7 a8 v_thrown v_z v_saved v_savedMany v_spare v_buffer v_typed v_marksBlown v_rests v_begins v_orders v_orderMany v_spot v_wrong v_isShort v_before v_hash x3 hc14) q782 q783 q22 q75 q784 1 hdX5_maskNow ⟨Nat.le_of_ble_eq_true rfl, Nat.le_of_ble_eq_true rfl⟩ ⟨Nat.le_of_ble_eq_true rfl, Nat.le_of_ble_eq_true rfl⟩ rfl rfl hl.1 (Nat.le_of_ble_eq_true rfl) hP hK (va_recv hK hP (ci := 4) (q0 := 0) rfl rfl) hS dX5_worstNow_14 (fun H locs hk hS => ?_)
        have hP := k_kept hP hk
        obtain ⟨x5, hc17, h⟩ := k_b1_e h
        refine g_callRI_S (As := [.int x4]) (rest := []) hC (mX5_kindOf l dC dI cyI cyC cyO x4 hc17) q806 q807 q75 q808 1 hdX5_kindOf ⟨Nat.le_of_ble_eq_true rfl, Nat.le_of_ble_eq_true rfl⟩ ⟨Nat.le_of_ble_eq_true rfl, Nat.le_of_ble_eq_true rfl⟩ rfl rfl hl.1 (Nat.le_of_ble_eq_true rfl) va_P_nil hK hS dX5_worstNow_17 (fun H locs hk hS => ?_)
        have hP := k_kept hP hk
        refine lv_iconst (v := 4) hx hb dX5_worstNow_20 (by decide) ?_
        obtain ⟨K41, hK41, h⟩ := k_j1_e h
        have J41 : ∀ (x6 : Int32) (H : Heap) (locs : List Loc) (ls : Array Slot), K41 x6 = some r → va_P (dC, dI) vwCl (wX5 cyI cyC ob a1 a2 a3 a4 a5 a6 a7 a8 v_thrown v_z v_saved v_savedMany v_spare v_buffer v_typed v_marksBlown v_rests v_begins v_orders v_orderMany v_spot v_wrong v_isShort v_before v_hash) H → va_S kF s.heap H locs → lv_has ls 5 [(0, .ref ob), (1, .int x1), (2, .int x2), (3, .int x3)] → W p l e (k_rm 6 138) s m [.ref ob].toArray below meth c H locs 0 0 (MQ below (qRI r) [.ref ob].toArray s 0 0 kF) (F0 m 41 ls [.int x6]) := by
          intro x6 H locs ls h hP hS hl
          have h := k_a1 hK41 h
          refine lv_istore (lv' := [(4, .int x6), (0, .ref ob), (1, .int x1), (2, .int x2), (3, .int x3)]) hx hb dX5_worstNow_41 hl (by decide) rfl (fun ls hl => ?_)
          refine lv_iload hx hb dX5_worstNow_43 (lv_at hl 0 rfl) ?_
          refine lv_iload_n hx hb dX5_worstNow_45 rfl (lv_at hl 3 rfl) ?_
          obtain ⟨K54, hK54, h⟩ := k_j1_e h
          have J54 : ∀ (x7 : Int32) (H : Heap) (locs : List Loc) (ls : Array Slot), K54 x7 = some r → va_P (dC, dI) vwCl (wX5 cyI cyC ob a1 a2 a3 a4 a5 a6 a7 a8 v_thrown v_z v_saved v_savedMany v_spare v_buffer v_typed v_marksBlown v_rests v_begins v_orders v_orderMany v_spot v_wrong v_isShort v_before v_hash) H → va_S kF s.heap H locs → lv_has ls 5 [(0, .ref ob), (2, .int x2), (3, .int x3), (4, .int x6)] → W p l e (k_rm 6 138) s m [.ref ob].toArray below meth c H locs 0 0 (MQ below (qRI r) [.ref ob].toArray s 0 0 kF) (F0 m 54 ls [.int x7]) := by
            intro x7 H locs ls h hP hS hl
            have h := k_a1 hK54 h
            refine lv_istore_n (lv' := [(1, .int x7), (0, .ref ob), (2, .int x2), (3, .int x3), (4, .int x6)]) hx hb dX5_worstNow_54 rfl hl (by decide) rfl (fun ls hl => ?_)
            refine lv_iload hx hb dX5_worstNow_55 (lv_at hl 4 rfl) ?_
            refine lv_iload_n hx hb dX5_worstNow_57 rfl (lv_at hl 2 rfl) ?_
            obtain ⟨K67, hK67, h⟩ := k_j1_e h
            have J67 : ∀ (x8 : Int32) (H : Heap) (locs : List Loc) (ls : Array Slot), K67 x8 = some r → va_P (dC, dI) vwCl (wX5 cyI cyC ob a1 a2 a3 a4 a5 a6 a7 a8 v_thrown v_z v_saved v_savedMany v_spare v_buffer v_typed v_marksBlown v_rests v_begins v_orders v_orderMany v_spot v_wrong v_isShort v_before v_hash) H → va_S kF s.heap H locs → lv_has ls 5 [(0, .ref ob), (1, .int x7), (3, .int x3)] → W p l e (k_rm 6 138) s m [.ref ob].toArray below meth c H locs 0 0 (MQ below (qRI r) [.ref ob].toArray s 0 0 kF) (F0 m 67 ls [.int x8]) := by
              intro x8 H locs ls h hP hS hl
              have h := k_a1 hK67 h
              refine lv_istore_n (lv' := [(2, .int x8), (0, .ref ob), (1, .int x7), (3, .int x3)]) hx hb dX5_worstNow_67 rfl hl (by decide) rfl (fun ls hl => ?_)
              refine g_iinc (dv := 1) hx hb dX5_worstNow_68 hl (j := 3) rfl (by decide) (by decide) h (fun x9 ls h hl => ?_)
              have hl : lv_has ls 5 [(3, .int x9), (2, .int x8), (0, .ref ob), (1, .int x7)] := hl
              refine lv_goto (tgt := 6) hx hb dX5_worstNow_71 (by decide) ?_
              exact ih6 x7 x8 x9 _ _ _ h hP hS (lv_sub hl [2, 3, 1, 0] rfl)
            refine g_icmp_le (tgt := 66) hx hb dX5_worstNow_58 (by decide) h (fun h => ?_) (fun h => ?_)
            · refine lv_iload_n hx hb dX5_worstNow_66 rfl (lv_at hl 2 rfl) ?_
              exact J67 x2 _ _ _ h hP hS (lv_sub hl [1, 0, 3] rfl)
            · refine lv_iload hx hb dX5_worstNow_61 (lv_at hl 4 rfl) ?_
              refine lv_goto (tgt := 67) hx hb dX5_worstNow_63 (by decide) ?_
              exact J67 x6 _ _ _ h hP hS (lv_sub hl [1, 0, 3] rfl)
          refine g_icmp_le (tgt := 53) hx hb dX5_worstNow_46 (by decide) h (fun h => ?_) (fun h => ?_)
          · refine lv_iload_n hx hb dX5_worstNow_53 rfl (lv_at hl 2 rfl) ?_
            exact J54 x1 _ _ _ h hP hS (lv_sub hl [1, 3, 4, 0] rfl)
          · refine lv_iload_n hx hb dX5_worstNow_49 rfl (lv_at hl 4 rfl) ?_
            refine lv_goto (tgt := 54) hx hb dX5_worstNow_50 (by decide) ?_
            exact J54 x3 _ _ _ h hP hS (lv_sub hl [1, 3, 4, 0] rfl)
        refine g_icmp_ne (tgt := 40) hx hb dX5_worstNow_21 (by decide) h (fun h => ?_) (fun h => ?_)
        · refine lv_iconst (v := 0) hx hb dX5_worstNow_40 (by decide) ?_
          exact J41 0 _ _ _ h hP hS (lv_sub hl [0, 1, 2, 3] rfl)
        · refine lv_aload_n hx hb dX5_worstNow_24 rfl (lv_at hl 0 rfl) ?_
          refine lv_iload_n hx hb dX5_worstNow_25 rfl (lv_at hl 3 rfl) ?_
          obtain ⟨x10, hc26, h⟩ := k_b1_e h
          refine g_callRI_V (As := [.int x3]) (rest := []) hC (mX5_isLocked l dC dI cyI cyC cyO ob a1 a2 a3 a4 a5 a6 a7 a8 v_thrown v_z v_saved v_savedMany v_spare v_buffer v_typed v_marksBlown v_rests v_begins v_orders v_orderMany v_spot v_wrong v_isShort v_before v_hash x3 hc26) q751 q752 q14 q75 q753 1 hdX5_isLocked ⟨Nat.le_of_ble_eq_true rfl, Nat.le_of_ble_eq_true rfl⟩ ⟨Nat.le_of_ble_eq_true rfl, Nat.le_of_ble_eq_true rfl⟩ rfl rfl hl.1 (Nat.le_of_ble_eq_true rfl) hP hK (va_recv hK hP (ci := 4) (q0 := 0) rfl rfl) hS dX5_worstNow_26 (fun H locs hk hS => ?_)
          have hP := k_kept hP hk
          refine g_if_ne (tgt := 40) hx hb dX5_worstNow_29 (by decide) h (fun h => ?_) (fun h => ?_)
          · refine lv_iconst (v := 0) hx hb dX5_worstNow_40 (by decide) ?_
            exact J41 0 _ _ _ h hP hS (lv_sub hl [0, 1, 2, 3] rfl)
          · refine lv_aload_n hx hb dX5_worstNow_32 rfl (lv_at hl 0 rfl) ?_
            refine lv_iload_n hx hb dX5_worstNow_33 rfl (lv_at hl 3 rfl) ?_
            obtain ⟨x11, hc34, h⟩ := k_b1_e h
            refine g_callRI_V (As := [.int x3]) (rest := []) hC (mX5_doubtful l dC dI cyI cyC cyO ob a1 a2 a3 a4 a5 a6 a7 a8 v_thrown v_z v_saved v_savedMany v_spare v_buffer v_typed v_marksBlown v_rests v_begins v_orders v_orderMany v_spot v_wrong v_isShort v_before v_hash x3 hc34) q914 q915 q43 q75 q916 1 hdX5_doubtful ⟨Nat.le_of_ble_eq_true rfl, Nat.le_of_ble_eq_true rfl⟩ ⟨Nat.le_of_ble_eq_true rfl, Nat.le_of_ble_eq_true rfl⟩ rfl rfl hl.1 (Nat.le_of_ble_eq_true rfl) hP hK (va_recv hK hP (ci := 4) (q0 := 0) rfl rfl) hS dX5_worstNow_34 (fun H locs hk hS => ?_)
            have hP := k_kept hP hk
            refine lv_goto (tgt := 41) hx hb dX5_worstNow_37 (by decide) ?_
            exact J41 x11 _ _ _ h hP hS (lv_sub hl [0, 1, 2, 3] rfl)
  exact L6 5000 ((-1)) 0 0 _ _ _ h hP hS (lv_sub hl [3, 2, 1, 0] rfl)
def fX5_worst (v_thrown : Int32) (v_z : Nat → Int32) : Option (Int32 × Int32) :=
  k_b1 (fX5_worstNow v_z) fun (x1 : Int32) =>
  some (x1, 0)
theorem hdX5_worst : yX5_worst.cls = RX5 ∧ yX5_worst.cls ≠ "java/lang/invoke/MethodHandle" ∧ yX5_worst.cls ≠ "java/lang/invoke/VarHandle" ∧ (parseMethodDescriptor yX5_worst.desc).map (fun d => d.parameters.length) = some 0 := by decide +kernel
set_option maxRecDepth 100000 in
set_option maxHeartbeats 4000000 in
theorem mX5_worst (l : Launch) (dC : Nat → ClassId) (dI : Nat → Nat → Nat) (cyI cyC cyO : ClassId) (ob a1 a2 a3 a4 a5 a6 a7 a8 : Nat) (v_thrown : Int32) (v_z : Nat → Int32) (v_saved : Nat → Int32) (v_savedMany : Int32) (v_spare : Nat → Int32) (v_buffer : Nat → Int32) (v_typed : Int32) (v_marksBlown : Int32) (v_rests : Nat → Int32) (v_begins : Nat → Int32) (v_orders : Nat → Int32) (v_orderMany : Int32) (v_spot : Int32) (v_wrong : Int32) (v_isShort : Int32) (v_before : Nat → Int32) (v_hash : Int64)  {r : Int32} {r_thrown : Int32} (hf : fX5_worst v_thrown v_z = some (r, r_thrown)) : MetMI l yX5_worst cX5_worst 1 (some .int) 7 162 [.ref ob] (dC, dI) (tyS cyI cyC cyO) (wX5 cyI cyC ob a1 a2 a3 a4 a5 a6 a7 a8 v_thrown v_z v_saved v_savedMany v_spare v_buffer v_typed v_marksBlown v_rests v_begins v_orders v_orderMany v_spot v_wrong v_isShort v_before v_hash) (wX5 cyI cyC ob a1 a2 a3 a4 a5 a6 a7 a8 r_thrown v_z v_saved v_savedMany v_spare v_buffer v_typed v_marksBlown v_rests v_begins v_orders v_orderMany v_spot v_wrong v_isShort v_before v_hash) r := by
  refine metMI_of (by decide) (Nat.le_of_ble_eq_true rfl) ?_
  intro p e s m below meth c ls hC hr hlk hP hK hD hl
  have hC : CallFix p m c cX5_worst 1 s [.ref ob].toArray wA RX5 := hC
  obtain ⟨hx, hb, hml, hown, hts⟩ := id hC
  have hS : va_S (k_A (wX5 cyI cyC ob a1 a2 a3 a4 a5 a6 a7 a8 v_thrown v_z v_saved v_savedMany v_spare v_buffer v_typed v_marksBlown v_rests v_begins v_orders v_orderMany v_spot v_wrong v_isShort v_before v_hash)) s.heap s.heap [] := va_S.rf
  have hl : lv_has ls 1 [(0, .ref ob)] := hl
  have h := hf
  unfold fX5_worst at h
  obtain ⟨H, hH⟩ : ∃ H, H = s.heap := ⟨_, rfl⟩
  obtain ⟨locs, hlo⟩ : ∃ locs : List Loc, locs = [] := ⟨_, rfl⟩
  rw [← hH] at hP
  rw [← hlo] at hS
  have hS : va_S (k_A (wX5 cyI cyC ob a1 a2 a3 a4 a5 a6 a7 a8 v_thrown v_z v_saved v_savedMany v_spare v_buffer v_typed v_marksBlown v_rests v_begins v_orders v_orderMany v_spot v_wrong v_isShort v_before v_hash)) s.heap H locs := by rw [hH]; exact hS
  show W p l e (k_rm 7 162) s m [.ref ob].toArray below meth c s.heap [] 0 0 _ _
  rw [← hlo, ← hH]
  refine lv_aload_n hx hb dX5_worst_0 rfl (lv_at hl 0 rfl) ?_
  refine lv_iconst (v := 0) hx hb dX5_worst_1 (by decide) ?_
  refine va_put (D := (dC, dI)) (ci := 4) (v := .int 0) (ty := .int) (C := RX5) (T := TX5) (N := 17) hx hb hts iaX5 tyX5 tyX5_ok nmX5 hown hK hP hD hS 0 rfl rfl 0 (by decide) (hts _ q716) (fun _ h9 => h9) rfl (by decide +kernel) rfl rfl (Nat.le_of_ble_eq_true rfl) dX5_worst_2 (fun H locs hP _ hS => ?_)
  have hP : va_P (dC, dI) vwCl (wX5 cyI cyC ob a1 a2 a3 a4 a5 a6 a7 a8 0 v_z v_saved v_savedMany v_spare v_buffer v_typed v_marksBlown v_rests v_begins v_orders v_orderMany v_spot v_wrong v_isShort v_before v_hash) H := hP
  have hD : va_D (k_A (wX5 cyI cyC ob a1 a2 a3 a4 a5 a6 a7 a8 v_thrown v_z v_saved v_savedMany v_spare v_buffer v_typed v_marksBlown v_rests v_begins v_orders v_orderMany v_spot v_wrong v_isShort v_before v_hash)) (wX5 cyI cyC ob a1 a2 a3 a4 a5 a6 a7 a8 0 v_z v_saved v_savedMany v_spare v_buffer v_typed v_marksBlown v_rests v_begins v_orders v_orderMany v_spot v_wrong v_isShort v_before v_hash) := k_Dm hD rfl
  refine lv_aload_n hx hb dX5_worst_5 rfl (lv_at hl 0 rfl) ?_
  obtain ⟨x1, hc6, h⟩ := k_b1_e h
  refine g_callRI_V (As := []) (rest := []) hC (mX5_worstNow l dC dI cyI cyC cyO ob a1 a2 a3 a4 a5 a6 a7 a8 0 v_z v_saved v_savedMany v_spare v_buffer v_typed v_marksBlown v_rests v_begins v_orders v_orderMany v_spot v_wrong v_isShort v_before v_hash hc6) q1012 q1013 q65 q75 q1014 0 hdX5_worstNow ⟨Nat.le_of_ble_eq_true rfl, Nat.le_of_ble_eq_true rfl⟩ ⟨Nat.le_of_ble_eq_true rfl, Nat.le_of_ble_eq_true rfl⟩ rfl rfl hl.1 (Nat.le_of_ble_eq_true rfl) hP hK (va_recv hK hP (ci := 4) (q0 := 0) rfl rfl) hS dX5_worst_6 (fun H locs hk hS => ?_)
  have hP := k_kept hP hk
  obtain ⟨e0, e1⟩ := k_t2 h
  exact g_retMI hx hb hr hlk hS e0 (by rw [← e1]; exact hP) dX5_worst_9
def fX5_share_s7 (K55 : Int32 → Int32 → Option (UInt64)) (v_z : Nat → Int32) (rec7 : Int32 → Int32 → Int32 → Option (UInt64)) (x6 : Int32) (x7 : Int32) (x8 : Int32) : Option (UInt64) :=
  k_if (327 ≤ x8)
  (
    K55 x6 x7)
  (
    k_ck x8 327 <| k_let (v_z x8.toNatClampNeg) fun (x9 : Int32) =>
    k_j1
    (fun (x10 : Int32) =>
      k_let (x6 + x10) fun (x11 : Int32) =>
      k_ck x8 327 <| k_let (v_z x8.toNatClampNeg) fun (x12 : Int32) =>
      k_j1
      (fun (x13 : Int32) =>
        k_let (x7 + x13) fun (x14 : Int32) =>
        k_let (x8 + 1) fun (x15 : Int32) =>
        rec7 x11 x14 x15)
      (fun K47 =>
      k_if (x12 ≤ 0)
      (
        K47 0)
      (
        K47 1)))
    (fun K30 =>
    k_if (x9 = 3)
    (
      K30 1)
    (
      K30 0)))
def fX5_share (v_z : Nat → Int32) : Option (UInt64) :=
  k_j2
  (fun (x1 : Int32) (x2 : Int32) =>
    k_if (x2 = 0)
    (
      some FP.dconst1)
    (
      k_let (FP.i2d x1) fun (x3 : UInt64) =>
      k_let (FP.i2d x2) fun (x4 : UInt64) =>
      k_nn (FP.ddiv x3 x4) <| k_let (FP.ddiv x3 x4) fun (x5 : UInt64) =>
      some x5))
  (fun K55 =>
  k_l3 (fX5_share_s7 K55 v_z) 5000 0 0 7)
theorem hdX5_share : yX5_share.cls = RX5 ∧ yX5_share.cls ≠ "java/lang/invoke/MethodHandle" ∧ yX5_share.cls ≠ "java/lang/invoke/VarHandle" ∧ (parseMethodDescriptor yX5_share.desc).map (fun d => d.parameters.length) = some 0 := by decide +kernel
set_option maxRecDepth 100000 in
set_option maxHeartbeats 4000000 in
theorem mX5_share (l : Launch) (dC : Nat → ClassId) (dI : Nat → Nat → Nat) (cyI cyC cyO : ClassId) (ob a1 a2 a3 a4 a5 a6 a7 a8 : Nat) (v_thrown : Int32) (v_z : Nat → Int32) (v_saved : Nat → Int32) (v_savedMany : Int32) (v_spare : Nat → Int32) (v_buffer : Nat → Int32) (v_typed : Int32) (v_marksBlown : Int32) (v_rests : Nat → Int32) (v_begins : Nat → Int32) (v_orders : Nat → Int32) (v_orderMany : Int32) (v_spot : Int32) (v_wrong : Int32) (v_isShort : Int32) (v_before : Nat → Int32) (v_hash : Int64)  {r : UInt64} (hf : fX5_share v_z = some r) : MetRD l yX5_share cX5_share 4 (some .double) 0 0 [.ref ob] (dC, dI) (tyS cyI cyC cyO) (wX5 cyI cyC ob a1 a2 a3 a4 a5 a6 a7 a8 v_thrown v_z v_saved v_savedMany v_spare v_buffer v_typed v_marksBlown v_rests v_begins v_orders v_orderMany v_spot v_wrong v_isShort v_before v_hash) r := by
  refine metRD_of (by decide) (Nat.le_of_ble_eq_true rfl) ?_
  intro p e s m below meth c ls hC hr hlk hP hK hl
  have hC : CallFix p m c cX5_share 4 s [.ref ob].toArray wA RX5 := hC
  obtain ⟨hx, hb, hml, hown, hts⟩ := id hC
  have hS : va_S kF s.heap s.heap [] := va_S.rf
  have hl : lv_has ls 4 [(0, .ref ob)] := hl
  have h := hf
  unfold fX5_share at h
  obtain ⟨H, hH⟩ : ∃ H, H = s.heap := ⟨_, rfl⟩
  obtain ⟨locs, hlo⟩ : ∃ locs : List Loc, locs = [] := ⟨_, rfl⟩
  rw [← hH] at hP
  rw [← hlo] at hS
  have hS : va_S kF s.heap H locs := by rw [hH]; exact hS
  show W p l e (k_rm 0 0) s m [.ref ob].toArray below meth c s.heap [] 0 0 _ _
  rw [← hlo, ← hH]
  refine lv_iconst (v := 0) hx hb dX5_share_0 (by decide) ?_
  refine lv_istore_n (lv' := [(1, .int 0), (0, .ref ob)]) hx hb dX5_share_1 rfl hl (by decide) rfl (fun ls hl => ?_)
  refine lv_iconst (v := 0) hx hb dX5_share_2 (by decide) ?_
  refine lv_istore_n (lv' := [(2, .int 0), (1, .int 0), (0, .ref ob)]) hx hb dX5_share_3 rfl hl (by decide) rfl (fun ls hl => ?_)
  refine lv_bipush (v := 7) hx hb dX5_share_4 (by decide) ?_
  refine lv_istore_n (lv' := [(3, .int 7), (2, .int 0), (1, .int 0), (0, .ref ob)]) hx hb dX5_share_6 rfl hl (by decide) rfl (fun ls hl => ?_)
  obtain ⟨K55, hK55, h⟩ := k_j2_e h
  have J55 : ∀ (x1 : Int32) (x2 : Int32) (H : Heap) (locs : List Loc) (ls : Array Slot), K55 x1 x2 = some r → va_P (dC, dI) vwCl (wX5 cyI cyC ob a1 a2 a3 a4 a5 a6 a7 a8 v_thrown v_z v_saved v_savedMany v_spare v_buffer v_typed v_marksBlown v_rests v_begins v_orders v_orderMany v_spot v_wrong v_isShort v_before v_hash) H → va_S kF s.heap H locs → lv_has ls 4 [(1, .int x1), (2, .int x2)] → W p l e (k_rm 0 0) s m [.ref ob].toArray below meth c H locs 0 0 (MQ below (qRD r) [.ref ob].toArray s 0 0 kF) (F0 m 55 ls []) := by
    intro x1 x2 H locs ls h hP hS hl
    have h := k_a2 hK55 h
    refine lv_iload_n hx hb dX5_share_55 rfl (lv_at hl 1 rfl) ?_
    refine g_if_ne (tgt := 63) hx hb dX5_share_56 (by decide) h (fun h => ?_) (fun h => ?_)
    · refine lv_iload_n hx hb dX5_share_63 rfl (lv_at hl 0 rfl) ?_
      refine g_i2d hx hb dX5_share_64 h (fun x3 h => ?_)
      refine lv_iload_n hx hb dX5_share_65 rfl (lv_at hl 1 rfl) ?_
      refine g_i2d hx hb dX5_share_66 h (fun x4 h => ?_)
      refine g_ddiv hx hb dX5_share_67 h (fun x5 h => ?_)
      exact g_retRD hx hb hr hlk hS h dX5_share_68
    · refine lv_dconst1 hx hb dX5_share_59 ?_
      refine lv_goto (tgt := 68) hx hb dX5_share_60 (by decide) ?_
      exact g_retRD hx hb hr hlk hS h dX5_share_68
  obtain ⟨S7, hS7⟩ : ∃ z, z = (fX5_share_s7 K55 v_z) := ⟨_, rfl⟩
  rw [← hS7] at h
  have L7 : ∀ (n : Nat) (x6 : Int32) (x7 : Int32) (x8 : Int32) (H : Heap) (locs : List Loc) (ls : Array Slot), k_l3 S7 n x6 x7 x8 = some r → va_P (dC, dI) vwCl (wX5 cyI cyC ob a1 a2 a3 a4 a5 a6 a7 a8 v_thrown v_z v_saved v_savedMany v_spare v_buffer v_typed v_marksBlown v_rests v_begins v_orders v_orderMany v_spot v_wrong v_isShort v_before v_hash) H → va_S kF s.heap H locs → lv_has ls 4 [(0, .ref ob), (1, .int x6), (2, .int x7), (3, .int x8)] → W p l e (k_rm 0 0) s m [.ref ob].toArray below meth c H locs 0 0 (MQ below (qRD r) [.ref ob].toArray s 0 0 kF) (F0 m 7 ls []) := by
    intro n
    induction n with
    | zero =>
      intro x6 x7 x8 H locs ls h
      exact (k_l3_0 h).elim
    | succ n ih7 =>
      intro x6 x7 x8 H locs ls h hP hS hl
      have h := k_l3_s h
      have h := k_a4 hS7 h
      unfold fX5_share_s7 at h
      refine lv_iload_n hx hb dX5_share_7 rfl (lv_at hl 3 rfl) ?_
      refine lv_sipush (v := 327) hx hb dX5_share_8 (by decide) ?_
      refine g_icmp_ge (tgt := 55) hx hb dX5_share_11 (by decide) h (fun h => ?_) (fun h => ?_)
      · exact J55 x6 x7 _ _ _ h hP hS (lv_sub hl [1, 2] rfl)
      · refine lv_iload_n hx hb dX5_share_14 rfl (lv_at hl 1 rfl) ?_
        refine lv_aload_n hx hb dX5_share_15 rfl (lv_at hl 0 rfl) ?_
        refine va_get (D := (dC, dI)) (ci := 4) (v := .ref a1) (C := RX5) (T := TX5) (N := 17) hx hb hts iaX5 hown hK hP 0 rfl rfl 1 (by decide) (hts _ q717) (fun _ h9 => h9) rfl dX5_share_16 ?_
        refine lv_iload_n hx hb dX5_share_19 rfl (lv_at hl 3 rfl) ?_
        refine g_iald hx hb hK hP 1 0 rfl rfl dX5_share_20 h (fun x9 h => ?_)
        refine lv_iconst (v := 3) hx hb dX5_share_21 (by decide) ?_
        obtain ⟨K30, hK30, h⟩ := k_j1_e h
        have J30 : ∀ (x10 : Int32) (H : Heap) (locs : List Loc) (ls : Array Slot), K30 x10 = some r → va_P (dC, dI) vwCl (wX5 cyI cyC ob a1 a2 a3 a4 a5 a6 a7 a8 v_thrown v_z v_saved v_savedMany v_spare v_buffer v_typed v_marksBlown v_rests v_begins v_orders v_orderMany v_spot v_wrong v_isShort v_before v_hash) H → va_S kF s.heap H locs → lv_has ls 4 [(0, .ref ob), (2, .int x7), (3, .int x8)] → W p l e (k_rm 0 0) s m [.ref ob].toArray below meth c H locs 0 0 (MQ below (qRD r) [.ref ob].toArray s 0 0 kF) (F0 m 30 ls [.int x10, .int x6]) := by
          intro x10 H locs ls h hP hS hl
          have h := k_a1 hK30 h
          refine g_iadd hx hb dX5_share_30 h (fun x11 h => ?_)
          refine lv_istore_n (lv' := [(1, .int x11), (0, .ref ob), (2, .int x7), (3, .int x8)]) hx hb dX5_share_31 rfl hl (by decide) rfl (fun ls hl => ?_)
          refine lv_iload_n hx hb dX5_share_32 rfl (lv_at hl 2 rfl) ?_
          refine lv_aload_n hx hb dX5_share_33 rfl (lv_at hl 1 rfl) ?_
          refine va_get (D := (dC, dI)) (ci := 4) (v := .ref a1) (C := RX5) (T := TX5) (N := 17) hx hb hts iaX5 hown hK hP 0 rfl rfl 1 (by decide) (hts _ q717) (fun _ h9 => h9) rfl dX5_share_34 ?_
          refine lv_iload_n hx hb dX5_share_37 rfl (lv_at hl 3 rfl) ?_
          refine g_iald hx hb hK hP 1 0 rfl rfl dX5_share_38 h (fun x12 h => ?_)
          obtain ⟨K47, hK47, h⟩ := k_j1_e h
          have J47 : ∀ (x13 : Int32) (H : Heap) (locs : List Loc) (ls : Array Slot), K47 x13 = some r → va_P (dC, dI) vwCl (wX5 cyI cyC ob a1 a2 a3 a4 a5 a6 a7 a8 v_thrown v_z v_saved v_savedMany v_spare v_buffer v_typed v_marksBlown v_rests v_begins v_orders v_orderMany v_spot v_wrong v_isShort v_before v_hash) H → va_S kF s.heap H locs → lv_has ls 4 [(0, .ref ob), (1, .int x11), (3, .int x8)] → W p l e (k_rm 0 0) s m [.ref ob].toArray below meth c H locs 0 0 (MQ below (qRD r) [.ref ob].toArray s 0 0 kF) (F0 m 47 ls [.int x13, .int x7]) := by
            intro x13 H locs ls h hP hS hl
            have h := k_a1 hK47 h
            refine g_iadd hx hb dX5_share_47 h (fun x14 h => ?_)
            refine lv_istore_n (lv' := [(2, .int x14), (0, .ref ob), (1, .int x11), (3, .int x8)]) hx hb dX5_share_48 rfl hl (by decide) rfl (fun ls hl => ?_)
            refine g_iinc (dv := 1) hx hb dX5_share_49 hl (j := 3) rfl (by decide) (by decide) h (fun x15 ls h hl => ?_)
            have hl : lv_has ls 4 [(3, .int x15), (2, .int x14), (0, .ref ob), (1, .int x11)] := hl
            refine lv_goto (tgt := 7) hx hb dX5_share_52 (by decide) ?_
            exact ih7 x11 x14 x15 _ _ _ h hP hS (lv_sub hl [2, 3, 1, 0] rfl)
          refine g_if_le (tgt := 46) hx hb dX5_share_39 (by decide) h (fun h => ?_) (fun h => ?_)
          · refine lv_iconst (v := 0) hx hb dX5_share_46 (by decide) ?_
            exact J47 0 _ _ _ h hP hS (lv_sub hl [1, 0, 3] rfl)
          · refine lv_iconst (v := 1) hx hb dX5_share_42 (by decide) ?_
            refine lv_goto (tgt := 47) hx hb dX5_share_43 (by decide) ?_
            exact J47 1 _ _ _ h hP hS (lv_sub hl [1, 0, 3] rfl)
        refine g_icmp_ne (tgt := 29) hx hb dX5_share_22 (by decide) h (fun h => ?_) (fun h => ?_)
        · refine lv_iconst (v := 0) hx hb dX5_share_29 (by decide) ?_
          exact J30 0 _ _ _ h hP hS (lv_sub hl [0, 2, 3] rfl)
        · refine lv_iconst (v := 1) hx hb dX5_share_25 (by decide) ?_
          refine lv_goto (tgt := 30) hx hb dX5_share_26 (by decide) ?_
          exact J30 1 _ _ _ h hP hS (lv_sub hl [0, 2, 3] rfl)
  exact L7 5000 0 0 7 _ _ _ h hP hS (lv_sub hl [3, 2, 1, 0] rfl)
def fX5_sureShare (v_thrown : Int32) (v_z : Nat → Int32) : Option (UInt64 × Int32) :=
  k_b1 (fX5_share v_z) fun (x1 : UInt64) =>
  some (x1, 0)
theorem hdX5_sureShare : yX5_sureShare.cls = RX5 ∧ yX5_sureShare.cls ≠ "java/lang/invoke/MethodHandle" ∧ yX5_sureShare.cls ≠ "java/lang/invoke/VarHandle" ∧ (parseMethodDescriptor yX5_sureShare.desc).map (fun d => d.parameters.length) = some 0 := by decide +kernel
set_option maxRecDepth 100000 in
set_option maxHeartbeats 4000000 in
theorem mX5_sureShare (l : Launch) (dC : Nat → ClassId) (dI : Nat → Nat → Nat) (cyI cyC cyO : ClassId) (ob a1 a2 a3 a4 a5 a6 a7 a8 : Nat) (v_thrown : Int32) (v_z : Nat → Int32) (v_saved : Nat → Int32) (v_savedMany : Int32) (v_spare : Nat → Int32) (v_buffer : Nat → Int32) (v_typed : Int32) (v_marksBlown : Int32) (v_rests : Nat → Int32) (v_begins : Nat → Int32) (v_orders : Nat → Int32) (v_orderMany : Int32) (v_spot : Int32) (v_wrong : Int32) (v_isShort : Int32) (v_before : Nat → Int32) (v_hash : Int64)  {r : UInt64} {r_thrown : Int32} (hf : fX5_sureShare v_thrown v_z = some (r, r_thrown)) : MetMD l yX5_sureShare cX5_sureShare 1 (some .double) 1 23 [.ref ob] (dC, dI) (tyS cyI cyC cyO) (wX5 cyI cyC ob a1 a2 a3 a4 a5 a6 a7 a8 v_thrown v_z v_saved v_savedMany v_spare v_buffer v_typed v_marksBlown v_rests v_begins v_orders v_orderMany v_spot v_wrong v_isShort v_before v_hash) (wX5 cyI cyC ob a1 a2 a3 a4 a5 a6 a7 a8 r_thrown v_z v_saved v_savedMany v_spare v_buffer v_typed v_marksBlown v_rests v_begins v_orders v_orderMany v_spot v_wrong v_isShort v_before v_hash) r := by
  refine metMD_of (by decide) (Nat.le_of_ble_eq_true rfl) ?_
  intro p e s m below meth c ls hC hr hlk hP hK hD hl
  have hC : CallFix p m c cX5_sureShare 1 s [.ref ob].toArray wA RX5 := hC
  obtain ⟨hx, hb, hml, hown, hts⟩ := id hC
  have hS : va_S (k_A (wX5 cyI cyC ob a1 a2 a3 a4 a5 a6 a7 a8 v_thrown v_z v_saved v_savedMany v_spare v_buffer v_typed v_marksBlown v_rests v_begins v_orders v_orderMany v_spot v_wrong v_isShort v_before v_hash)) s.heap s.heap [] := va_S.rf
  have hl : lv_has ls 1 [(0, .ref ob)] := hl
  have h := hf
  unfold fX5_sureShare at h
  obtain ⟨H, hH⟩ : ∃ H, H = s.heap := ⟨_, rfl⟩
  obtain ⟨locs, hlo⟩ : ∃ locs : List Loc, locs = [] := ⟨_, rfl⟩
  rw [← hH] at hP
  rw [← hlo] at hS
  have hS : va_S (k_A (wX5 cyI cyC ob a1 a2 a3 a4 a5 a6 a7 a8 v_thrown v_z v_saved v_savedMany v_spare v_buffer v_typed v_marksBlown v_rests v_begins v_orders v_orderMany v_spot v_wrong v_isShort v_before v_hash)) s.heap H locs := by rw [hH]; exact hS
  show W p l e (k_rm 1 23) s m [.ref ob].toArray below meth c s.heap [] 0 0 _ _
  rw [← hlo, ← hH]
  refine lv_aload_n hx hb dX5_sureShare_0 rfl (lv_at hl 0 rfl) ?_
  refine lv_iconst (v := 0) hx hb dX5_sureShare_1 (by decide) ?_
  refine va_put (D := (dC, dI)) (ci := 4) (v := .int 0) (ty := .int) (C := RX5) (T := TX5) (N := 17) hx hb hts iaX5 tyX5 tyX5_ok nmX5 hown hK hP hD hS 0 rfl rfl 0 (by decide) (hts _ q716) (fun _ h9 => h9) rfl (by decide +kernel) rfl rfl (Nat.le_of_ble_eq_true rfl) dX5_sureShare_2 (fun H locs hP _ hS => ?_)
  have hP : va_P (dC, dI) vwCl (wX5 cyI cyC ob a1 a2 a3 a4 a5 a6 a7 a8 0 v_z v_saved v_savedMany v_spare v_buffer v_typed v_marksBlown v_rests v_begins v_orders v_orderMany v_spot v_wrong v_isShort v_before v_hash) H := hP
  have hD : va_D (k_A (wX5 cyI cyC ob a1 a2 a3 a4 a5 a6 a7 a8 v_thrown v_z v_saved v_savedMany v_spare v_buffer v_typed v_marksBlown v_rests v_begins v_orders v_orderMany v_spot v_wrong v_isShort v_before v_hash)) (wX5 cyI cyC ob a1 a2 a3 a4 a5 a6 a7 a8 0 v_z v_saved v_savedMany v_spare v_buffer v_typed v_marksBlown v_rests v_begins v_orders v_orderMany v_spot v_wrong v_isShort v_before v_hash) := k_Dm hD rfl
  refine lv_aload_n hx hb dX5_sureShare_5 rfl (lv_at hl 0 rfl) ?_
  obtain ⟨x1, hc6, h⟩ := k_b1_e h
  refine g_callRD_V (As := []) (rest := []) hC (mX5_share l dC dI cyI cyC cyO ob a1 a2 a3 a4 a5 a6 a7 a8 0 v_z v_saved v_savedMany v_spare v_buffer v_typed v_marksBlown v_rests v_begins v_orders v_orderMany v_spot v_wrong v_isShort v_before v_hash hc6) q1019 q1020 q66 q75 q1021 0 hdX5_share ⟨Nat.le_of_ble_eq_true rfl, Nat.le_of_ble_eq_true rfl⟩ ⟨Nat.le_of_ble_eq_true rfl, Nat.le_of_ble_eq_true rfl⟩ rfl rfl hl.1 (Nat.le_of_ble_eq_true rfl) hP hK (va_recv hK hP (ci := 4) (q0 := 0) rfl rfl) hS dX5_sureShare_6 (fun H locs hk hS => ?_)
  have hP := k_kept hP hk
  obtain ⟨e0, e1⟩ := k_t2 h
  exact g_retMD hx hb hr hlk hS e0 (by rw [← e1]; exact hP) dX5_sureShare_9
def fX5_bitsOf_s38 (K59 : UInt64 → Int64 → Option (Int64)) (rec38 : UInt64 → Int64 → Option (Int64)) (x11 : UInt64) (x12 : Int64) : Option (Int64) :=
  k_let (Op.cmpValue (FP.dcmp x11 FP.dconst1) .g) fun (x13 : Int32) =>
  k_if (0 ≤ x13)
  (
    K59 x11 x12)
  (
    k_nn (FP.dmul x11 ((4611686018427387904 : UInt64))) <| k_let (FP.dmul x11 ((4611686018427387904 : UInt64))) fun (x14 : UInt64) =>
    k_let (x12 - 1) fun (x15 : Int64) =>
    rec38 x14 x15)
def fX5_bitsOf_s15 (K38 : UInt64 → Int64 → Option (Int64)) (rec15 : UInt64 → Int64 → Option (Int64)) (x16 : UInt64) (x17 : Int64) : Option (Int64) :=
  k_let (Op.cmpValue (FP.dcmp x16 ((4611686018427387904 : UInt64))) .l) fun (x18 : Int32) =>
  k_if (x18 < 0)
  (
    K38 x16 x17)
  (
    k_nn (FP.ddiv x16 ((4611686018427387904 : UInt64))) <| k_let (FP.ddiv x16 ((4611686018427387904 : UInt64))) fun (x19 : UInt64) =>
    k_let (x17 + 1) fun (x20 : Int64) =>
    rec15 x19 x20)
def fX5_bitsOf (p0 : UInt64) : Option (Int64) :=
  k_let (Op.cmpValue (FP.dcmp p0 FP.dconst0) .l) fun (x1 : Int32) =>
  k_if (x1 = 0)
  (
    some 0)
  (
    k_j2
    (fun (x2 : UInt64) (x3 : Int64) =>
      k_j2
      (fun (x4 : UInt64) (x5 : Int64) =>
        k_let (x5 <<< ((52 : Int32).toInt64 &&& 63)) fun (x6 : Int64) =>
        k_nn (FP.dmul x4 ((4841369599423283200 : UInt64))) <| k_let (FP.dmul x4 ((4841369599423283200 : UInt64))) fun (x7 : UInt64) =>
        k_let (FP.d2l x7) fun (x8 : Int64) =>
        k_let (x6 + x8) fun (x9 : Int64) =>
        k_let (x9 - 4503599627370496) fun (x10 : Int64) =>
        some x10)
      (fun K59 =>
      k_l2 (fX5_bitsOf_s38 K59) 5000 x2 x3))
    (fun K38 =>
    k_l2 (fX5_bitsOf_s15 K38) 5000 p0 1023))
theorem hdX5_bitsOf : yX5_bitsOf.cls ≠ "java/lang/invoke/MethodHandle" ∧ yX5_bitsOf.cls ≠ "java/lang/invoke/VarHandle" ∧ (parseMethodDescriptor yX5_bitsOf.desc).map (fun d => d.parameters.length) = some 1 := by decide +kernel
set_option maxRecDepth 100000 in
set_option maxHeartbeats 4000000 in
theorem mX5_bitsOf (l : Launch) (dC : Nat → ClassId) (dI : Nat → Nat → Nat) (cyI cyC cyO : ClassId)  (p0 : UInt64) {r : Int64} (hf : fX5_bitsOf p0 = some r) : MetRL l yX5_bitsOf cX5_bitsOf 6 (some .long) 0 0 [.double p0] (dC, dI) (tyS cyI cyC cyO) [] r := by
  refine metRL_of (by decide) (Nat.le_of_ble_eq_true rfl) ?_
  intro p e s m below meth c ls hC hr hlk hP hK hl
  have hC : CallFix p m c cX5_bitsOf 6 s [.double p0].toArray wA RX5 := hC
  obtain ⟨hx, hb, hml, hown, hts⟩ := id hC
  have hS : va_S kF s.heap s.heap [] := va_S.rf
  have hl : lv_has ls 6 [(0, .double p0)] := hl
  have h := hf
  unfold fX5_bitsOf at h
  obtain ⟨H, hH⟩ : ∃ H, H = s.heap := ⟨_, rfl⟩
  obtain ⟨locs, hlo⟩ : ∃ locs : List Loc, locs = [] := ⟨_, rfl⟩
  rw [← hH] at hP
  rw [← hlo] at hS
  have hS : va_S kF s.heap H locs := by rw [hH]; exact hS
  show W p l e (k_rm 0 0) s m [.double p0].toArray below meth c s.heap [] 0 0 _ _
  rw [← hlo, ← hH]
  refine lv_dload_n hx hb dX5_bitsOf_0 rfl (lv_at hl 0 rfl) ?_
  refine lv_dconst0 hx hb dX5_bitsOf_1 ?_
  refine g_dcmp hx hb dX5_bitsOf_2 h (fun x1 h => ?_)
  refine g_if_ne (tgt := 8) hx hb dX5_bitsOf_3 (by decide) h (fun h => ?_) (fun h => ?_)
  · refine lv_dload_n hx hb dX5_bitsOf_8 rfl (lv_at hl 0 rfl) ?_
    refine lv_dstore_n (lv' := [(2, .double p0), (0, .double p0)]) hx hb dX5_bitsOf_9 rfl hl (by decide) rfl (fun ls hl => ?_)
    refine lv_ldc2 hx hb hown (hts _ q1040) dX5_bitsOf_10 ?_
    refine lv_lstore (lv' := [(4, .long 1023), (2, .double p0), (0, .double p0)]) hx hb dX5_bitsOf_13 hl (by decide) rfl (fun ls hl => ?_)
    obtain ⟨K38, hK38, h⟩ := k_j2_e h
    have J38 : ∀ (x2 : UInt64) (x3 : Int64) (H : Heap) (locs : List Loc) (ls : Array Slot), K38 x2 x3 = some r → va_S kF s.heap H locs → lv_has ls 6 [(2, .double x2), (4, .long x3)] → W p l e (k_rm 0 0) s m [.double p0].toArray below meth c H locs 0 0 (MQ below (qRL r) [.double p0].toArray s 0 0 kF) (F0 m 38 ls []) := by
      intro x2 x3 H locs ls h hS hl
      have h := k_a2 hK38 h
      obtain ⟨K59, hK59, h⟩ := k_j2_e h
      have J59 : ∀ (x4 : UInt64) (x5 : Int64) (H : Heap) (locs : List Loc) (ls : Array Slot), K59 x4 x5 = some r → va_S kF s.heap H locs → lv_has ls 6 [(2, .double x4), (4, .long x5)] → W p l e (k_rm 0 0) s m [.double p0].toArray below meth c H locs 0 0 (MQ below (qRL r) [.double p0].toArray s 0 0 kF) (F0 m 59 ls []) := by
        intro x4 x5 H locs ls h hS hl
        have h := k_a2 hK59 h
        refine lv_lload hx hb dX5_bitsOf_59 (lv_at hl 1 rfl) ?_
        refine lv_bipush (v := 52) hx hb dX5_bitsOf_61 (by decide) ?_
        refine g_lshl hx hb dX5_bitsOf_63 h (fun x6 h => ?_)
        refine lv_dload_n hx hb dX5_bitsOf_64 rfl (lv_at hl 0 rfl) ?_
        refine lv_ldc2d hx hb hown (hts _ q1042) dX5_bitsOf_65 ?_
        refine g_dmul hx hb dX5_bitsOf_68 h (fun x7 h => ?_)
        refine g_d2l hx hb dX5_bitsOf_69 h (fun x8 h => ?_)
        refine g_ladd hx hb dX5_bitsOf_70 h (fun x9 h => ?_)
        refine lv_ldc2 hx hb hown (hts _ q1043) dX5_bitsOf_71 ?_
        refine g_lsub hx hb dX5_bitsOf_74 h (fun x10 h => ?_)
        exact g_retRL hx hb hr hlk hS h dX5_bitsOf_75
      obtain ⟨S38, hS38⟩ : ∃ z, z = (fX5_bitsOf_s38 K59) := ⟨_, rfl⟩
      rw [← hS38] at h
      have L38 : ∀ (n : Nat) (x11 : UInt64) (x12 : Int64) (H : Heap) (locs : List Loc) (ls : Array Slot), k_l2 S38 n x11 x12 = some r → va_S kF s.heap H locs → lv_has ls 6 [(2, .double x11), (4, .long x12)] → W p l e (k_rm 0 0) s m [.double p0].toArray below meth c H locs 0 0 (MQ below (qRL r) [.double p0].toArray s 0 0 kF) (F0 m 38 ls []) := by
        intro n
        induction n with
        | zero =>
          intro x11 x12 H locs ls h
          exact (k_l2_0 h).elim
        | succ n ih38 =>
          intro x11 x12 H locs ls h hS hl
          have h := k_l2_s h
          have h := k_a3 hS38 h
          unfold fX5_bitsOf_s38 at h
          refine lv_dload_n hx hb dX5_bitsOf_38 rfl (lv_at hl 0 rfl) ?_
          refine lv_dconst1 hx hb dX5_bitsOf_39 ?_
          refine g_dcmp hx hb dX5_bitsOf_40 h (fun x13 h => ?_)
          refine g_if_ge (tgt := 59) hx hb dX5_bitsOf_41 (by decide) h (fun h => ?_) (fun h => ?_)
          · exact J59 x11 x12 _ _ _ h hS (lv_sub hl [0, 1] rfl)
          · refine lv_dload_n hx hb dX5_bitsOf_44 rfl (lv_at hl 0 rfl) ?_
            refine lv_ldc2d hx hb hown (hts _ q1041) dX5_bitsOf_45 ?_
            refine g_dmul hx hb dX5_bitsOf_48 h (fun x14 h => ?_)
            refine lv_dstore_n (lv' := [(2, .double x14), (4, .long x12)]) hx hb dX5_bitsOf_49 rfl hl (by decide) rfl (fun ls hl => ?_)
            refine lv_lload hx hb dX5_bitsOf_50 (lv_at hl 1 rfl) ?_
            refine lv_lconst (v := 1) hx hb dX5_bitsOf_52 (by decide) ?_
            refine g_lsub hx hb dX5_bitsOf_53 h (fun x15 h => ?_)
            refine lv_lstore (lv' := [(4, .long x15), (2, .double x14)]) hx hb dX5_bitsOf_54 hl (by decide) rfl (fun ls hl => ?_)
            refine lv_goto (tgt := 38) hx hb dX5_bitsOf_56 (by decide) ?_
            exact ih38 x14 x15 _ _ _ h hS (lv_sub hl [1, 0] rfl)
      exact L38 5000 x2 x3 _ _ _ h hS (lv_sub hl [0, 1] rfl)
    obtain ⟨S15, hS15⟩ : ∃ z, z = (fX5_bitsOf_s15 K38) := ⟨_, rfl⟩
    rw [← hS15] at h
    have L15 : ∀ (n : Nat) (x16 : UInt64) (x17 : Int64) (H : Heap) (locs : List Loc) (ls : Array Slot), k_l2 S15 n x16 x17 = some r → va_S kF s.heap H locs → lv_has ls 6 [(2, .double x16), (4, .long x17)] → W p l e (k_rm 0 0) s m [.double p0].toArray below meth c H locs 0 0 (MQ below (qRL r) [.double p0].toArray s 0 0 kF) (F0 m 15 ls []) := by
      intro n
      induction n with
      | zero =>
        intro x16 x17 H locs ls h
        exact (k_l2_0 h).elim
      | succ n ih15 =>
        intro x16 x17 H locs ls h hS hl
        have h := k_l2_s h
        have h := k_a3 hS15 h
        unfold fX5_bitsOf_s15 at h
        refine lv_dload_n hx hb dX5_bitsOf_15 rfl (lv_at hl 0 rfl) ?_
        refine lv_ldc2d hx hb hown (hts _ q1041) dX5_bitsOf_16 ?_
        refine g_dcmp hx hb dX5_bitsOf_19 h (fun x18 h => ?_)
        refine g_if_lt (tgt := 38) hx hb dX5_bitsOf_20 (by decide) h (fun h => ?_) (fun h => ?_)
        · exact J38 x16 x17 _ _ _ h hS (lv_sub hl [0, 1] rfl)
        · refine lv_dload_n hx hb dX5_bitsOf_23 rfl (lv_at hl 0 rfl) ?_
          refine lv_ldc2d hx hb hown (hts _ q1041) dX5_bitsOf_24 ?_
          refine g_ddiv hx hb dX5_bitsOf_27 h (fun x19 h => ?_)
          refine lv_dstore_n (lv' := [(2, .double x19), (4, .long x17)]) hx hb dX5_bitsOf_28 rfl hl (by decide) rfl (fun ls hl => ?_)
          refine lv_lload hx hb dX5_bitsOf_29 (lv_at hl 1 rfl) ?_
          refine lv_lconst (v := 1) hx hb dX5_bitsOf_31 (by decide) ?_
          refine g_ladd hx hb dX5_bitsOf_32 h (fun x20 h => ?_)
          refine lv_lstore (lv' := [(4, .long x20), (2, .double x19)]) hx hb dX5_bitsOf_33 hl (by decide) rfl (fun ls hl => ?_)
          refine lv_goto (tgt := 15) hx hb dX5_bitsOf_35 (by decide) ?_
          exact ih15 x19 x20 _ _ _ h hS (lv_sub hl [1, 0] rfl)
    exact L15 5000 p0 1023 _ _ _ h hS (lv_sub hl [1, 0] rfl)
  · refine lv_lconst (v := 0) hx hb dX5_bitsOf_6 (by decide) ?_
    exact g_retRL hx hb hr hlk hS h dX5_bitsOf_7
def fX5_mix (v_hash : Int64) (p1 : Int64) : Option (Int64) :=
  k_let (31 * v_hash) fun (x1 : Int64) =>
  k_let (x1 + p1) fun (x2 : Int64) =>
  some x2
theorem hdX5_mix : yX5_mix.cls = RX5 ∧ yX5_mix.cls ≠ "java/lang/invoke/MethodHandle" ∧ yX5_mix.cls ≠ "java/lang/invoke/VarHandle" ∧ (parseMethodDescriptor yX5_mix.desc).map (fun d => d.parameters.length) = some 1 := by decide +kernel
set_option maxRecDepth 100000 in
set_option maxHeartbeats 4000000 in
theorem mX5_mix (l : Launch) (dC : Nat → ClassId) (dI : Nat → Nat → Nat) (cyI cyC cyO : ClassId) (ob a1 a2 a3 a4 a5 a6 a7 a8 : Nat) (v_thrown : Int32) (v_z : Nat → Int32) (v_saved : Nat → Int32) (v_savedMany : Int32) (v_spare : Nat → Int32) (v_buffer : Nat → Int32) (v_typed : Int32) (v_marksBlown : Int32) (v_rests : Nat → Int32) (v_begins : Nat → Int32) (v_orders : Nat → Int32) (v_orderMany : Int32) (v_spot : Int32) (v_wrong : Int32) (v_isShort : Int32) (v_before : Nat → Int32) (v_hash : Int64) (p1 : Int64) {r_hash : Int64} (hf : fX5_mix v_hash p1 = some r_hash) : MetMV l yX5_mix cX5_mix 3 none 0 0 [.ref ob, .long p1] (dC, dI) (tyS cyI cyC cyO) (wX5 cyI cyC ob a1 a2 a3 a4 a5 a6 a7 a8 v_thrown v_z v_saved v_savedMany v_spare v_buffer v_typed v_marksBlown v_rests v_begins v_orders v_orderMany v_spot v_wrong v_isShort v_before v_hash) (wX5 cyI cyC ob a1 a2 a3 a4 a5 a6 a7 a8 v_thrown v_z v_saved v_savedMany v_spare v_buffer v_typed v_marksBlown v_rests v_begins v_orders v_orderMany v_spot v_wrong v_isShort v_before r_hash) := by
  refine metMV_of (by decide) (Nat.le_of_ble_eq_true rfl) ?_
  intro p e s m below meth c ls hC hr hlk hP hK hD hl
  have hC : CallFix p m c cX5_mix 3 s [.ref ob, .long p1].toArray wA RX5 := hC
  obtain ⟨hx, hb, hml, hown, hts⟩ := id hC
  have hS : va_S (k_A (wX5 cyI cyC ob a1 a2 a3 a4 a5 a6 a7 a8 v_thrown v_z v_saved v_savedMany v_spare v_buffer v_typed v_marksBlown v_rests v_begins v_orders v_orderMany v_spot v_wrong v_isShort v_before v_hash)) s.heap s.heap [] := va_S.rf
  have hl : lv_has ls 3 [(0, .ref ob), (1, .long p1)] := hl
  have h := hf
  unfold fX5_mix at h
  obtain ⟨H, hH⟩ : ∃ H, H = s.heap := ⟨_, rfl⟩
  obtain ⟨locs, hlo⟩ : ∃ locs : List Loc, locs = [] := ⟨_, rfl⟩
  rw [← hH] at hP
  rw [← hlo] at hS
  have hS : va_S (k_A (wX5 cyI cyC ob a1 a2 a3 a4 a5 a6 a7 a8 v_thrown v_z v_saved v_savedMany v_spare v_buffer v_typed v_marksBlown v_rests v_begins v_orders v_orderMany v_spot v_wrong v_isShort v_before v_hash)) s.heap H locs := by rw [hH]; exact hS
  show W p l e (k_rm 0 0) s m [.ref ob, .long p1].toArray below meth c s.heap [] 0 0 _ _
  rw [← hlo, ← hH]
  refine lv_aload_n hx hb dX5_mix_0 rfl (lv_at hl 0 rfl) ?_
  refine lv_ldc2 hx hb hown (hts _ q1030) dX5_mix_1 ?_
  refine lv_aload_n hx hb dX5_mix_4 rfl (lv_at hl 0 rfl) ?_
  refine va_get (D := (dC, dI)) (ci := 4) (v := .long v_hash) (C := RX5) (T := TX5) (N := 17) hx hb hts iaX5 hown hK hP 0 rfl rfl 16 (by decide) (hts _ q732) (fun _ h9 => h9) rfl dX5_mix_5 ?_
  refine g_lmul hx hb dX5_mix_8 h (fun x1 h => ?_)
  refine lv_lload_n hx hb dX5_mix_9 rfl (lv_at hl 1 rfl) ?_
  refine g_ladd hx hb dX5_mix_10 h (fun x2 h => ?_)
  refine va_put (D := (dC, dI)) (ci := 4) (v := .long x2) (ty := .long) (C := RX5) (T := TX5) (N := 17) hx hb hts iaX5 tyX5 tyX5_ok nmX5 hown hK hP hD hS 0 rfl rfl 16 (by decide) (hts _ q732) (fun _ h9 => h9) rfl (by decide +kernel) rfl rfl (Nat.le_of_ble_eq_true rfl) dX5_mix_11 (fun H locs hP _ hS => ?_)
  have hP : va_P (dC, dI) vwCl (wX5 cyI cyC ob a1 a2 a3 a4 a5 a6 a7 a8 v_thrown v_z v_saved v_savedMany v_spare v_buffer v_typed v_marksBlown v_rests v_begins v_orders v_orderMany v_spot v_wrong v_isShort v_before x2) H := hP
  have hD : va_D (k_A (wX5 cyI cyC ob a1 a2 a3 a4 a5 a6 a7 a8 v_thrown v_z v_saved v_savedMany v_spare v_buffer v_typed v_marksBlown v_rests v_begins v_orders v_orderMany v_spot v_wrong v_isShort v_before v_hash)) (wX5 cyI cyC ob a1 a2 a3 a4 a5 a6 a7 a8 v_thrown v_z v_saved v_savedMany v_spare v_buffer v_typed v_marksBlown v_rests v_begins v_orders v_orderMany v_spot v_wrong v_isShort v_before x2) := k_Dm hD rfl
  have e0 := k_t1 h
  exact g_retMV hx hb hr hlk hS (by rw [← e0]; exact hP) dX5_mix_14
def fX5_mixRow_s27 (v_z : Nat → Int32) (p1 : Int32) (rec27 : Int32 → Int64 → Option (Int64)) (x2 : Int32) (c3 : Int64) : Option (Int64) :=
  k_if (16 ≤ x2)
  (
    some c3)
  (
    k_b1 (fX5_strength v_z p1 x2) fun (x4 : Int32) =>
    k_let (x4.toInt64) fun (x5 : Int64) =>
    k_b1 (fX5_mix c3 x5) fun (c6 : Int64) =>
    k_let (x2 + 1) fun (x7 : Int32) =>
    rec27 x7 c6)
def fX5_mixRow_s2 (K25 : Int64 → Option (Int64)) (v_z : Nat → Int32) (p1 : Int32) (rec2 : Int32 → Int64 → Option (Int64)) (x8 : Int32) (c9 : Int64) : Option (Int64) :=
  k_if (8 < x8)
  (
    K25 c9)
  (
    k_b1 (fX5_toldRow v_z p1 x8) fun (x10 : Int32) =>
    k_let (x10.toInt64) fun (x11 : Int64) =>
    k_b1 (fX5_mix c9 x11) fun (c12 : Int64) =>
    k_let (x8 + 1) fun (x13 : Int32) =>
    rec2 x13 c12)
def fX5_mixRow (v_z : Nat → Int32) (v_hash : Int64) (p1 : Int32) : Option (Int64) :=
  k_j1
  (fun (c1 : Int64) =>
    k_l2 (fX5_mixRow_s27 v_z p1) 5000 0 c1)
  (fun K25 =>
  k_l2 (fX5_mixRow_s2 K25 v_z p1) 5000 0 v_hash)
theorem hdX5_mixRow : yX5_mixRow.cls = RX5 ∧ yX5_mixRow.cls ≠ "java/lang/invoke/MethodHandle" ∧ yX5_mixRow.cls ≠ "java/lang/invoke/VarHandle" ∧ (parseMethodDescriptor yX5_mixRow.desc).map (fun d => d.parameters.length) = some 1 := by decide +kernel
set_option maxRecDepth 100000 in
set_option maxHeartbeats 4000000 in
theorem mX5_mixRow (l : Launch) (dC : Nat → ClassId) (dI : Nat → Nat → Nat) (cyI cyC cyO : ClassId) (ob a1 a2 a3 a4 a5 a6 a7 a8 : Nat) (v_thrown : Int32) (v_z : Nat → Int32) (v_saved : Nat → Int32) (v_savedMany : Int32) (v_spare : Nat → Int32) (v_buffer : Nat → Int32) (v_typed : Int32) (v_marksBlown : Int32) (v_rests : Nat → Int32) (v_begins : Nat → Int32) (v_orders : Nat → Int32) (v_orderMany : Int32) (v_spot : Int32) (v_wrong : Int32) (v_isShort : Int32) (v_before : Nat → Int32) (v_hash : Int64) (p1 : Int32) {r_hash : Int64} (hf : fX5_mixRow v_z v_hash p1 = some r_hash) : MetMV l yX5_mixRow cX5_mixRow 3 none 7 161 [.ref ob, .int p1] (dC, dI) (tyS cyI cyC cyO) (wX5 cyI cyC ob a1 a2 a3 a4 a5 a6 a7 a8 v_thrown v_z v_saved v_savedMany v_spare v_buffer v_typed v_marksBlown v_rests v_begins v_orders v_orderMany v_spot v_wrong v_isShort v_before v_hash) (wX5 cyI cyC ob a1 a2 a3 a4 a5 a6 a7 a8 v_thrown v_z v_saved v_savedMany v_spare v_buffer v_typed v_marksBlown v_rests v_begins v_orders v_orderMany v_spot v_wrong v_isShort v_before r_hash) := by
  refine metMV_of (by decide) (Nat.le_of_ble_eq_true rfl) ?_
  intro p e s m below meth c ls hC hr hlk hP hK hD hl
  have hC : CallFix p m c cX5_mixRow 3 s [.ref ob, .int p1].toArray wA RX5 := hC
  obtain ⟨hx, hb, hml, hown, hts⟩ := id hC
  have hS : va_S (k_A (wX5 cyI cyC ob a1 a2 a3 a4 a5 a6 a7 a8 v_thrown v_z v_saved v_savedMany v_spare v_buffer v_typed v_marksBlown v_rests v_begins v_orders v_orderMany v_spot v_wrong v_isShort v_before v_hash)) s.heap s.heap [] := va_S.rf
  have hl : lv_has ls 3 [(0, .ref ob), (1, .int p1)] := hl
  have h := hf
  unfold fX5_mixRow at h
  obtain ⟨H, hH⟩ : ∃ H, H = s.heap := ⟨_, rfl⟩
  obtain ⟨locs, hlo⟩ : ∃ locs : List Loc, locs = [] := ⟨_, rfl⟩
  rw [← hH] at hP
  rw [← hlo] at hS
  have hS : va_S (k_A (wX5 cyI cyC ob a1 a2 a3 a4 a5 a6 a7 a8 v_thrown v_z v_saved v_savedMany v_spare v_buffer v_typed v_marksBlown v_rests v_begins v_orders v_orderMany v_spot v_wrong v_isShort v_before v_hash)) s.heap H locs := by rw [hH]; exact hS
  show W p l e (k_rm 7 161) s m [.ref ob, .int p1].toArray below meth c s.heap [] 0 0 _ _
  rw [← hlo, ← hH]
  refine lv_iconst (v := 0) hx hb dX5_mixRow_0 (by decide) ?_
  refine lv_istore_n (lv' := [(2, .int 0), (0, .ref ob), (1, .int p1)]) hx hb dX5_mixRow_1 rfl hl (by decide) rfl (fun ls hl => ?_)
  obtain ⟨K25, hK25, h⟩ := k_j1_e h
  have J25 : ∀ (c1 : Int64) (H : Heap) (locs : List Loc) (ls : Array Slot), K25 c1 = some r_hash → va_P (dC, dI) vwCl (wX5 cyI cyC ob a1 a2 a3 a4 a5 a6 a7 a8 v_thrown v_z v_saved v_savedMany v_spare v_buffer v_typed v_marksBlown v_rests v_begins v_orders v_orderMany v_spot v_wrong v_isShort v_before c1) H → va_S (k_A (wX5 cyI cyC ob a1 a2 a3 a4 a5 a6 a7 a8 v_thrown v_z v_saved v_savedMany v_spare v_buffer v_typed v_marksBlown v_rests v_begins v_orders v_orderMany v_spot v_wrong v_isShort v_before v_hash)) s.heap H locs → lv_has ls 3 [(0, .ref ob), (1, .int p1)] → W p l e (k_rm 7 161) s m [.ref ob, .int p1].toArray below meth c H locs 0 0 (MQ below (qMV (dC, dI) (wX5 cyI cyC ob a1 a2 a3 a4 a5 a6 a7 a8 v_thrown v_z v_saved v_savedMany v_spare v_buffer v_typed v_marksBlown v_rests v_begins v_orders v_orderMany v_spot v_wrong v_isShort v_before v_hash) (wX5 cyI cyC ob a1 a2 a3 a4 a5 a6 a7 a8 v_thrown v_z v_saved v_savedMany v_spare v_buffer v_typed v_marksBlown v_rests v_begins v_orders v_orderMany v_spot v_wrong v_isShort v_before r_hash)) [.ref ob, .int p1].toArray s 0 0 (k_A (wX5 cyI cyC ob a1 a2 a3 a4 a5 a6 a7 a8 v_thrown v_z v_saved v_savedMany v_spare v_buffer v_typed v_marksBlown v_rests v_begins v_orders v_orderMany v_spot v_wrong v_isShort v_before v_hash))) (F0 m 25 ls []) := by
    intro c1 H locs ls h hP hS hl
    have hD : va_D (k_A (wX5 cyI cyC ob a1 a2 a3 a4 a5 a6 a7 a8 v_thrown v_z v_saved v_savedMany v_spare v_buffer v_typed v_marksBlown v_rests v_begins v_orders v_orderMany v_spot v_wrong v_isShort v_before v_hash)) (wX5 cyI cyC ob a1 a2 a3 a4 a5 a6 a7 a8 v_thrown v_z v_saved v_savedMany v_spare v_buffer v_typed v_marksBlown v_rests v_begins v_orders v_orderMany v_spot v_wrong v_isShort v_before c1) := k_Dm hD rfl
    have h := k_a1 hK25 h
    refine lv_iconst (v := 0) hx hb dX5_mixRow_25 (by decide) ?_
    refine lv_istore_n (lv' := [(2, .int 0), (0, .ref ob), (1, .int p1)]) hx hb dX5_mixRow_26 rfl hl (by decide) rfl (fun ls hl => ?_)
    obtain ⟨S27, hS27⟩ : ∃ z, z = (fX5_mixRow_s27 v_z p1) := ⟨_, rfl⟩
    rw [← hS27] at h
    have L27 : ∀ (n : Nat) (x2 : Int32) (c3 : Int64) (H : Heap) (locs : List Loc) (ls : Array Slot), k_l2 S27 n x2 c3 = some r_hash → va_P (dC, dI) vwCl (wX5 cyI cyC ob a1 a2 a3 a4 a5 a6 a7 a8 v_thrown v_z v_saved v_savedMany v_spare v_buffer v_typed v_marksBlown v_rests v_begins v_orders v_orderMany v_spot v_wrong v_isShort v_before c3) H → va_S (k_A (wX5 cyI cyC ob a1 a2 a3 a4 a5 a6 a7 a8 v_thrown v_z v_saved v_savedMany v_spare v_buffer v_typed v_marksBlown v_rests v_begins v_orders v_orderMany v_spot v_wrong v_isShort v_before v_hash)) s.heap H locs → lv_has ls 3 [(0, .ref ob), (1, .int p1), (2, .int x2)] → W p l e (k_rm 7 161) s m [.ref ob, .int p1].toArray below meth c H locs 0 0 (MQ below (qMV (dC, dI) (wX5 cyI cyC ob a1 a2 a3 a4 a5 a6 a7 a8 v_thrown v_z v_saved v_savedMany v_spare v_buffer v_typed v_marksBlown v_rests v_begins v_orders v_orderMany v_spot v_wrong v_isShort v_before v_hash) (wX5 cyI cyC ob a1 a2 a3 a4 a5 a6 a7 a8 v_thrown v_z v_saved v_savedMany v_spare v_buffer v_typed v_marksBlown v_rests v_begins v_orders v_orderMany v_spot v_wrong v_isShort v_before r_hash)) [.ref ob, .int p1].toArray s 0 0 (k_A (wX5 cyI cyC ob a1 a2 a3 a4 a5 a6 a7 a8 v_thrown v_z v_saved v_savedMany v_spare v_buffer v_typed v_marksBlown v_rests v_begins v_orders v_orderMany v_spot v_wrong v_isShort v_before v_hash))) (F0 m 27 ls []) := by
      intro n
      induction n with
      | zero =>
        intro x2 c3 H locs ls h
        exact (k_l2_0 h).elim
      | succ n ih27 =>
        intro x2 c3 H locs ls h hP hS hl
        have hD : va_D (k_A (wX5 cyI cyC ob a1 a2 a3 a4 a5 a6 a7 a8 v_thrown v_z v_saved v_savedMany v_spare v_buffer v_typed v_marksBlown v_rests v_begins v_orders v_orderMany v_spot v_wrong v_isShort v_before v_hash)) (wX5 cyI cyC ob a1 a2 a3 a4 a5 a6 a7 a8 v_thrown v_z v_saved v_savedMany v_spare v_buffer v_typed v_marksBlown v_rests v_begins v_orders v_orderMany v_spot v_wrong v_isShort v_before c3) := k_Dm hD rfl
        have h := k_l2_s h
        have h := k_a3 hS27 h
        unfold fX5_mixRow_s27 at h
        refine lv_iload_n hx hb dX5_mixRow_27 rfl (lv_at hl 2 rfl) ?_
        refine lv_bipush (v := 16) hx hb dX5_mixRow_28 (by decide) ?_
        refine g_icmp_ge (tgt := 50) hx hb dX5_mixRow_30 (by decide) h (fun h => ?_) (fun h => ?_)
        · have e0 := k_t1 h
          exact g_retMV hx hb hr hlk hS (by rw [← e0]; exact hP) dX5_mixRow_50
        · refine lv_aload_n hx hb dX5_mixRow_33 rfl (lv_at hl 0 rfl) ?_
          refine lv_aload_n hx hb dX5_mixRow_34 rfl (lv_at hl 0 rfl) ?_
          refine lv_iload_n hx hb dX5_mixRow_35 rfl (lv_at hl 1 rfl) ?_
          refine lv_iload_n hx hb dX5_mixRow_36 rfl (lv_at hl 2 rfl) ?_
          obtain ⟨x4, hc37, h⟩ := k_b1_e h
          refine g_callRI_V (As := [.int p1, .int x2]) (rest := [.ref ob]) hC (mX5_strength l dC dI cyI cyC cyO ob a1 a2 a3 a4 a5 a6 a7 a8 v_thrown v_z v_saved v_savedMany v_spare v_buffer v_typed v_marksBlown v_rests v_begins v_orders v_orderMany v_spot v_wrong v_isShort v_before c3 p1 x2 hc37) q760 q761 q17 q75 q762 2 hdX5_strength ⟨Nat.le_of_ble_eq_true rfl, Nat.le_of_ble_eq_true rfl⟩ ⟨Nat.le_of_ble_eq_true rfl, Nat.le_of_ble_eq_true rfl⟩ rfl rfl hl.1 (Nat.le_of_ble_eq_true rfl) hP hK (va_recv hK hP (ci := 4) (q0 := 0) rfl rfl) hS dX5_mixRow_37 (fun H locs hk hS => ?_)
          have hP := k_kept hP hk
          refine g_i2l hx hb dX5_mixRow_40 h (fun x5 h => ?_)
          obtain ⟨c6, hc41, h⟩ := k_b1_e h
          refine g_callMV_V (As := [.long x5]) (rest := []) hC (mX5_mix l dC dI cyI cyC cyO ob a1 a2 a3 a4 a5 a6 a7 a8 v_thrown v_z v_saved v_savedMany v_spare v_buffer v_typed v_marksBlown v_rests v_begins v_orders v_orderMany v_spot v_wrong v_isShort v_before c3 x5 hc41) q1027 q1028 q67 q75 q1029 1 hdX5_mix ⟨Nat.le_of_ble_eq_true rfl, Nat.le_of_ble_eq_true rfl⟩ ⟨Nat.le_of_ble_eq_true rfl, Nat.le_of_ble_eq_true rfl⟩ rfl rfl hl.1 (Nat.le_of_ble_eq_true rfl) hP hK hD (va_recv hK hP (ci := 4) (q0 := 0) rfl rfl) hS dX5_mixRow_41 (fun H locs hPn hk hS => ?_)
          have hP : va_P (dC, dI) vwCl (wX5 cyI cyC ob a1 a2 a3 a4 a5 a6 a7 a8 v_thrown v_z v_saved v_savedMany v_spare v_buffer v_typed v_marksBlown v_rests v_begins v_orders v_orderMany v_spot v_wrong v_isShort v_before c6) H := hPn
          have hD : va_D (k_A (wX5 cyI cyC ob a1 a2 a3 a4 a5 a6 a7 a8 v_thrown v_z v_saved v_savedMany v_spare v_buffer v_typed v_marksBlown v_rests v_begins v_orders v_orderMany v_spot v_wrong v_isShort v_before v_hash)) (wX5 cyI cyC ob a1 a2 a3 a4 a5 a6 a7 a8 v_thrown v_z v_saved v_savedMany v_spare v_buffer v_typed v_marksBlown v_rests v_begins v_orders v_orderMany v_spot v_wrong v_isShort v_before c6) := k_Dm hD rfl
          refine g_iinc (dv := 1) hx hb dX5_mixRow_44 hl (j := 2) rfl (by decide) (by decide) h (fun x7 ls h hl => ?_)
          have hl : lv_has ls 3 [(2, .int x7), (0, .ref ob), (1, .int p1)] := hl
          refine lv_goto (tgt := 27) hx hb dX5_mixRow_47 (by decide) ?_
          exact ih27 x7 c6 _ _ _ h hP hS (lv_sub hl [1, 2, 0] rfl)
    exact L27 5000 0 c1 _ _ _ h hP hS (lv_sub hl [1, 2, 0] rfl)
  obtain ⟨S2, hS2⟩ : ∃ z, z = (fX5_mixRow_s2 K25 v_z p1) := ⟨_, rfl⟩
  rw [← hS2] at h
  have L2 : ∀ (n : Nat) (x8 : Int32) (c9 : Int64) (H : Heap) (locs : List Loc) (ls : Array Slot), k_l2 S2 n x8 c9 = some r_hash → va_P (dC, dI) vwCl (wX5 cyI cyC ob a1 a2 a3 a4 a5 a6 a7 a8 v_thrown v_z v_saved v_savedMany v_spare v_buffer v_typed v_marksBlown v_rests v_begins v_orders v_orderMany v_spot v_wrong v_isShort v_before c9) H → va_S (k_A (wX5 cyI cyC ob a1 a2 a3 a4 a5 a6 a7 a8 v_thrown v_z v_saved v_savedMany v_spare v_buffer v_typed v_marksBlown v_rests v_begins v_orders v_orderMany v_spot v_wrong v_isShort v_before v_hash)) s.heap H locs → lv_has ls 3 [(0, .ref ob), (1, .int p1), (2, .int x8)] → W p l e (k_rm 7 161) s m [.ref ob, .int p1].toArray below meth c H locs 0 0 (MQ below (qMV (dC, dI) (wX5 cyI cyC ob a1 a2 a3 a4 a5 a6 a7 a8 v_thrown v_z v_saved v_savedMany v_spare v_buffer v_typed v_marksBlown v_rests v_begins v_orders v_orderMany v_spot v_wrong v_isShort v_before v_hash) (wX5 cyI cyC ob a1 a2 a3 a4 a5 a6 a7 a8 v_thrown v_z v_saved v_savedMany v_spare v_buffer v_typed v_marksBlown v_rests v_begins v_orders v_orderMany v_spot v_wrong v_isShort v_before r_hash)) [.ref ob, .int p1].toArray s 0 0 (k_A (wX5 cyI cyC ob a1 a2 a3 a4 a5 a6 a7 a8 v_thrown v_z v_saved v_savedMany v_spare v_buffer v_typed v_marksBlown v_rests v_begins v_orders v_orderMany v_spot v_wrong v_isShort v_before v_hash))) (F0 m 2 ls []) := by
    intro n
    induction n with
    | zero =>
      intro x8 c9 H locs ls h
      exact (k_l2_0 h).elim
    | succ n ih2 =>
      intro x8 c9 H locs ls h hP hS hl
      have hD : va_D (k_A (wX5 cyI cyC ob a1 a2 a3 a4 a5 a6 a7 a8 v_thrown v_z v_saved v_savedMany v_spare v_buffer v_typed v_marksBlown v_rests v_begins v_orders v_orderMany v_spot v_wrong v_isShort v_before v_hash)) (wX5 cyI cyC ob a1 a2 a3 a4 a5 a6 a7 a8 v_thrown v_z v_saved v_savedMany v_spare v_buffer v_typed v_marksBlown v_rests v_begins v_orders v_orderMany v_spot v_wrong v_isShort v_before c9) := k_Dm hD rfl
      have h := k_l2_s h
      have h := k_a3 hS2 h
      unfold fX5_mixRow_s2 at h
      refine lv_iload_n hx hb dX5_mixRow_2 rfl (lv_at hl 2 rfl) ?_
      refine lv_bipush (v := 8) hx hb dX5_mixRow_3 (by decide) ?_
      refine g_icmp_gt (tgt := 25) hx hb dX5_mixRow_5 (by decide) h (fun h => ?_) (fun h => ?_)
      · exact J25 c9 _ _ _ h hP hS (lv_sub hl [0, 1] rfl)
      · refine lv_aload_n hx hb dX5_mixRow_8 rfl (lv_at hl 0 rfl) ?_
        refine lv_aload_n hx hb dX5_mixRow_9 rfl (lv_at hl 0 rfl) ?_
        refine lv_iload_n hx hb dX5_mixRow_10 rfl (lv_at hl 1 rfl) ?_
        refine lv_iload_n hx hb dX5_mixRow_11 rfl (lv_at hl 2 rfl) ?_
        obtain ⟨x10, hc12, h⟩ := k_b1_e h
        refine g_callRI_V (As := [.int p1, .int x8]) (rest := [.ref ob]) hC (mX5_toldRow l dC dI cyI cyC cyO ob a1 a2 a3 a4 a5 a6 a7 a8 v_thrown v_z v_saved v_savedMany v_spare v_buffer v_typed v_marksBlown v_rests v_begins v_orders v_orderMany v_spot v_wrong v_isShort v_before c9 p1 x8 hc12) q911 q912 q42 q75 q913 2 hdX5_toldRow ⟨Nat.le_of_ble_eq_true rfl, Nat.le_of_ble_eq_true rfl⟩ ⟨Nat.le_of_ble_eq_true rfl, Nat.le_of_ble_eq_true rfl⟩ rfl rfl hl.1 (Nat.le_of_ble_eq_true rfl) hP hK (va_recv hK hP (ci := 4) (q0 := 0) rfl rfl) hS dX5_mixRow_12 (fun H locs hk hS => ?_)
        have hP := k_kept hP hk
        refine g_i2l hx hb dX5_mixRow_15 h (fun x11 h => ?_)
        obtain ⟨c12, hc16, h⟩ := k_b1_e h
        refine g_callMV_V (As := [.long x11]) (rest := []) hC (mX5_mix l dC dI cyI cyC cyO ob a1 a2 a3 a4 a5 a6 a7 a8 v_thrown v_z v_saved v_savedMany v_spare v_buffer v_typed v_marksBlown v_rests v_begins v_orders v_orderMany v_spot v_wrong v_isShort v_before c9 x11 hc16) q1027 q1028 q67 q75 q1029 1 hdX5_mix ⟨Nat.le_of_ble_eq_true rfl, Nat.le_of_ble_eq_true rfl⟩ ⟨Nat.le_of_ble_eq_true rfl, Nat.le_of_ble_eq_true rfl⟩ rfl rfl hl.1 (Nat.le_of_ble_eq_true rfl) hP hK hD (va_recv hK hP (ci := 4) (q0 := 0) rfl rfl) hS dX5_mixRow_16 (fun H locs hPn hk hS => ?_)
        have hP : va_P (dC, dI) vwCl (wX5 cyI cyC ob a1 a2 a3 a4 a5 a6 a7 a8 v_thrown v_z v_saved v_savedMany v_spare v_buffer v_typed v_marksBlown v_rests v_begins v_orders v_orderMany v_spot v_wrong v_isShort v_before c12) H := hPn
        have hD : va_D (k_A (wX5 cyI cyC ob a1 a2 a3 a4 a5 a6 a7 a8 v_thrown v_z v_saved v_savedMany v_spare v_buffer v_typed v_marksBlown v_rests v_begins v_orders v_orderMany v_spot v_wrong v_isShort v_before v_hash)) (wX5 cyI cyC ob a1 a2 a3 a4 a5 a6 a7 a8 v_thrown v_z v_saved v_savedMany v_spare v_buffer v_typed v_marksBlown v_rests v_begins v_orders v_orderMany v_spot v_wrong v_isShort v_before c12) := k_Dm hD rfl
        refine g_iinc (dv := 1) hx hb dX5_mixRow_19 hl (j := 2) rfl (by decide) (by decide) h (fun x13 ls h hl => ?_)
        have hl : lv_has ls 3 [(2, .int x13), (0, .ref ob), (1, .int p1)] := hl
        refine lv_goto (tgt := 2) hx hb dX5_mixRow_22 (by decide) ?_
        exact ih2 x13 c12 _ _ _ h hP hS (lv_sub hl [1, 2, 0] rfl)
  exact L2 5000 0 v_hash _ _ _ h hP hS (lv_sub hl [1, 2, 0] rfl)
def fX5_mixKey_s2 (K24 : Int64 → Option (Int64)) (v_z : Nat → Int32) (p1 : Int32) (rec2 : Int32 → Int64 → Option (Int64)) (x8 : Int32) (c9 : Int64) : Option (Int64) :=
  k_if (5 < x8)
  (
    K24 c9)
  (
    k_b1 (fX5_toldKey v_z p1 x8) fun (x10 : Int32) =>
    k_let (x10.toInt64) fun (x11 : Int64) =>
    k_b1 (fX5_mix c9 x11) fun (c12 : Int64) =>
    k_let (x8 + 1) fun (x13 : Int32) =>
    rec2 x13 c12)
def fX5_mixKey (v_z : Nat → Int32) (v_hash : Int64) (p1 : Int32) : Option (Int64) :=
  k_j1
  (fun (c1 : Int64) =>
    k_b1 (fX5_earlier v_z p1 0) fun (x2 : Int32) =>
    k_let (x2.toInt64) fun (x3 : Int64) =>
    k_b1 (fX5_mix c1 x3) fun (c4 : Int64) =>
    k_b1 (fX5_earlier v_z p1 1) fun (x5 : Int32) =>
    k_let (x5.toInt64) fun (x6 : Int64) =>
    k_b1 (fX5_mix c4 x6) fun (c7 : Int64) =>
    some c7)
  (fun K24 =>
  k_l2 (fX5_mixKey_s2 K24 v_z p1) 5000 0 v_hash)
theorem hdX5_mixKey : yX5_mixKey.cls = RX5 ∧ yX5_mixKey.cls ≠ "java/lang/invoke/MethodHandle" ∧ yX5_mixKey.cls ≠ "java/lang/invoke/VarHandle" ∧ (parseMethodDescriptor yX5_mixKey.desc).map (fun d => d.parameters.length) = some 1 := by decide +kernel
set_option maxRecDepth 100000 in
set_option maxHeartbeats 4000000 in
theorem mX5_mixKey (l : Launch) (dC : Nat → ClassId) (dI : Nat → Nat → Nat) (cyI cyC cyO : ClassId) (ob a1 a2 a3 a4 a5 a6 a7 a8 : Nat) (v_thrown : Int32) (v_z : Nat → Int32) (v_saved : Nat → Int32) (v_savedMany : Int32) (v_spare : Nat → Int32) (v_buffer : Nat → Int32) (v_typed : Int32) (v_marksBlown : Int32) (v_rests : Nat → Int32) (v_begins : Nat → Int32) (v_orders : Nat → Int32) (v_orderMany : Int32) (v_spot : Int32) (v_wrong : Int32) (v_isShort : Int32) (v_before : Nat → Int32) (v_hash : Int64) (p1 : Int32) {r_hash : Int64} (hf : fX5_mixKey v_z v_hash p1 = some r_hash) : MetMV l yX5_mixKey cX5_mixKey 3 none 9 213 [.ref ob, .int p1] (dC, dI) (tyS cyI cyC cyO) (wX5 cyI cyC ob a1 a2 a3 a4 a5 a6 a7 a8 v_thrown v_z v_saved v_savedMany v_spare v_buffer v_typed v_marksBlown v_rests v_begins v_orders v_orderMany v_spot v_wrong v_isShort v_before v_hash) (wX5 cyI cyC ob a1 a2 a3 a4 a5 a6 a7 a8 v_thrown v_z v_saved v_savedMany v_spare v_buffer v_typed v_marksBlown v_rests v_begins v_orders v_orderMany v_spot v_wrong v_isShort v_before r_hash) := by
  refine metMV_of (by decide) (Nat.le_of_ble_eq_true rfl) ?_
  intro p e s m below meth c ls hC hr hlk hP hK hD hl
  have hC : CallFix p m c cX5_mixKey 3 s [.ref ob, .int p1].toArray wA RX5 := hC
  obtain ⟨hx, hb, hml, hown, hts⟩ := id hC
  have hS : va_S (k_A (wX5 cyI cyC ob a1 a2 a3 a4 a5 a6 a7 a8 v_thrown v_z v_saved v_savedMany v_spare v_buffer v_typed v_marksBlown v_rests v_begins v_orders v_orderMany v_spot v_wrong v_isShort v_before v_hash)) s.heap s.heap [] := va_S.rf
  have hl : lv_has ls 3 [(0, .ref ob), (1, .int p1)] := hl
  have h := hf
  unfold fX5_mixKey at h
  obtain ⟨H, hH⟩ : ∃ H, H = s.heap := ⟨_, rfl⟩
  obtain ⟨locs, hlo⟩ : ∃ locs : List Loc, locs = [] := ⟨_, rfl⟩
  rw [← hH] at hP
  rw [← hlo] at hS
  have hS : va_S (k_A (wX5 cyI cyC ob a1 a2 a3 a4 a5 a6 a7 a8 v_thrown v_z v_saved v_savedMany v_spare v_buffer v_typed v_marksBlown v_rests v_begins v_orders v_orderMany v_spot v_wrong v_isShort v_before v_hash)) s.heap H locs := by rw [hH]; exact hS
  show W p l e (k_rm 9 213) s m [.ref ob, .int p1].toArray below meth c s.heap [] 0 0 _ _
  rw [← hlo, ← hH]
  refine lv_iconst (v := 0) hx hb dX5_mixKey_0 (by decide) ?_
  refine lv_istore_n (lv' := [(2, .int 0), (0, .ref ob), (1, .int p1)]) hx hb dX5_mixKey_1 rfl hl (by decide) rfl (fun ls hl => ?_)
  obtain ⟨K24, hK24, h⟩ := k_j1_e h
  have J24 : ∀ (c1 : Int64) (H : Heap) (locs : List Loc) (ls : Array Slot), K24 c1 = some r_hash → va_P (dC, dI) vwCl (wX5 cyI cyC ob a1 a2 a3 a4 a5 a6 a7 a8 v_thrown v_z v_saved v_savedMany v_spare v_buffer v_typed v_marksBlown v_rests v_begins v_orders v_orderMany v_spot v_wrong v_isShort v_before c1) H → va_S (k_A (wX5 cyI cyC ob a1 a2 a3 a4 a5 a6 a7 a8 v_thrown v_z v_saved v_savedMany v_spare v_buffer v_typed v_marksBlown v_rests v_begins v_orders v_orderMany v_spot v_wrong v_isShort v_before v_hash)) s.heap H locs → lv_has ls 3 [(0, .ref ob), (1, .int p1)] → W p l e (k_rm 9 213) s m [.ref ob, .int p1].toArray below meth c H locs 0 0 (MQ below (qMV (dC, dI) (wX5 cyI cyC ob a1 a2 a3 a4 a5 a6 a7 a8 v_thrown v_z v_saved v_savedMany v_spare v_buffer v_typed v_marksBlown v_rests v_begins v_orders v_orderMany v_spot v_wrong v_isShort v_before v_hash) (wX5 cyI cyC ob a1 a2 a3 a4 a5 a6 a7 a8 v_thrown v_z v_saved v_savedMany v_spare v_buffer v_typed v_marksBlown v_rests v_begins v_orders v_orderMany v_spot v_wrong v_isShort v_before r_hash)) [.ref ob, .int p1].toArray s 0 0 (k_A (wX5 cyI cyC ob a1 a2 a3 a4 a5 a6 a7 a8 v_thrown v_z v_saved v_savedMany v_spare v_buffer v_typed v_marksBlown v_rests v_begins v_orders v_orderMany v_spot v_wrong v_isShort v_before v_hash))) (F0 m 24 ls []) := by
    intro c1 H locs ls h hP hS hl
    have hD : va_D (k_A (wX5 cyI cyC ob a1 a2 a3 a4 a5 a6 a7 a8 v_thrown v_z v_saved v_savedMany v_spare v_buffer v_typed v_marksBlown v_rests v_begins v_orders v_orderMany v_spot v_wrong v_isShort v_before v_hash)) (wX5 cyI cyC ob a1 a2 a3 a4 a5 a6 a7 a8 v_thrown v_z v_saved v_savedMany v_spare v_buffer v_typed v_marksBlown v_rests v_begins v_orders v_orderMany v_spot v_wrong v_isShort v_before c1) := k_Dm hD rfl
    have h := k_a1 hK24 h
    refine lv_aload_n hx hb dX5_mixKey_24 rfl (lv_at hl 0 rfl) ?_
    refine lv_aload_n hx hb dX5_mixKey_25 rfl (lv_at hl 0 rfl) ?_
    refine lv_iload_n hx hb dX5_mixKey_26 rfl (lv_at hl 1 rfl) ?_
    refine lv_iconst (v := 0) hx hb dX5_mixKey_27 (by decide) ?_
    obtain ⟨x2, hc28, h⟩ := k_b1_e h
    refine g_callRI_V (As := [.int p1, .int 0]) (rest := [.ref ob]) hC (mX5_earlier l dC dI cyI cyC cyO ob a1 a2 a3 a4 a5 a6 a7 a8 v_thrown v_z v_saved v_savedMany v_spare v_buffer v_typed v_marksBlown v_rests v_begins v_orders v_orderMany v_spot v_wrong v_isShort v_before c1 p1 0 hc28) q955 q956 q54 q75 q957 2 hdX5_earlier ⟨Nat.le_of_ble_eq_true rfl, Nat.le_of_ble_eq_true rfl⟩ ⟨Nat.le_of_ble_eq_true rfl, Nat.le_of_ble_eq_true rfl⟩ rfl rfl hl.1 (Nat.le_of_ble_eq_true rfl) hP hK (va_recv hK hP (ci := 4) (q0 := 0) rfl rfl) hS dX5_mixKey_28 (fun H locs hk hS => ?_)
    have hP := k_kept hP hk
    refine g_i2l hx hb dX5_mixKey_31 h (fun x3 h => ?_)
    obtain ⟨c4, hc32, h⟩ := k_b1_e h
    refine g_callMV_V (As := [.long x3]) (rest := []) hC (mX5_mix l dC dI cyI cyC cyO ob a1 a2 a3 a4 a5 a6 a7 a8 v_thrown v_z v_saved v_savedMany v_spare v_buffer v_typed v_marksBlown v_rests v_begins v_orders v_orderMany v_spot v_wrong v_isShort v_before c1 x3 hc32) q1027 q1028 q67 q75 q1029 1 hdX5_mix ⟨Nat.le_of_ble_eq_true rfl, Nat.le_of_ble_eq_true rfl⟩ ⟨Nat.le_of_ble_eq_true rfl, Nat.le_of_ble_eq_true rfl⟩ rfl rfl hl.1 (Nat.le_of_ble_eq_true rfl) hP hK hD (va_recv hK hP (ci := 4) (q0 := 0) rfl rfl) hS dX5_mixKey_32 (fun H locs hPn hk hS => ?_)
    have hP : va_P (dC, dI) vwCl (wX5 cyI cyC ob a1 a2 a3 a4 a5 a6 a7 a8 v_thrown v_z v_saved v_savedMany v_spare v_buffer v_typed v_marksBlown v_rests v_begins v_orders v_orderMany v_spot v_wrong v_isShort v_before c4) H := hPn
    have hD : va_D (k_A (wX5 cyI cyC ob a1 a2 a3 a4 a5 a6 a7 a8 v_thrown v_z v_saved v_savedMany v_spare v_buffer v_typed v_marksBlown v_rests v_begins v_orders v_orderMany v_spot v_wrong v_isShort v_before v_hash)) (wX5 cyI cyC ob a1 a2 a3 a4 a5 a6 a7 a8 v_thrown v_z v_saved v_savedMany v_spare v_buffer v_typed v_marksBlown v_rests v_begins v_orders v_orderMany v_spot v_wrong v_isShort v_before c4) := k_Dm hD rfl
    refine lv_aload_n hx hb dX5_mixKey_35 rfl (lv_at hl 0 rfl) ?_
    refine lv_aload_n hx hb dX5_mixKey_36 rfl (lv_at hl 0 rfl) ?_
    refine lv_iload_n hx hb dX5_mixKey_37 rfl (lv_at hl 1 rfl) ?_
    refine lv_iconst (v := 1) hx hb dX5_mixKey_38 (by decide) ?_
    obtain ⟨x5, hc39, h⟩ := k_b1_e h
    refine g_callRI_V (As := [.int p1, .int 1]) (rest := [.ref ob]) hC (mX5_earlier l dC dI cyI cyC cyO ob a1 a2 a3 a4 a5 a6 a7 a8 v_thrown v_z v_saved v_savedMany v_spare v_buffer v_typed v_marksBlown v_rests v_begins v_orders v_orderMany v_spot v_wrong v_isShort v_before c4 p1 1 hc39) q955 q956 q54 q75 q957 2 hdX5_earlier ⟨Nat.le_of_ble_eq_true rfl, Nat.le_of_ble_eq_true rfl⟩ ⟨Nat.le_of_ble_eq_true rfl, Nat.le_of_ble_eq_true rfl⟩ rfl rfl hl.1 (Nat.le_of_ble_eq_true rfl) hP hK (va_recv hK hP (ci := 4) (q0 := 0) rfl rfl) hS dX5_mixKey_39 (fun H locs hk hS => ?_)
    have hP := k_kept hP hk
    refine g_i2l hx hb dX5_mixKey_42 h (fun x6 h => ?_)
    obtain ⟨c7, hc43, h⟩ := k_b1_e h
    refine g_callMV_V (As := [.long x6]) (rest := []) hC (mX5_mix l dC dI cyI cyC cyO ob a1 a2 a3 a4 a5 a6 a7 a8 v_thrown v_z v_saved v_savedMany v_spare v_buffer v_typed v_marksBlown v_rests v_begins v_orders v_orderMany v_spot v_wrong v_isShort v_before c4 x6 hc43) q1027 q1028 q67 q75 q1029 1 hdX5_mix ⟨Nat.le_of_ble_eq_true rfl, Nat.le_of_ble_eq_true rfl⟩ ⟨Nat.le_of_ble_eq_true rfl, Nat.le_of_ble_eq_true rfl⟩ rfl rfl hl.1 (Nat.le_of_ble_eq_true rfl) hP hK hD (va_recv hK hP (ci := 4) (q0 := 0) rfl rfl) hS dX5_mixKey_43 (fun H locs hPn hk hS => ?_)
    have hP : va_P (dC, dI) vwCl (wX5 cyI cyC ob a1 a2 a3 a4 a5 a6 a7 a8 v_thrown v_z v_saved v_savedMany v_spare v_buffer v_typed v_marksBlown v_rests v_begins v_orders v_orderMany v_spot v_wrong v_isShort v_before c7) H := hPn
    have hD : va_D (k_A (wX5 cyI cyC ob a1 a2 a3 a4 a5 a6 a7 a8 v_thrown v_z v_saved v_savedMany v_spare v_buffer v_typed v_marksBlown v_rests v_begins v_orders v_orderMany v_spot v_wrong v_isShort v_before v_hash)) (wX5 cyI cyC ob a1 a2 a3 a4 a5 a6 a7 a8 v_thrown v_z v_saved v_savedMany v_spare v_buffer v_typed v_marksBlown v_rests v_begins v_orders v_orderMany v_spot v_wrong v_isShort v_before c7) := k_Dm hD rfl
    have e0 := k_t1 h
    exact g_retMV hx hb hr hlk hS (by rw [← e0]; exact hP) dX5_mixKey_46
  obtain ⟨S2, hS2⟩ : ∃ z, z = (fX5_mixKey_s2 K24 v_z p1) := ⟨_, rfl⟩
  rw [← hS2] at h
  have L2 : ∀ (n : Nat) (x8 : Int32) (c9 : Int64) (H : Heap) (locs : List Loc) (ls : Array Slot), k_l2 S2 n x8 c9 = some r_hash → va_P (dC, dI) vwCl (wX5 cyI cyC ob a1 a2 a3 a4 a5 a6 a7 a8 v_thrown v_z v_saved v_savedMany v_spare v_buffer v_typed v_marksBlown v_rests v_begins v_orders v_orderMany v_spot v_wrong v_isShort v_before c9) H → va_S (k_A (wX5 cyI cyC ob a1 a2 a3 a4 a5 a6 a7 a8 v_thrown v_z v_saved v_savedMany v_spare v_buffer v_typed v_marksBlown v_rests v_begins v_orders v_orderMany v_spot v_wrong v_isShort v_before v_hash)) s.heap H locs → lv_has ls 3 [(0, .ref ob), (1, .int p1), (2, .int x8)] → W p l e (k_rm 9 213) s m [.ref ob, .int p1].toArray below meth c H locs 0 0 (MQ below (qMV (dC, dI) (wX5 cyI cyC ob a1 a2 a3 a4 a5 a6 a7 a8 v_thrown v_z v_saved v_savedMany v_spare v_buffer v_typed v_marksBlown v_rests v_begins v_orders v_orderMany v_spot v_wrong v_isShort v_before v_hash) (wX5 cyI cyC ob a1 a2 a3 a4 a5 a6 a7 a8 v_thrown v_z v_saved v_savedMany v_spare v_buffer v_typed v_marksBlown v_rests v_begins v_orders v_orderMany v_spot v_wrong v_isShort v_before r_hash)) [.ref ob, .int p1].toArray s 0 0 (k_A (wX5 cyI cyC ob a1 a2 a3 a4 a5 a6 a7 a8 v_thrown v_z v_saved v_savedMany v_spare v_buffer v_typed v_marksBlown v_rests v_begins v_orders v_orderMany v_spot v_wrong v_isShort v_before v_hash))) (F0 m 2 ls []) := by
    intro n
    induction n with
    | zero =>
      intro x8 c9 H locs ls h
      exact (k_l2_0 h).elim
    | succ n ih2 =>
      intro x8 c9 H locs ls h hP hS hl
      have hD : va_D (k_A (wX5 cyI cyC ob a1 a2 a3 a4 a5 a6 a7 a8 v_thrown v_z v_saved v_savedMany v_spare v_buffer v_typed v_marksBlown v_rests v_begins v_orders v_orderMany v_spot v_wrong v_isShort v_before v_hash)) (wX5 cyI cyC ob a1 a2 a3 a4 a5 a6 a7 a8 v_thrown v_z v_saved v_savedMany v_spare v_buffer v_typed v_marksBlown v_rests v_begins v_orders v_orderMany v_spot v_wrong v_isShort v_before c9) := k_Dm hD rfl
      have h := k_l2_s h
      have h := k_a3 hS2 h
      unfold fX5_mixKey_s2 at h
      refine lv_iload_n hx hb dX5_mixKey_2 rfl (lv_at hl 2 rfl) ?_
      refine lv_iconst (v := 5) hx hb dX5_mixKey_3 (by decide) ?_
      refine g_icmp_gt (tgt := 24) hx hb dX5_mixKey_4 (by decide) h (fun h => ?_) (fun h => ?_)
      · exact J24 c9 _ _ _ h hP hS (lv_sub hl [0, 1] rfl)
      · refine lv_aload_n hx hb dX5_mixKey_7 rfl (lv_at hl 0 rfl) ?_
        refine lv_aload_n hx hb dX5_mixKey_8 rfl (lv_at hl 0 rfl) ?_
        refine lv_iload_n hx hb dX5_mixKey_9 rfl (lv_at hl 1 rfl) ?_
        refine lv_iload_n hx hb dX5_mixKey_10 rfl (lv_at hl 2 rfl) ?_
        obtain ⟨x10, hc11, h⟩ := k_b1_e h
        refine g_callRI_V (As := [.int p1, .int x8]) (rest := [.ref ob]) hC (mX5_toldKey l dC dI cyI cyC cyO ob a1 a2 a3 a4 a5 a6 a7 a8 v_thrown v_z v_saved v_savedMany v_spare v_buffer v_typed v_marksBlown v_rests v_begins v_orders v_orderMany v_spot v_wrong v_isShort v_before c9 p1 x8 hc11) q924 q925 q45 q75 q926 2 hdX5_toldKey ⟨Nat.le_of_ble_eq_true rfl, Nat.le_of_ble_eq_true rfl⟩ ⟨Nat.le_of_ble_eq_true rfl, Nat.le_of_ble_eq_true rfl⟩ rfl rfl hl.1 (Nat.le_of_ble_eq_true rfl) hP hK (va_recv hK hP (ci := 4) (q0 := 0) rfl rfl) hS dX5_mixKey_11 (fun H locs hk hS => ?_)
        have hP := k_kept hP hk
        refine g_i2l hx hb dX5_mixKey_14 h (fun x11 h => ?_)
        obtain ⟨c12, hc15, h⟩ := k_b1_e h
        refine g_callMV_V (As := [.long x11]) (rest := []) hC (mX5_mix l dC dI cyI cyC cyO ob a1 a2 a3 a4 a5 a6 a7 a8 v_thrown v_z v_saved v_savedMany v_spare v_buffer v_typed v_marksBlown v_rests v_begins v_orders v_orderMany v_spot v_wrong v_isShort v_before c9 x11 hc15) q1027 q1028 q67 q75 q1029 1 hdX5_mix ⟨Nat.le_of_ble_eq_true rfl, Nat.le_of_ble_eq_true rfl⟩ ⟨Nat.le_of_ble_eq_true rfl, Nat.le_of_ble_eq_true rfl⟩ rfl rfl hl.1 (Nat.le_of_ble_eq_true rfl) hP hK hD (va_recv hK hP (ci := 4) (q0 := 0) rfl rfl) hS dX5_mixKey_15 (fun H locs hPn hk hS => ?_)
        have hP : va_P (dC, dI) vwCl (wX5 cyI cyC ob a1 a2 a3 a4 a5 a6 a7 a8 v_thrown v_z v_saved v_savedMany v_spare v_buffer v_typed v_marksBlown v_rests v_begins v_orders v_orderMany v_spot v_wrong v_isShort v_before c12) H := hPn
        have hD : va_D (k_A (wX5 cyI cyC ob a1 a2 a3 a4 a5 a6 a7 a8 v_thrown v_z v_saved v_savedMany v_spare v_buffer v_typed v_marksBlown v_rests v_begins v_orders v_orderMany v_spot v_wrong v_isShort v_before v_hash)) (wX5 cyI cyC ob a1 a2 a3 a4 a5 a6 a7 a8 v_thrown v_z v_saved v_savedMany v_spare v_buffer v_typed v_marksBlown v_rests v_begins v_orders v_orderMany v_spot v_wrong v_isShort v_before c12) := k_Dm hD rfl
        refine g_iinc (dv := 1) hx hb dX5_mixKey_18 hl (j := 2) rfl (by decide) (by decide) h (fun x13 ls h hl => ?_)
        have hl : lv_has ls 3 [(2, .int x13), (0, .ref ob), (1, .int p1)] := hl
        refine lv_goto (tgt := 2) hx hb dX5_mixKey_21 (by decide) ?_
        exact ih2 x13 c12 _ _ _ h hP hS (lv_sub hl [1, 2, 0] rfl)
  exact L2 5000 0 v_hash _ _ _ h hP hS (lv_sub hl [1, 2, 0] rfl)
def fX5_digest_s203 (v_typed : Int32) (c9 : Nat → Int32) (c10 : Nat → Int32) (c7 : Int32) (c11 : Nat → Int32) (v_buffer : Nat → Int32) (rec203 : Int32 → Int64 → Option (Int64 × Int32 × (Nat → Int32) × (Nat → Int32) × Int32 × (Nat → Int32) × Int64)) (x27 : Int32) (c28 : Int64) : Option (Int64 × Int32 × (Nat → Int32) × (Nat → Int32) × Int32 × (Nat → Int32) × Int64) :=
  k_if (v_typed ≤ x27)
  (
    some (c28, 0, c9, c10, c7, c11, c28))
  (
    k_ck x27 60 <| k_let (v_buffer x27.toNatClampNeg) fun (x29 : Int32) =>
    k_let (x29.toInt64) fun (x30 : Int64) =>
    k_b1 (fX5_mix c28 x30) fun (c31 : Int64) =>
    k_let (x27 + 1) fun (x32 : Int32) =>
    rec203 x32 c31)
def fX5_digest_s127 (K150 : (Nat → Int32) → (Nat → Int32) → (Nat → Int32) → Int64 → Option (Int64 × Int32 × (Nat → Int32) × (Nat → Int32) × Int32 × (Nat → Int32) × Int64)) (rec127 : Int32 → (Nat → Int32) → (Nat → Int32) → (Nat → Int32) → Int64 → Option (Int64 × Int32 × (Nat → Int32) × (Nat → Int32) × Int32 × (Nat → Int32) × Int64)) (x33 : Int32) (c34 : Nat → Int32) (c35 : Nat → Int32) (c36 : Nat → Int32) (c37 : Int64) : Option (Int64 × Int32 × (Nat → Int32) × (Nat → Int32) × Int32 × (Nat → Int32) × Int64) :=
  k_if (2 < x33)
  (
    K150 c34 c35 c36 c37)
  (
    k_b4 (fX5_wouldHeat c34 c35 c36 6 x33) fun (x38 : Int32) (c39 : Nat → Int32) (c40 : Nat → Int32) (c41 : Nat → Int32) =>
    k_let (x38.toInt64) fun (x42 : Int64) =>
    k_b1 (fX5_mix c37 x42) fun (c43 : Int64) =>
    k_let (x33 + 1) fun (x44 : Int32) =>
    rec127 x44 c39 c40 c41 c43)
def fX5_digest_s102 (K125 : (Nat → Int32) → (Nat → Int32) → Int32 → Int64 → Option (Int64 × Int32 × (Nat → Int32) × (Nat → Int32) × Int32 × (Nat → Int32) × Int64)) (rec102 : Int32 → (Nat → Int32) → (Nat → Int32) → Int32 → Int64 → Option (Int64 × Int32 × (Nat → Int32) × (Nat → Int32) × Int32 × (Nat → Int32) × Int64)) (x45 : Int32) (c46 : Nat → Int32) (c47 : Nat → Int32) (c48 : Int32) (c49 : Int64) : Option (Int64 × Int32 × (Nat → Int32) × (Nat → Int32) × Int32 × (Nat → Int32) × Int64) :=
  k_if (4 < x45)
  (
    K125 c46 c47 c48 c49)
  (
    k_b4 (fX5_wouldPut c46 c47 c48 3 5 x45) fun (x50 : Int32) (c51 : Nat → Int32) (c52 : Nat → Int32) (c53 : Int32) =>
    k_let (x50.toInt64) fun (x54 : Int64) =>
    k_b1 (fX5_mix c49 x54) fun (c55 : Int64) =>
    k_let (x45 + 1) fun (x56 : Int32) =>
    rec102 x56 c51 c52 c53 c55)
def fX5_digest_s83 (K100 : Int64 → Option (Int64 × Int32 × (Nat → Int32) × (Nat → Int32) × Int32 × (Nat → Int32) × Int64)) (v_z : Nat → Int32) (rec83 : Int32 → Int64 → Option (Int64 × Int32 × (Nat → Int32) × (Nat → Int32) × Int32 × (Nat → Int32) × Int64)) (x57 : Int32) (c58 : Int64) : Option (Int64 × Int32 × (Nat → Int32) × (Nat → Int32) × Int32 × (Nat → Int32) × Int64) :=
  k_if (16 ≤ x57)
  (
    K100 c58)
  (
    k_b1 (fX5_mixKey v_z c58 x57) fun (c59 : Int64) =>
    k_let (x57 + 1) fun (x60 : Int32) =>
    rec83 x60 c59)
def fX5_digest_s64 (K81 : Int64 → Option (Int64 × Int32 × (Nat → Int32) × (Nat → Int32) × Int32 × (Nat → Int32) × Int64)) (v_z : Nat → Int32) (rec64 : Int32 → Int64 → Option (Int64 × Int32 × (Nat → Int32) × (Nat → Int32) × Int32 × (Nat → Int32) × Int64)) (x61 : Int32) (c62 : Int64) : Option (Int64 × Int32 × (Nat → Int32) × (Nat → Int32) × Int32 × (Nat → Int32) × Int64) :=
  k_if (20 ≤ x61)
  (
    K81 c62)
  (
    k_b1 (fX5_mixRow v_z c62 x61) fun (c63 : Int64) =>
    k_let (x61 + 1) fun (x64 : Int32) =>
    rec64 x64 c63)
def fX5_digest_s38 (K62 : Int64 → Option (Int64 × Int32 × (Nat → Int32) × (Nat → Int32) × Int32 × (Nat → Int32) × Int64)) (v_z : Nat → Int32) (rec38 : Int32 → Int64 → Option (Int64 × Int32 × (Nat → Int32) × (Nat → Int32) × Int32 × (Nat → Int32) × Int64)) (x65 : Int32) (c66 : Int64) : Option (Int64 × Int32 × (Nat → Int32) × (Nat → Int32) × Int32 × (Nat → Int32) × Int64) :=
  k_if (4 ≤ x65)
  (
    K62 c66)
  (
    k_let (3 + x65) fun (x67 : Int32) =>
    k_ck x67 327 <| k_let (v_z x67.toNatClampNeg) fun (x68 : Int32) =>
    k_let (x68.toInt64) fun (x69 : Int64) =>
    k_b1 (fX5_mix c66 x69) fun (c70 : Int64) =>
    k_let (x65 + 1) fun (x71 : Int32) =>
    rec38 x71 c70)
def fX5_digest_s14 (K36 : Int64 → Option (Int64 × Int32 × (Nat → Int32) × (Nat → Int32) × Int32 × (Nat → Int32) × Int64)) (v_z : Nat → Int32) (v_savedMany : Int32) (rec14 : Int32 → Int64 → Option (Int64 × Int32 × (Nat → Int32) × (Nat → Int32) × Int32 × (Nat → Int32) × Int64)) (x72 : Int32) (c73 : Int64) : Option (Int64 × Int32 × (Nat → Int32) × (Nat → Int32) × Int32 × (Nat → Int32) × Int64) :=
  k_if (12 < x72)
  (
    K36 c73)
  (
    k_b1 (fX5_counted v_z v_savedMany x72) fun (x74 : Int32) =>
    k_let (x74.toInt64) fun (x75 : Int64) =>
    k_b1 (fX5_mix c73 x75) fun (c76 : Int64) =>
    k_let (x72 + 1) fun (x77 : Int32) =>
    rec14 x77 c76)
def fX5_digest (v_thrown : Int32) (v_z : Nat → Int32) (v_savedMany : Int32) (v_spare : Nat → Int32) (v_buffer : Nat → Int32) (v_typed : Int32) (v_marksBlown : Int32) (v_before : Nat → Int32) (v_hash : Int64) : Option (Int64 × Int32 × (Nat → Int32) × (Nat → Int32) × Int32 × (Nat → Int32) × Int64) :=
  k_j1
  (fun (c1 : Int64) =>
    k_j1
    (fun (c2 : Int64) =>
      k_j1
      (fun (c3 : Int64) =>
        k_j1
        (fun (c4 : Int64) =>
          k_j4
          (fun (c5 : Nat → Int32) (c6 : Nat → Int32) (c7 : Int32) (c8 : Int64) =>
            k_j4
            (fun (c9 : Nat → Int32) (c10 : Nat → Int32) (c11 : Nat → Int32) (c12 : Int64) =>
              k_b1 (fX5_wouldRead c9 1 0) fun (x13 : Int32) =>
              k_let (x13.toInt64) fun (x14 : Int64) =>
              k_b1 (fX5_mix c12 x14) fun (c15 : Int64) =>
              k_b1 (fX5_wouldRead c9 1 1) fun (x16 : Int32) =>
              k_let (x16.toInt64) fun (x17 : Int64) =>
              k_b1 (fX5_mix c15 x17) fun (c18 : Int64) =>
              k_b1 (fX5_worstNow c9) fun (x19 : Int32) =>
              k_let (x19.toInt64) fun (x20 : Int64) =>
              k_b1 (fX5_mix c18 x20) fun (c21 : Int64) =>
              k_b1 (fX5_share c9) fun (x22 : UInt64) =>
              k_b1 (fX5_bitsOf x22) fun (x23 : Int64) =>
              k_b1 (fX5_mix c21 x23) fun (c24 : Int64) =>
              k_let (v_typed.toInt64) fun (x25 : Int64) =>
              k_b1 (fX5_mix c24 x25) fun (c26 : Int64) =>
              k_l2 (fX5_digest_s203 v_typed c9 c10 c7 c11 v_buffer) 5000 0 c26)
            (fun K150 =>
            k_l5 (fX5_digest_s127 K150) 5000 0 c5 c6 v_before c8))
          (fun K125 =>
          k_l5 (fX5_digest_s102 K125) 5000 0 v_z v_spare v_marksBlown c4))
        (fun K100 =>
        k_l2 (fX5_digest_s83 K100 v_z) 5000 0 c3))
      (fun K81 =>
      k_l2 (fX5_digest_s64 K81 v_z) 5000 0 c2))
    (fun K62 =>
    k_l2 (fX5_digest_s38 K62 v_z) 5000 0 c1))
  (fun K36 =>
  k_l2 (fX5_digest_s14 K36 v_z v_savedMany) 5000 0 2683)
theorem hdX5_digest : yX5_digest.cls = RX5 ∧ yX5_digest.cls ≠ "java/lang/invoke/MethodHandle" ∧ yX5_digest.cls ≠ "java/lang/invoke/VarHandle" ∧ (parseMethodDescriptor yX5_digest.desc).map (fun d => d.parameters.length) = some 0 := by decide +kernel
set_option maxRecDepth 100000 in
set_option maxHeartbeats 4000000 in
theorem mX5_digest (l : Launch) (dC : Nat → ClassId) (dI : Nat → Nat → Nat) (cyI cyC cyO : ClassId) (ob a1 a2 a3 a4 a5 a6 a7 a8 : Nat) (v_thrown : Int32) (v_z : Nat → Int32) (v_saved : Nat → Int32) (v_savedMany : Int32) (v_spare : Nat → Int32) (v_buffer : Nat → Int32) (v_typed : Int32) (v_marksBlown : Int32) (v_rests : Nat → Int32) (v_begins : Nat → Int32) (v_orders : Nat → Int32) (v_orderMany : Int32) (v_spot : Int32) (v_wrong : Int32) (v_isShort : Int32) (v_before : Nat → Int32) (v_hash : Int64)  {r : Int64} {r_thrown : Int32} {r_z : Nat → Int32} {r_spare : Nat → Int32} {r_marksBlown : Int32} {r_before : Nat → Int32} {r_hash : Int64} (hf : fX5_digest v_thrown v_z v_savedMany v_spare v_buffer v_typed v_marksBlown v_before v_hash = some (r, r_thrown, r_z, r_spare, r_marksBlown, r_before, r_hash)) : MetML l yX5_digest cX5_digest 2 (some .long) 10 235 [.ref ob] (dC, dI) (tyS cyI cyC cyO) (wX5 cyI cyC ob a1 a2 a3 a4 a5 a6 a7 a8 v_thrown v_z v_saved v_savedMany v_spare v_buffer v_typed v_marksBlown v_rests v_begins v_orders v_orderMany v_spot v_wrong v_isShort v_before v_hash) (wX5 cyI cyC ob a1 a2 a3 a4 a5 a6 a7 a8 r_thrown r_z v_saved v_savedMany r_spare v_buffer v_typed r_marksBlown v_rests v_begins v_orders v_orderMany v_spot v_wrong v_isShort r_before r_hash) r := by
  refine metML_of (by decide) (Nat.le_of_ble_eq_true rfl) ?_
  intro p e s m below meth c ls hC hr hlk hP hK hD hl
  have hC : CallFix p m c cX5_digest 2 s [.ref ob].toArray wA RX5 := hC
  obtain ⟨hx, hb, hml, hown, hts⟩ := id hC
  have hS : va_S (k_A (wX5 cyI cyC ob a1 a2 a3 a4 a5 a6 a7 a8 v_thrown v_z v_saved v_savedMany v_spare v_buffer v_typed v_marksBlown v_rests v_begins v_orders v_orderMany v_spot v_wrong v_isShort v_before v_hash)) s.heap s.heap [] := va_S.rf
  have hl : lv_has ls 2 [(0, .ref ob)] := hl
  have h := hf
  unfold fX5_digest at h
  obtain ⟨H, hH⟩ : ∃ H, H = s.heap := ⟨_, rfl⟩
  obtain ⟨locs, hlo⟩ : ∃ locs : List Loc, locs = [] := ⟨_, rfl⟩
  rw [← hH] at hP
  rw [← hlo] at hS
  have hS : va_S (k_A (wX5 cyI cyC ob a1 a2 a3 a4 a5 a6 a7 a8 v_thrown v_z v_saved v_savedMany v_spare v_buffer v_typed v_marksBlown v_rests v_begins v_orders v_orderMany v_spot v_wrong v_isShort v_before v_hash)) s.heap H locs := by rw [hH]; exact hS
  show W p l e (k_rm 10 235) s m [.ref ob].toArray below meth c s.heap [] 0 0 _ _
  rw [← hlo, ← hH]
  refine lv_aload_n hx hb dX5_digest_0 rfl (lv_at hl 0 rfl) ?_
  refine lv_iconst (v := 0) hx hb dX5_digest_1 (by decide) ?_
  refine va_put (D := (dC, dI)) (ci := 4) (v := .int 0) (ty := .int) (C := RX5) (T := TX5) (N := 17) hx hb hts iaX5 tyX5 tyX5_ok nmX5 hown hK hP hD hS 0 rfl rfl 0 (by decide) (hts _ q716) (fun _ h9 => h9) rfl (by decide +kernel) rfl rfl (Nat.le_of_ble_eq_true rfl) dX5_digest_2 (fun H locs hP _ hS => ?_)
  have hP : va_P (dC, dI) vwCl (wX5 cyI cyC ob a1 a2 a3 a4 a5 a6 a7 a8 0 v_z v_saved v_savedMany v_spare v_buffer v_typed v_marksBlown v_rests v_begins v_orders v_orderMany v_spot v_wrong v_isShort v_before v_hash) H := hP
  have hD : va_D (k_A (wX5 cyI cyC ob a1 a2 a3 a4 a5 a6 a7 a8 v_thrown v_z v_saved v_savedMany v_spare v_buffer v_typed v_marksBlown v_rests v_begins v_orders v_orderMany v_spot v_wrong v_isShort v_before v_hash)) (wX5 cyI cyC ob a1 a2 a3 a4 a5 a6 a7 a8 0 v_z v_saved v_savedMany v_spare v_buffer v_typed v_marksBlown v_rests v_begins v_orders v_orderMany v_spot v_wrong v_isShort v_before v_hash) := k_Dm hD rfl
  refine lv_aload_n hx hb dX5_digest_5 rfl (lv_at hl 0 rfl) ?_
  refine lv_ldc2 hx hb hown (hts _ q1026) dX5_digest_6 ?_
  refine va_put (D := (dC, dI)) (ci := 4) (v := .long 2683) (ty := .long) (C := RX5) (T := TX5) (N := 17) hx hb hts iaX5 tyX5 tyX5_ok nmX5 hown hK hP hD hS 0 rfl rfl 16 (by decide) (hts _ q732) (fun _ h9 => h9) rfl (by decide +kernel) rfl rfl (Nat.le_of_ble_eq_true rfl) dX5_digest_9 (fun H locs hP _ hS => ?_)
  have hP : va_P (dC, dI) vwCl (wX5 cyI cyC ob a1 a2 a3 a4 a5 a6 a7 a8 0 v_z v_saved v_savedMany v_spare v_buffer v_typed v_marksBlown v_rests v_begins v_orders v_orderMany v_spot v_wrong v_isShort v_before 2683) H := hP
  have hD : va_D (k_A (wX5 cyI cyC ob a1 a2 a3 a4 a5 a6 a7 a8 v_thrown v_z v_saved v_savedMany v_spare v_buffer v_typed v_marksBlown v_rests v_begins v_orders v_orderMany v_spot v_wrong v_isShort v_before v_hash)) (wX5 cyI cyC ob a1 a2 a3 a4 a5 a6 a7 a8 0 v_z v_saved v_savedMany v_spare v_buffer v_typed v_marksBlown v_rests v_begins v_orders v_orderMany v_spot v_wrong v_isShort v_before 2683) := k_Dm hD rfl
  refine lv_iconst (v := 0) hx hb dX5_digest_12 (by decide) ?_
  refine lv_istore_n (lv' := [(1, .int 0), (0, .ref ob)]) hx hb dX5_digest_13 rfl hl (by decide) rfl (fun ls hl => ?_)
  obtain ⟨K36, hK36, h⟩ := k_j1_e h
  have J36 : ∀ (c1 : Int64) (H : Heap) (locs : List Loc) (ls : Array Slot), K36 c1 = some (r, r_thrown, r_z, r_spare, r_marksBlown, r_before, r_hash) → va_P (dC, dI) vwCl (wX5 cyI cyC ob a1 a2 a3 a4 a5 a6 a7 a8 0 v_z v_saved v_savedMany v_spare v_buffer v_typed v_marksBlown v_rests v_begins v_orders v_orderMany v_spot v_wrong v_isShort v_before c1) H → va_S (k_A (wX5 cyI cyC ob a1 a2 a3 a4 a5 a6 a7 a8 v_thrown v_z v_saved v_savedMany v_spare v_buffer v_typed v_marksBlown v_rests v_begins v_orders v_orderMany v_spot v_wrong v_isShort v_before v_hash)) s.heap H locs → lv_has ls 2 [(0, .ref ob)] → W p l e (k_rm 10 235) s m [.ref ob].toArray below meth c H locs 0 0 (MQ below (qML r (dC, dI) (wX5 cyI cyC ob a1 a2 a3 a4 a5 a6 a7 a8 v_thrown v_z v_saved v_savedMany v_spare v_buffer v_typed v_marksBlown v_rests v_begins v_orders v_orderMany v_spot v_wrong v_isShort v_before v_hash) (wX5 cyI cyC ob a1 a2 a3 a4 a5 a6 a7 a8 r_thrown r_z v_saved v_savedMany r_spare v_buffer v_typed r_marksBlown v_rests v_begins v_orders v_orderMany v_spot v_wrong v_isShort r_before r_hash)) [.ref ob].toArray s 0 0 (k_A (wX5 cyI cyC ob a1 a2 a3 a4 a5 a6 a7 a8 v_thrown v_z v_saved v_savedMany v_spare v_buffer v_typed v_marksBlown v_rests v_begins v_orders v_orderMany v_spot v_wrong v_isShort v_before v_hash))) (F0 m 36 ls []) := by
    intro c1 H locs ls h hP hS hl
    have hD : va_D (k_A (wX5 cyI cyC ob a1 a2 a3 a4 a5 a6 a7 a8 v_thrown v_z v_saved v_savedMany v_spare v_buffer v_typed v_marksBlown v_rests v_begins v_orders v_orderMany v_spot v_wrong v_isShort v_before v_hash)) (wX5 cyI cyC ob a1 a2 a3 a4 a5 a6 a7 a8 0 v_z v_saved v_savedMany v_spare v_buffer v_typed v_marksBlown v_rests v_begins v_orders v_orderMany v_spot v_wrong v_isShort v_before c1) := k_Dm hD rfl
    have h := k_a1 hK36 h
    refine lv_iconst (v := 0) hx hb dX5_digest_36 (by decide) ?_
    refine lv_istore_n (lv' := [(1, .int 0), (0, .ref ob)]) hx hb dX5_digest_37 rfl hl (by decide) rfl (fun ls hl => ?_)
    obtain ⟨K62, hK62, h⟩ := k_j1_e h
    have J62 : ∀ (c2 : Int64) (H : Heap) (locs : List Loc) (ls : Array Slot), K62 c2 = some (r, r_thrown, r_z, r_spare, r_marksBlown, r_before, r_hash) → va_P (dC, dI) vwCl (wX5 cyI cyC ob a1 a2 a3 a4 a5 a6 a7 a8 0 v_z v_saved v_savedMany v_spare v_buffer v_typed v_marksBlown v_rests v_begins v_orders v_orderMany v_spot v_wrong v_isShort v_before c2) H → va_S (k_A (wX5 cyI cyC ob a1 a2 a3 a4 a5 a6 a7 a8 v_thrown v_z v_saved v_savedMany v_spare v_buffer v_typed v_marksBlown v_rests v_begins v_orders v_orderMany v_spot v_wrong v_isShort v_before v_hash)) s.heap H locs → lv_has ls 2 [(0, .ref ob)] → W p l e (k_rm 10 235) s m [.ref ob].toArray below meth c H locs 0 0 (MQ below (qML r (dC, dI) (wX5 cyI cyC ob a1 a2 a3 a4 a5 a6 a7 a8 v_thrown v_z v_saved v_savedMany v_spare v_buffer v_typed v_marksBlown v_rests v_begins v_orders v_orderMany v_spot v_wrong v_isShort v_before v_hash) (wX5 cyI cyC ob a1 a2 a3 a4 a5 a6 a7 a8 r_thrown r_z v_saved v_savedMany r_spare v_buffer v_typed r_marksBlown v_rests v_begins v_orders v_orderMany v_spot v_wrong v_isShort r_before r_hash)) [.ref ob].toArray s 0 0 (k_A (wX5 cyI cyC ob a1 a2 a3 a4 a5 a6 a7 a8 v_thrown v_z v_saved v_savedMany v_spare v_buffer v_typed v_marksBlown v_rests v_begins v_orders v_orderMany v_spot v_wrong v_isShort v_before v_hash))) (F0 m 62 ls []) := by
      intro c2 H locs ls h hP hS hl
      have hD : va_D (k_A (wX5 cyI cyC ob a1 a2 a3 a4 a5 a6 a7 a8 v_thrown v_z v_saved v_savedMany v_spare v_buffer v_typed v_marksBlown v_rests v_begins v_orders v_orderMany v_spot v_wrong v_isShort v_before v_hash)) (wX5 cyI cyC ob a1 a2 a3 a4 a5 a6 a7 a8 0 v_z v_saved v_savedMany v_spare v_buffer v_typed v_marksBlown v_rests v_begins v_orders v_orderMany v_spot v_wrong v_isShort v_before c2) := k_Dm hD rfl
      have h := k_a1 hK62 h
      refine lv_iconst (v := 0) hx hb dX5_digest_62 (by decide) ?_
      refine lv_istore_n (lv' := [(1, .int 0), (0, .ref ob)]) hx hb dX5_digest_63 rfl hl (by decide) rfl (fun ls hl => ?_)
      obtain ⟨K81, hK81, h⟩ := k_j1_e h
      have J81 : ∀ (c3 : Int64) (H : Heap) (locs : List Loc) (ls : Array Slot), K81 c3 = some (r, r_thrown, r_z, r_spare, r_marksBlown, r_before, r_hash) → va_P (dC, dI) vwCl (wX5 cyI cyC ob a1 a2 a3 a4 a5 a6 a7 a8 0 v_z v_saved v_savedMany v_spare v_buffer v_typed v_marksBlown v_rests v_begins v_orders v_orderMany v_spot v_wrong v_isShort v_before c3) H → va_S (k_A (wX5 cyI cyC ob a1 a2 a3 a4 a5 a6 a7 a8 v_thrown v_z v_saved v_savedMany v_spare v_buffer v_typed v_marksBlown v_rests v_begins v_orders v_orderMany v_spot v_wrong v_isShort v_before v_hash)) s.heap H locs → lv_has ls 2 [(0, .ref ob)] → W p l e (k_rm 10 235) s m [.ref ob].toArray below meth c H locs 0 0 (MQ below (qML r (dC, dI) (wX5 cyI cyC ob a1 a2 a3 a4 a5 a6 a7 a8 v_thrown v_z v_saved v_savedMany v_spare v_buffer v_typed v_marksBlown v_rests v_begins v_orders v_orderMany v_spot v_wrong v_isShort v_before v_hash) (wX5 cyI cyC ob a1 a2 a3 a4 a5 a6 a7 a8 r_thrown r_z v_saved v_savedMany r_spare v_buffer v_typed r_marksBlown v_rests v_begins v_orders v_orderMany v_spot v_wrong v_isShort r_before r_hash)) [.ref ob].toArray s 0 0 (k_A (wX5 cyI cyC ob a1 a2 a3 a4 a5 a6 a7 a8 v_thrown v_z v_saved v_savedMany v_spare v_buffer v_typed v_marksBlown v_rests v_begins v_orders v_orderMany v_spot v_wrong v_isShort v_before v_hash))) (F0 m 81 ls []) := by
        intro c3 H locs ls h hP hS hl
        have hD : va_D (k_A (wX5 cyI cyC ob a1 a2 a3 a4 a5 a6 a7 a8 v_thrown v_z v_saved v_savedMany v_spare v_buffer v_typed v_marksBlown v_rests v_begins v_orders v_orderMany v_spot v_wrong v_isShort v_before v_hash)) (wX5 cyI cyC ob a1 a2 a3 a4 a5 a6 a7 a8 0 v_z v_saved v_savedMany v_spare v_buffer v_typed v_marksBlown v_rests v_begins v_orders v_orderMany v_spot v_wrong v_isShort v_before c3) := k_Dm hD rfl
        have h := k_a1 hK81 h
        refine lv_iconst (v := 0) hx hb dX5_digest_81 (by decide) ?_
        refine lv_istore_n (lv' := [(1, .int 0), (0, .ref ob)]) hx hb dX5_digest_82 rfl hl (by decide) rfl (fun ls hl => ?_)
        obtain ⟨K100, hK100, h⟩ := k_j1_e h
        have J100 : ∀ (c4 : Int64) (H : Heap) (locs : List Loc) (ls : Array Slot), K100 c4 = some (r, r_thrown, r_z, r_spare, r_marksBlown, r_before, r_hash) → va_P (dC, dI) vwCl (wX5 cyI cyC ob a1 a2 a3 a4 a5 a6 a7 a8 0 v_z v_saved v_savedMany v_spare v_buffer v_typed v_marksBlown v_rests v_begins v_orders v_orderMany v_spot v_wrong v_isShort v_before c4) H → va_S (k_A (wX5 cyI cyC ob a1 a2 a3 a4 a5 a6 a7 a8 v_thrown v_z v_saved v_savedMany v_spare v_buffer v_typed v_marksBlown v_rests v_begins v_orders v_orderMany v_spot v_wrong v_isShort v_before v_hash)) s.heap H locs → lv_has ls 2 [(0, .ref ob)] → W p l e (k_rm 10 235) s m [.ref ob].toArray below meth c H locs 0 0 (MQ below (qML r (dC, dI) (wX5 cyI cyC ob a1 a2 a3 a4 a5 a6 a7 a8 v_thrown v_z v_saved v_savedMany v_spare v_buffer v_typed v_marksBlown v_rests v_begins v_orders v_orderMany v_spot v_wrong v_isShort v_before v_hash) (wX5 cyI cyC ob a1 a2 a3 a4 a5 a6 a7 a8 r_thrown r_z v_saved v_savedMany r_spare v_buffer v_typed r_marksBlown v_rests v_begins v_orders v_orderMany v_spot v_wrong v_isShort r_before r_hash)) [.ref ob].toArray s 0 0 (k_A (wX5 cyI cyC ob a1 a2 a3 a4 a5 a6 a7 a8 v_thrown v_z v_saved v_savedMany v_spare v_buffer v_typed v_marksBlown v_rests v_begins v_orders v_orderMany v_spot v_wrong v_isShort v_before v_hash))) (F0 m 100 ls []) := by
          intro c4 H locs ls h hP hS hl
          have hD : va_D (k_A (wX5 cyI cyC ob a1 a2 a3 a4 a5 a6 a7 a8 v_thrown v_z v_saved v_savedMany v_spare v_buffer v_typed v_marksBlown v_rests v_begins v_orders v_orderMany v_spot v_wrong v_isShort v_before v_hash)) (wX5 cyI cyC ob a1 a2 a3 a4 a5 a6 a7 a8 0 v_z v_saved v_savedMany v_spare v_buffer v_typed v_marksBlown v_rests v_begins v_orders v_orderMany v_spot v_wrong v_isShort v_before c4) := k_Dm hD rfl
          have h := k_a1 hK100 h
          refine lv_iconst (v := 0) hx hb dX5_digest_100 (by decide) ?_
          refine lv_istore_n (lv' := [(1, .int 0), (0, .ref ob)]) hx hb dX5_digest_101 rfl hl (by decide) rfl (fun ls hl => ?_)
          obtain ⟨K125, hK125, h⟩ := k_j4_e h
          have J125 : ∀ (c5 : Nat → Int32) (c6 : Nat → Int32) (c7 : Int32) (c8 : Int64) (H : Heap) (locs : List Loc) (ls : Array Slot), K125 c5 c6 c7 c8 = some (r, r_thrown, r_z, r_spare, r_marksBlown, r_before, r_hash) → va_P (dC, dI) vwCl (wX5 cyI cyC ob a1 a2 a3 a4 a5 a6 a7 a8 0 c5 v_saved v_savedMany c6 v_buffer v_typed c7 v_rests v_begins v_orders v_orderMany v_spot v_wrong v_isShort v_before c8) H → va_S (k_A (wX5 cyI cyC ob a1 a2 a3 a4 a5 a6 a7 a8 v_thrown v_z v_saved v_savedMany v_spare v_buffer v_typed v_marksBlown v_rests v_begins v_orders v_orderMany v_spot v_wrong v_isShort v_before v_hash)) s.heap H locs → lv_has ls 2 [(0, .ref ob)] → W p l e (k_rm 10 235) s m [.ref ob].toArray below meth c H locs 0 0 (MQ below (qML r (dC, dI) (wX5 cyI cyC ob a1 a2 a3 a4 a5 a6 a7 a8 v_thrown v_z v_saved v_savedMany v_spare v_buffer v_typed v_marksBlown v_rests v_begins v_orders v_orderMany v_spot v_wrong v_isShort v_before v_hash) (wX5 cyI cyC ob a1 a2 a3 a4 a5 a6 a7 a8 r_thrown r_z v_saved v_savedMany r_spare v_buffer v_typed r_marksBlown v_rests v_begins v_orders v_orderMany v_spot v_wrong v_isShort r_before r_hash)) [.ref ob].toArray s 0 0 (k_A (wX5 cyI cyC ob a1 a2 a3 a4 a5 a6 a7 a8 v_thrown v_z v_saved v_savedMany v_spare v_buffer v_typed v_marksBlown v_rests v_begins v_orders v_orderMany v_spot v_wrong v_isShort v_before v_hash))) (F0 m 125 ls []) := by
            intro c5 c6 c7 c8 H locs ls h hP hS hl
            have hD : va_D (k_A (wX5 cyI cyC ob a1 a2 a3 a4 a5 a6 a7 a8 v_thrown v_z v_saved v_savedMany v_spare v_buffer v_typed v_marksBlown v_rests v_begins v_orders v_orderMany v_spot v_wrong v_isShort v_before v_hash)) (wX5 cyI cyC ob a1 a2 a3 a4 a5 a6 a7 a8 0 c5 v_saved v_savedMany c6 v_buffer v_typed c7 v_rests v_begins v_orders v_orderMany v_spot v_wrong v_isShort v_before c8) := k_Dm hD rfl
            have h := k_a4 hK125 h
            refine lv_iconst (v := 0) hx hb dX5_digest_125 (by decide) ?_
            refine lv_istore_n (lv' := [(1, .int 0), (0, .ref ob)]) hx hb dX5_digest_126 rfl hl (by decide) rfl (fun ls hl => ?_)
            obtain ⟨K150, hK150, h⟩ := k_j4_e h
            have J150 : ∀ (c9 : Nat → Int32) (c10 : Nat → Int32) (c11 : Nat → Int32) (c12 : Int64) (H : Heap) (locs : List Loc) (ls : Array Slot), K150 c9 c10 c11 c12 = some (r, r_thrown, r_z, r_spare, r_marksBlown, r_before, r_hash) → va_P (dC, dI) vwCl (wX5 cyI cyC ob a1 a2 a3 a4 a5 a6 a7 a8 0 c9 v_saved v_savedMany c10 v_buffer v_typed c7 v_rests v_begins v_orders v_orderMany v_spot v_wrong v_isShort c11 c12) H → va_S (k_A (wX5 cyI cyC ob a1 a2 a3 a4 a5 a6 a7 a8 v_thrown v_z v_saved v_savedMany v_spare v_buffer v_typed v_marksBlown v_rests v_begins v_orders v_orderMany v_spot v_wrong v_isShort v_before v_hash)) s.heap H locs → lv_has ls 2 [(0, .ref ob)] → W p l e (k_rm 10 235) s m [.ref ob].toArray below meth c H locs 0 0 (MQ below (qML r (dC, dI) (wX5 cyI cyC ob a1 a2 a3 a4 a5 a6 a7 a8 v_thrown v_z v_saved v_savedMany v_spare v_buffer v_typed v_marksBlown v_rests v_begins v_orders v_orderMany v_spot v_wrong v_isShort v_before v_hash) (wX5 cyI cyC ob a1 a2 a3 a4 a5 a6 a7 a8 r_thrown r_z v_saved v_savedMany r_spare v_buffer v_typed r_marksBlown v_rests v_begins v_orders v_orderMany v_spot v_wrong v_isShort r_before r_hash)) [.ref ob].toArray s 0 0 (k_A (wX5 cyI cyC ob a1 a2 a3 a4 a5 a6 a7 a8 v_thrown v_z v_saved v_savedMany v_spare v_buffer v_typed v_marksBlown v_rests v_begins v_orders v_orderMany v_spot v_wrong v_isShort v_before v_hash))) (F0 m 150 ls []) := by
              intro c9 c10 c11 c12 H locs ls h hP hS hl
              have hD : va_D (k_A (wX5 cyI cyC ob a1 a2 a3 a4 a5 a6 a7 a8 v_thrown v_z v_saved v_savedMany v_spare v_buffer v_typed v_marksBlown v_rests v_begins v_orders v_orderMany v_spot v_wrong v_isShort v_before v_hash)) (wX5 cyI cyC ob a1 a2 a3 a4 a5 a6 a7 a8 0 c9 v_saved v_savedMany c10 v_buffer v_typed c7 v_rests v_begins v_orders v_orderMany v_spot v_wrong v_isShort c11 c12) := k_Dm hD rfl
              have h := k_a4 hK150 h
              refine lv_aload_n hx hb dX5_digest_150 rfl (lv_at hl 0 rfl) ?_
              refine lv_aload_n hx hb dX5_digest_151 rfl (lv_at hl 0 rfl) ?_
              refine lv_iconst (v := 1) hx hb dX5_digest_152 (by decide) ?_
              refine lv_iconst (v := 0) hx hb dX5_digest_153 (by decide) ?_
              obtain ⟨x13, hc154, h⟩ := k_b1_e h
              refine g_callRI_V (As := [.int 1, .int 0]) (rest := [.ref ob]) hC (mX5_wouldRead l dC dI cyI cyC cyO ob a1 a2 a3 a4 a5 a6 a7 a8 0 c9 v_saved v_savedMany c10 v_buffer v_typed c7 v_rests v_begins v_orders v_orderMany v_spot v_wrong v_isShort c11 c12 1 0 hc154) q1005 q1006 q64 q75 q1007 2 hdX5_wouldRead ⟨Nat.le_of_ble_eq_true rfl, Nat.le_of_ble_eq_true rfl⟩ ⟨Nat.le_of_ble_eq_true rfl, Nat.le_of_ble_eq_true rfl⟩ rfl rfl hl.1 (Nat.le_of_ble_eq_true rfl) hP hK (va_recv hK hP (ci := 4) (q0 := 0) rfl rfl) hS dX5_digest_154 (fun H locs hk hS => ?_)
              have hP := k_kept hP hk
              refine g_i2l hx hb dX5_digest_157 h (fun x14 h => ?_)
              obtain ⟨c15, hc158, h⟩ := k_b1_e h
              refine g_callMV_V (As := [.long x14]) (rest := []) hC (mX5_mix l dC dI cyI cyC cyO ob a1 a2 a3 a4 a5 a6 a7 a8 0 c9 v_saved v_savedMany c10 v_buffer v_typed c7 v_rests v_begins v_orders v_orderMany v_spot v_wrong v_isShort c11 c12 x14 hc158) q1027 q1028 q67 q75 q1029 1 hdX5_mix ⟨Nat.le_of_ble_eq_true rfl, Nat.le_of_ble_eq_true rfl⟩ ⟨Nat.le_of_ble_eq_true rfl, Nat.le_of_ble_eq_true rfl⟩ rfl rfl hl.1 (Nat.le_of_ble_eq_true rfl) hP hK hD (va_recv hK hP (ci := 4) (q0 := 0) rfl rfl) hS dX5_digest_158 (fun H locs hPn hk hS => ?_)
              have hP : va_P (dC, dI) vwCl (wX5 cyI cyC ob a1 a2 a3 a4 a5 a6 a7 a8 0 c9 v_saved v_savedMany c10 v_buffer v_typed c7 v_rests v_begins v_orders v_orderMany v_spot v_wrong v_isShort c11 c15) H := hPn
              have hD : va_D (k_A (wX5 cyI cyC ob a1 a2 a3 a4 a5 a6 a7 a8 v_thrown v_z v_saved v_savedMany v_spare v_buffer v_typed v_marksBlown v_rests v_begins v_orders v_orderMany v_spot v_wrong v_isShort v_before v_hash)) (wX5 cyI cyC ob a1 a2 a3 a4 a5 a6 a7 a8 0 c9 v_saved v_savedMany c10 v_buffer v_typed c7 v_rests v_begins v_orders v_orderMany v_spot v_wrong v_isShort c11 c15) := k_Dm hD rfl
              refine lv_aload_n hx hb dX5_digest_161 rfl (lv_at hl 0 rfl) ?_
              refine lv_aload_n hx hb dX5_digest_162 rfl (lv_at hl 0 rfl) ?_
              refine lv_iconst (v := 1) hx hb dX5_digest_163 (by decide) ?_
              refine lv_iconst (v := 1) hx hb dX5_digest_164 (by decide) ?_
              obtain ⟨x16, hc165, h⟩ := k_b1_e h
              refine g_callRI_V (As := [.int 1, .int 1]) (rest := [.ref ob]) hC (mX5_wouldRead l dC dI cyI cyC cyO ob a1 a2 a3 a4 a5 a6 a7 a8 0 c9 v_saved v_savedMany c10 v_buffer v_typed c7 v_rests v_begins v_orders v_orderMany v_spot v_wrong v_isShort c11 c15 1 1 hc165) q1005 q1006 q64 q75 q1007 2 hdX5_wouldRead ⟨Nat.le_of_ble_eq_true rfl, Nat.le_of_ble_eq_true rfl⟩ ⟨Nat.le_of_ble_eq_true rfl, Nat.le_of_ble_eq_true rfl⟩ rfl rfl hl.1 (Nat.le_of_ble_eq_true rfl) hP hK (va_recv hK hP (ci := 4) (q0 := 0) rfl rfl) hS dX5_digest_165 (fun H locs hk hS => ?_)
              have hP := k_kept hP hk
              refine g_i2l hx hb dX5_digest_168 h (fun x17 h => ?_)
              obtain ⟨c18, hc169, h⟩ := k_b1_e h
              refine g_callMV_V (As := [.long x17]) (rest := []) hC (mX5_mix l dC dI cyI cyC cyO ob a1 a2 a3 a4 a5 a6 a7 a8 0 c9 v_saved v_savedMany c10 v_buffer v_typed c7 v_rests v_begins v_orders v_orderMany v_spot v_wrong v_isShort c11 c15 x17 hc169) q1027 q1028 q67 q75 q1029 1 hdX5_mix ⟨Nat.le_of_ble_eq_true rfl, Nat.le_of_ble_eq_true rfl⟩ ⟨Nat.le_of_ble_eq_true rfl, Nat.le_of_ble_eq_true rfl⟩ rfl rfl hl.1 (Nat.le_of_ble_eq_true rfl) hP hK hD (va_recv hK hP (ci := 4) (q0 := 0) rfl rfl) hS dX5_digest_169 (fun H locs hPn hk hS => ?_)
              have hP : va_P (dC, dI) vwCl (wX5 cyI cyC ob a1 a2 a3 a4 a5 a6 a7 a8 0 c9 v_saved v_savedMany c10 v_buffer v_typed c7 v_rests v_begins v_orders v_orderMany v_spot v_wrong v_isShort c11 c18) H := hPn
              have hD : va_D (k_A (wX5 cyI cyC ob a1 a2 a3 a4 a5 a6 a7 a8 v_thrown v_z v_saved v_savedMany v_spare v_buffer v_typed v_marksBlown v_rests v_begins v_orders v_orderMany v_spot v_wrong v_isShort v_before v_hash)) (wX5 cyI cyC ob a1 a2 a3 a4 a5 a6 a7 a8 0 c9 v_saved v_savedMany c10 v_buffer v_typed c7 v_rests v_begins v_orders v_orderMany v_spot v_wrong v_isShort c11 c18) := k_Dm hD rfl
              refine lv_aload_n hx hb dX5_digest_172 rfl (lv_at hl 0 rfl) ?_
              refine lv_aload_n hx hb dX5_digest_173 rfl (lv_at hl 0 rfl) ?_
              obtain ⟨x19, hc174, h⟩ := k_b1_e h
              refine g_callRI_V (As := []) (rest := [.ref ob]) hC (mX5_worstNow l dC dI cyI cyC cyO ob a1 a2 a3 a4 a5 a6 a7 a8 0 c9 v_saved v_savedMany c10 v_buffer v_typed c7 v_rests v_begins v_orders v_orderMany v_spot v_wrong v_isShort c11 c18 hc174) q1012 q1013 q65 q75 q1014 0 hdX5_worstNow ⟨Nat.le_of_ble_eq_true rfl, Nat.le_of_ble_eq_true rfl⟩ ⟨Nat.le_of_ble_eq_true rfl, Nat.le_of_ble_eq_true rfl⟩ rfl rfl hl.1 (Nat.le_of_ble_eq_true rfl) hP hK (va_recv hK hP (ci := 4) (q0 := 0) rfl rfl) hS dX5_digest_174 (fun H locs hk hS => ?_)
              have hP := k_kept hP hk
              refine g_i2l hx hb dX5_digest_177 h (fun x20 h => ?_)
              obtain ⟨c21, hc178, h⟩ := k_b1_e h
              refine g_callMV_V (As := [.long x20]) (rest := []) hC (mX5_mix l dC dI cyI cyC cyO ob a1 a2 a3 a4 a5 a6 a7 a8 0 c9 v_saved v_savedMany c10 v_buffer v_typed c7 v_rests v_begins v_orders v_orderMany v_spot v_wrong v_isShort c11 c18 x20 hc178) q1027 q1028 q67 q75 q1029 1 hdX5_mix ⟨Nat.le_of_ble_eq_true rfl, Nat.le_of_ble_eq_true rfl⟩ ⟨Nat.le_of_ble_eq_true rfl, Nat.le_of_ble_eq_true rfl⟩ rfl rfl hl.1 (Nat.le_of_ble_eq_true rfl) hP hK hD (va_recv hK hP (ci := 4) (q0 := 0) rfl rfl) hS dX5_digest_178 (fun H locs hPn hk hS => ?_)
              have hP : va_P (dC, dI) vwCl (wX5 cyI cyC ob a1 a2 a3 a4 a5 a6 a7 a8 0 c9 v_saved v_savedMany c10 v_buffer v_typed c7 v_rests v_begins v_orders v_orderMany v_spot v_wrong v_isShort c11 c21) H := hPn
              have hD : va_D (k_A (wX5 cyI cyC ob a1 a2 a3 a4 a5 a6 a7 a8 v_thrown v_z v_saved v_savedMany v_spare v_buffer v_typed v_marksBlown v_rests v_begins v_orders v_orderMany v_spot v_wrong v_isShort v_before v_hash)) (wX5 cyI cyC ob a1 a2 a3 a4 a5 a6 a7 a8 0 c9 v_saved v_savedMany c10 v_buffer v_typed c7 v_rests v_begins v_orders v_orderMany v_spot v_wrong v_isShort c11 c21) := k_Dm hD rfl
              refine lv_aload_n hx hb dX5_digest_181 rfl (lv_at hl 0 rfl) ?_
              refine lv_aload_n hx hb dX5_digest_182 rfl (lv_at hl 0 rfl) ?_
              obtain ⟨x22, hc183, h⟩ := k_b1_e h
              refine g_callRD_V (As := []) (rest := [.ref ob]) hC (mX5_share l dC dI cyI cyC cyO ob a1 a2 a3 a4 a5 a6 a7 a8 0 c9 v_saved v_savedMany c10 v_buffer v_typed c7 v_rests v_begins v_orders v_orderMany v_spot v_wrong v_isShort c11 c21 hc183) q1019 q1020 q66 q75 q1021 0 hdX5_share ⟨Nat.le_of_ble_eq_true rfl, Nat.le_of_ble_eq_true rfl⟩ ⟨Nat.le_of_ble_eq_true rfl, Nat.le_of_ble_eq_true rfl⟩ rfl rfl hl.1 (Nat.le_of_ble_eq_true rfl) hP hK (va_recv hK hP (ci := 4) (q0 := 0) rfl rfl) hS dX5_digest_183 (fun H locs hk hS => ?_)
              have hP := k_kept hP hk
              obtain ⟨x23, hc186, h⟩ := k_b1_e h
              refine g_callRL_S (As := [.double x22]) (rest := [.ref ob]) hC (mX5_bitsOf l dC dI cyI cyC cyO x22 hc186) q1037 q1038 q75 q1039 1 hdX5_bitsOf ⟨Nat.le_of_ble_eq_true rfl, Nat.le_of_ble_eq_true rfl⟩ ⟨Nat.le_of_ble_eq_true rfl, Nat.le_of_ble_eq_true rfl⟩ rfl rfl hl.1 (Nat.le_of_ble_eq_true rfl) va_P_nil hK hS dX5_digest_186 (fun H locs hk hS => ?_)
              have hP := k_kept hP hk
              obtain ⟨c24, hc189, h⟩ := k_b1_e h
              refine g_callMV_V (As := [.long x23]) (rest := []) hC (mX5_mix l dC dI cyI cyC cyO ob a1 a2 a3 a4 a5 a6 a7 a8 0 c9 v_saved v_savedMany c10 v_buffer v_typed c7 v_rests v_begins v_orders v_orderMany v_spot v_wrong v_isShort c11 c21 x23 hc189) q1027 q1028 q67 q75 q1029 1 hdX5_mix ⟨Nat.le_of_ble_eq_true rfl, Nat.le_of_ble_eq_true rfl⟩ ⟨Nat.le_of_ble_eq_true rfl, Nat.le_of_ble_eq_true rfl⟩ rfl rfl hl.1 (Nat.le_of_ble_eq_true rfl) hP hK hD (va_recv hK hP (ci := 4) (q0 := 0) rfl rfl) hS dX5_digest_189 (fun H locs hPn hk hS => ?_)
              have hP : va_P (dC, dI) vwCl (wX5 cyI cyC ob a1 a2 a3 a4 a5 a6 a7 a8 0 c9 v_saved v_savedMany c10 v_buffer v_typed c7 v_rests v_begins v_orders v_orderMany v_spot v_wrong v_isShort c11 c24) H := hPn
              have hD : va_D (k_A (wX5 cyI cyC ob a1 a2 a3 a4 a5 a6 a7 a8 v_thrown v_z v_saved v_savedMany v_spare v_buffer v_typed v_marksBlown v_rests v_begins v_orders v_orderMany v_spot v_wrong v_isShort v_before v_hash)) (wX5 cyI cyC ob a1 a2 a3 a4 a5 a6 a7 a8 0 c9 v_saved v_savedMany c10 v_buffer v_typed c7 v_rests v_begins v_orders v_orderMany v_spot v_wrong v_isShort c11 c24) := k_Dm hD rfl
              refine lv_aload_n hx hb dX5_digest_192 rfl (lv_at hl 0 rfl) ?_
              refine lv_aload_n hx hb dX5_digest_193 rfl (lv_at hl 0 rfl) ?_
              refine va_get (D := (dC, dI)) (ci := 4) (v := .int v_typed) (C := RX5) (T := TX5) (N := 17) hx hb hts iaX5 hown hK hP 0 rfl rfl 6 (by decide) (hts _ q722) (fun _ h9 => h9) rfl dX5_digest_194 ?_
              refine g_i2l hx hb dX5_digest_197 h (fun x25 h => ?_)
              obtain ⟨c26, hc198, h⟩ := k_b1_e h
              refine g_callMV_V (As := [.long x25]) (rest := []) hC (mX5_mix l dC dI cyI cyC cyO ob a1 a2 a3 a4 a5 a6 a7 a8 0 c9 v_saved v_savedMany c10 v_buffer v_typed c7 v_rests v_begins v_orders v_orderMany v_spot v_wrong v_isShort c11 c24 x25 hc198) q1027 q1028 q67 q75 q1029 1 hdX5_mix ⟨Nat.le_of_ble_eq_true rfl, Nat.le_of_ble_eq_true rfl⟩ ⟨Nat.le_of_ble_eq_true rfl, Nat.le_of_ble_eq_true rfl⟩ rfl rfl hl.1 (Nat.le_of_ble_eq_true rfl) hP hK hD (va_recv hK hP (ci := 4) (q0 := 0) rfl rfl) hS dX5_digest_198 (fun H locs hPn hk hS => ?_)
              have hP : va_P (dC, dI) vwCl (wX5 cyI cyC ob a1 a2 a3 a4 a5 a6 a7 a8 0 c9 v_saved v_savedMany c10 v_buffer v_typed c7 v_rests v_begins v_orders v_orderMany v_spot v_wrong v_isShort c11 c26) H := hPn
              have hD : va_D (k_A (wX5 cyI cyC ob a1 a2 a3 a4 a5 a6 a7 a8 v_thrown v_z v_saved v_savedMany v_spare v_buffer v_typed v_marksBlown v_rests v_begins v_orders v_orderMany v_spot v_wrong v_isShort v_before v_hash)) (wX5 cyI cyC ob a1 a2 a3 a4 a5 a6 a7 a8 0 c9 v_saved v_savedMany c10 v_buffer v_typed c7 v_rests v_begins v_orders v_orderMany v_spot v_wrong v_isShort c11 c26) := k_Dm hD rfl
              refine lv_iconst (v := 0) hx hb dX5_digest_201 (by decide) ?_
              refine lv_istore_n (lv' := [(1, .int 0), (0, .ref ob)]) hx hb dX5_digest_202 rfl hl (by decide) rfl (fun ls hl => ?_)
              obtain ⟨S203, hS203⟩ : ∃ z, z = (fX5_digest_s203 v_typed c9 c10 c7 c11 v_buffer) := ⟨_, rfl⟩
              rw [← hS203] at h
              have L203 : ∀ (n : Nat) (x27 : Int32) (c28 : Int64) (H : Heap) (locs : List Loc) (ls : Array Slot), k_l2 S203 n x27 c28 = some (r, r_thrown, r_z, r_spare, r_marksBlown, r_before, r_hash) → va_P (dC, dI) vwCl (wX5 cyI cyC ob a1 a2 a3 a4 a5 a6 a7 a8 0 c9 v_saved v_savedMany c10 v_buffer v_typed c7 v_rests v_begins v_orders v_orderMany v_spot v_wrong v_isShort c11 c28) H → va_S (k_A (wX5 cyI cyC ob a1 a2 a3 a4 a5 a6 a7 a8 v_thrown v_z v_saved v_savedMany v_spare v_buffer v_typed v_marksBlown v_rests v_begins v_orders v_orderMany v_spot v_wrong v_isShort v_before v_hash)) s.heap H locs → lv_has ls 2 [(0, .ref ob), (1, .int x27)] → W p l e (k_rm 10 235) s m [.ref ob].toArray below meth c H locs 0 0 (MQ below (qML r (dC, dI) (wX5 cyI cyC ob a1 a2 a3 a4 a5 a6 a7 a8 v_thrown v_z v_saved v_savedMany v_spare v_buffer v_typed v_marksBlown v_rests v_begins v_orders v_orderMany v_spot v_wrong v_isShort v_before v_hash) (wX5 cyI cyC ob a1 a2 a3 a4 a5 a6 a7 a8 r_thrown r_z v_saved v_savedMany r_spare v_buffer v_typed r_marksBlown v_rests v_begins v_orders v_orderMany v_spot v_wrong v_isShort r_before r_hash)) [.ref ob].toArray s 0 0 (k_A (wX5 cyI cyC ob a1 a2 a3 a4 a5 a6 a7 a8 v_thrown v_z v_saved v_savedMany v_spare v_buffer v_typed v_marksBlown v_rests v_begins v_orders v_orderMany v_spot v_wrong v_isShort v_before v_hash))) (F0 m 203 ls []) := by
                intro n
                induction n with
                | zero =>
                  intro x27 c28 H locs ls h
                  exact (k_l2_0 h).elim
                | succ n ih203 =>
                  intro x27 c28 H locs ls h hP hS hl
                  have hD : va_D (k_A (wX5 cyI cyC ob a1 a2 a3 a4 a5 a6 a7 a8 v_thrown v_z v_saved v_savedMany v_spare v_buffer v_typed v_marksBlown v_rests v_begins v_orders v_orderMany v_spot v_wrong v_isShort v_before v_hash)) (wX5 cyI cyC ob a1 a2 a3 a4 a5 a6 a7 a8 0 c9 v_saved v_savedMany c10 v_buffer v_typed c7 v_rests v_begins v_orders v_orderMany v_spot v_wrong v_isShort c11 c28) := k_Dm hD rfl
                  have h := k_l2_s h
                  have h := k_a3 hS203 h
                  unfold fX5_digest_s203 at h
                  refine lv_iload_n hx hb dX5_digest_203 rfl (lv_at hl 1 rfl) ?_
                  refine lv_aload_n hx hb dX5_digest_204 rfl (lv_at hl 0 rfl) ?_
                  refine va_get (D := (dC, dI)) (ci := 4) (v := .int v_typed) (C := RX5) (T := TX5) (N := 17) hx hb hts iaX5 hown hK hP 0 rfl rfl 6 (by decide) (hts _ q722) (fun _ h9 => h9) rfl dX5_digest_205 ?_
                  refine g_icmp_ge (tgt := 228) hx hb dX5_digest_208 (by decide) h (fun h => ?_) (fun h => ?_)
                  · refine lv_aload_n hx hb dX5_digest_228 rfl (lv_at hl 0 rfl) ?_
                    refine va_get (D := (dC, dI)) (ci := 4) (v := .long c28) (C := RX5) (T := TX5) (N := 17) hx hb hts iaX5 hown hK hP 0 rfl rfl 16 (by decide) (hts _ q732) (fun _ h9 => h9) rfl dX5_digest_229 ?_
                    obtain ⟨e0, e1, e2, e3, e4, e5, e6⟩ := k_t7 h
                    exact g_retML hx hb hr hlk hS e0 (by rw [← e1, ← e2, ← e3, ← e4, ← e5, ← e6]; exact hP) dX5_digest_232
                  · refine lv_aload_n hx hb dX5_digest_211 rfl (lv_at hl 0 rfl) ?_
                    refine lv_aload_n hx hb dX5_digest_212 rfl (lv_at hl 0 rfl) ?_
                    refine va_get (D := (dC, dI)) (ci := 4) (v := .ref a4) (C := RX5) (T := TX5) (N := 17) hx hb hts iaX5 hown hK hP 0 rfl rfl 5 (by decide) (hts _ q721) (fun _ h9 => h9) rfl dX5_digest_213 ?_
                    refine lv_iload_n hx hb dX5_digest_216 rfl (lv_at hl 1 rfl) ?_
                    refine g_iald hx hb hK hP 4 0 rfl rfl dX5_digest_217 h (fun x29 h => ?_)
                    refine g_i2l hx hb dX5_digest_218 h (fun x30 h => ?_)
                    obtain ⟨c31, hc219, h⟩ := k_b1_e h
                    refine g_callMV_V (As := [.long x30]) (rest := []) hC (mX5_mix l dC dI cyI cyC cyO ob a1 a2 a3 a4 a5 a6 a7 a8 0 c9 v_saved v_savedMany c10 v_buffer v_typed c7 v_rests v_begins v_orders v_orderMany v_spot v_wrong v_isShort c11 c28 x30 hc219) q1027 q1028 q67 q75 q1029 1 hdX5_mix ⟨Nat.le_of_ble_eq_true rfl, Nat.le_of_ble_eq_true rfl⟩ ⟨Nat.le_of_ble_eq_true rfl, Nat.le_of_ble_eq_true rfl⟩ rfl rfl hl.1 (Nat.le_of_ble_eq_true rfl) hP hK hD (va_recv hK hP (ci := 4) (q0 := 0) rfl rfl) hS dX5_digest_219 (fun H locs hPn hk hS => ?_)
                    have hP : va_P (dC, dI) vwCl (wX5 cyI cyC ob a1 a2 a3 a4 a5 a6 a7 a8 0 c9 v_saved v_savedMany c10 v_buffer v_typed c7 v_rests v_begins v_orders v_orderMany v_spot v_wrong v_isShort c11 c31) H := hPn
                    have hD : va_D (k_A (wX5 cyI cyC ob a1 a2 a3 a4 a5 a6 a7 a8 v_thrown v_z v_saved v_savedMany v_spare v_buffer v_typed v_marksBlown v_rests v_begins v_orders v_orderMany v_spot v_wrong v_isShort v_before v_hash)) (wX5 cyI cyC ob a1 a2 a3 a4 a5 a6 a7 a8 0 c9 v_saved v_savedMany c10 v_buffer v_typed c7 v_rests v_begins v_orders v_orderMany v_spot v_wrong v_isShort c11 c31) := k_Dm hD rfl
                    refine g_iinc (dv := 1) hx hb dX5_digest_222 hl (j := 1) rfl (by decide) (by decide) h (fun x32 ls h hl => ?_)
                    have hl : lv_has ls 2 [(1, .int x32), (0, .ref ob)] := hl
                    refine lv_goto (tgt := 203) hx hb dX5_digest_225 (by decide) ?_
                    exact ih203 x32 c31 _ _ _ h hP hS (lv_sub hl [1, 0] rfl)
              exact L203 5000 0 c26 _ _ _ h hP hS (lv_sub hl [1, 0] rfl)
            obtain ⟨S127, hS127⟩ : ∃ z, z = (fX5_digest_s127 K150) := ⟨_, rfl⟩
            rw [← hS127] at h
            have L127 : ∀ (n : Nat) (x33 : Int32) (c34 : Nat → Int32) (c35 : Nat → Int32) (c36 : Nat → Int32) (c37 : Int64) (H : Heap) (locs : List Loc) (ls : Array Slot), k_l5 S127 n x33 c34 c35 c36 c37 = some (r, r_thrown, r_z, r_spare, r_marksBlown, r_before, r_hash) → va_P (dC, dI) vwCl (wX5 cyI cyC ob a1 a2 a3 a4 a5 a6 a7 a8 0 c34 v_saved v_savedMany c35 v_buffer v_typed c7 v_rests v_begins v_orders v_orderMany v_spot v_wrong v_isShort c36 c37) H → va_S (k_A (wX5 cyI cyC ob a1 a2 a3 a4 a5 a6 a7 a8 v_thrown v_z v_saved v_savedMany v_spare v_buffer v_typed v_marksBlown v_rests v_begins v_orders v_orderMany v_spot v_wrong v_isShort v_before v_hash)) s.heap H locs → lv_has ls 2 [(0, .ref ob), (1, .int x33)] → W p l e (k_rm 10 235) s m [.ref ob].toArray below meth c H locs 0 0 (MQ below (qML r (dC, dI) (wX5 cyI cyC ob a1 a2 a3 a4 a5 a6 a7 a8 v_thrown v_z v_saved v_savedMany v_spare v_buffer v_typed v_marksBlown v_rests v_begins v_orders v_orderMany v_spot v_wrong v_isShort v_before v_hash) (wX5 cyI cyC ob a1 a2 a3 a4 a5 a6 a7 a8 r_thrown r_z v_saved v_savedMany r_spare v_buffer v_typed r_marksBlown v_rests v_begins v_orders v_orderMany v_spot v_wrong v_isShort r_before r_hash)) [.ref ob].toArray s 0 0 (k_A (wX5 cyI cyC ob a1 a2 a3 a4 a5 a6 a7 a8 v_thrown v_z v_saved v_savedMany v_spare v_buffer v_typed v_marksBlown v_rests v_begins v_orders v_orderMany v_spot v_wrong v_isShort v_before v_hash))) (F0 m 127 ls []) := by
              intro n
              induction n with
              | zero =>
                intro x33 c34 c35 c36 c37 H locs ls h
                exact (k_l5_0 h).elim
              | succ n ih127 =>
                intro x33 c34 c35 c36 c37 H locs ls h hP hS hl
                have hD : va_D (k_A (wX5 cyI cyC ob a1 a2 a3 a4 a5 a6 a7 a8 v_thrown v_z v_saved v_savedMany v_spare v_buffer v_typed v_marksBlown v_rests v_begins v_orders v_orderMany v_spot v_wrong v_isShort v_before v_hash)) (wX5 cyI cyC ob a1 a2 a3 a4 a5 a6 a7 a8 0 c34 v_saved v_savedMany c35 v_buffer v_typed c7 v_rests v_begins v_orders v_orderMany v_spot v_wrong v_isShort c36 c37) := k_Dm hD rfl
                have h := k_l5_s h
                have h := k_a6 hS127 h
                unfold fX5_digest_s127 at h
                refine lv_iload_n hx hb dX5_digest_127 rfl (lv_at hl 1 rfl) ?_
                refine lv_iconst (v := 2) hx hb dX5_digest_128 (by decide) ?_
                refine g_icmp_gt (tgt := 150) hx hb dX5_digest_129 (by decide) h (fun h => ?_) (fun h => ?_)
                · exact J150 c34 c35 c36 c37 _ _ _ h hP hS (lv_sub hl [0] rfl)
                · refine lv_aload_n hx hb dX5_digest_132 rfl (lv_at hl 0 rfl) ?_
                  refine lv_aload_n hx hb dX5_digest_133 rfl (lv_at hl 0 rfl) ?_
                  refine lv_bipush (v := 6) hx hb dX5_digest_134 (by decide) ?_
                  refine lv_iload_n hx hb dX5_digest_136 rfl (lv_at hl 1 rfl) ?_
                  obtain ⟨x38, c39, c40, c41, hc137, h⟩ := k_b4_e h
                  refine g_callMI_V (As := [.int 6, .int x33]) (rest := [.ref ob]) hC (mX5_wouldHeat l dC dI cyI cyC cyO ob a1 a2 a3 a4 a5 a6 a7 a8 0 c34 v_saved v_savedMany c35 v_buffer v_typed c7 v_rests v_begins v_orders v_orderMany v_spot v_wrong v_isShort c36 c37 6 x33 hc137) q995 q996 q62 q75 q997 2 hdX5_wouldHeat ⟨Nat.le_of_ble_eq_true rfl, Nat.le_of_ble_eq_true rfl⟩ ⟨Nat.le_of_ble_eq_true rfl, Nat.le_of_ble_eq_true rfl⟩ rfl rfl hl.1 (Nat.le_of_ble_eq_true rfl) hP hK hD (va_recv hK hP (ci := 4) (q0 := 0) rfl rfl) hS dX5_digest_137 (fun H locs hPn hk hS => ?_)
                  have hP : va_P (dC, dI) vwCl (wX5 cyI cyC ob a1 a2 a3 a4 a5 a6 a7 a8 0 c39 v_saved v_savedMany c40 v_buffer v_typed c7 v_rests v_begins v_orders v_orderMany v_spot v_wrong v_isShort c41 c37) H := hPn
                  have hD : va_D (k_A (wX5 cyI cyC ob a1 a2 a3 a4 a5 a6 a7 a8 v_thrown v_z v_saved v_savedMany v_spare v_buffer v_typed v_marksBlown v_rests v_begins v_orders v_orderMany v_spot v_wrong v_isShort v_before v_hash)) (wX5 cyI cyC ob a1 a2 a3 a4 a5 a6 a7 a8 0 c39 v_saved v_savedMany c40 v_buffer v_typed c7 v_rests v_begins v_orders v_orderMany v_spot v_wrong v_isShort c41 c37) := k_Dm hD rfl
                  refine g_i2l hx hb dX5_digest_140 h (fun x42 h => ?_)
                  obtain ⟨c43, hc141, h⟩ := k_b1_e h
                  refine g_callMV_V (As := [.long x42]) (rest := []) hC (mX5_mix l dC dI cyI cyC cyO ob a1 a2 a3 a4 a5 a6 a7 a8 0 c39 v_saved v_savedMany c40 v_buffer v_typed c7 v_rests v_begins v_orders v_orderMany v_spot v_wrong v_isShort c41 c37 x42 hc141) q1027 q1028 q67 q75 q1029 1 hdX5_mix ⟨Nat.le_of_ble_eq_true rfl, Nat.le_of_ble_eq_true rfl⟩ ⟨Nat.le_of_ble_eq_true rfl, Nat.le_of_ble_eq_true rfl⟩ rfl rfl hl.1 (Nat.le_of_ble_eq_true rfl) hP hK hD (va_recv hK hP (ci := 4) (q0 := 0) rfl rfl) hS dX5_digest_141 (fun H locs hPn hk hS => ?_)
                  have hP : va_P (dC, dI) vwCl (wX5 cyI cyC ob a1 a2 a3 a4 a5 a6 a7 a8 0 c39 v_saved v_savedMany c40 v_buffer v_typed c7 v_rests v_begins v_orders v_orderMany v_spot v_wrong v_isShort c41 c43) H := hPn
                  have hD : va_D (k_A (wX5 cyI cyC ob a1 a2 a3 a4 a5 a6 a7 a8 v_thrown v_z v_saved v_savedMany v_spare v_buffer v_typed v_marksBlown v_rests v_begins v_orders v_orderMany v_spot v_wrong v_isShort v_before v_hash)) (wX5 cyI cyC ob a1 a2 a3 a4 a5 a6 a7 a8 0 c39 v_saved v_savedMany c40 v_buffer v_typed c7 v_rests v_begins v_orders v_orderMany v_spot v_wrong v_isShort c41 c43) := k_Dm hD rfl
                  refine g_iinc (dv := 1) hx hb dX5_digest_144 hl (j := 1) rfl (by decide) (by decide) h (fun x44 ls h hl => ?_)
                  have hl : lv_has ls 2 [(1, .int x44), (0, .ref ob)] := hl
                  refine lv_goto (tgt := 127) hx hb dX5_digest_147 (by decide) ?_
                  exact ih127 x44 c39 c40 c41 c43 _ _ _ h hP hS (lv_sub hl [1, 0] rfl)
            exact L127 5000 0 c5 c6 v_before c8 _ _ _ h hP hS (lv_sub hl [1, 0] rfl)
          obtain ⟨S102, hS102⟩ : ∃ z, z = (fX5_digest_s102 K125) := ⟨_, rfl⟩
          rw [← hS102] at h
          have L102 : ∀ (n : Nat) (x45 : Int32) (c46 : Nat → Int32) (c47 : Nat → Int32) (c48 : Int32) (c49 : Int64) (H : Heap) (locs : List Loc) (ls : Array Slot), k_l5 S102 n x45 c46 c47 c48 c49 = some (r, r_thrown, r_z, r_spare, r_marksBlown, r_before, r_hash) → va_P (dC, dI) vwCl (wX5 cyI cyC ob a1 a2 a3 a4 a5 a6 a7 a8 0 c46 v_saved v_savedMany c47 v_buffer v_typed c48 v_rests v_begins v_orders v_orderMany v_spot v_wrong v_isShort v_before c49) H → va_S (k_A (wX5 cyI cyC ob a1 a2 a3 a4 a5 a6 a7 a8 v_thrown v_z v_saved v_savedMany v_spare v_buffer v_typed v_marksBlown v_rests v_begins v_orders v_orderMany v_spot v_wrong v_isShort v_before v_hash)) s.heap H locs → lv_has ls 2 [(0, .ref ob), (1, .int x45)] → W p l e (k_rm 10 235) s m [.ref ob].toArray below meth c H locs 0 0 (MQ below (qML r (dC, dI) (wX5 cyI cyC ob a1 a2 a3 a4 a5 a6 a7 a8 v_thrown v_z v_saved v_savedMany v_spare v_buffer v_typed v_marksBlown v_rests v_begins v_orders v_orderMany v_spot v_wrong v_isShort v_before v_hash) (wX5 cyI cyC ob a1 a2 a3 a4 a5 a6 a7 a8 r_thrown r_z v_saved v_savedMany r_spare v_buffer v_typed r_marksBlown v_rests v_begins v_orders v_orderMany v_spot v_wrong v_isShort r_before r_hash)) [.ref ob].toArray s 0 0 (k_A (wX5 cyI cyC ob a1 a2 a3 a4 a5 a6 a7 a8 v_thrown v_z v_saved v_savedMany v_spare v_buffer v_typed v_marksBlown v_rests v_begins v_orders v_orderMany v_spot v_wrong v_isShort v_before v_hash))) (F0 m 102 ls []) := by
            intro n
            induction n with
            | zero =>
              intro x45 c46 c47 c48 c49 H locs ls h
              exact (k_l5_0 h).elim
            | succ n ih102 =>
              intro x45 c46 c47 c48 c49 H locs ls h hP hS hl
              have hD : va_D (k_A (wX5 cyI cyC ob a1 a2 a3 a4 a5 a6 a7 a8 v_thrown v_z v_saved v_savedMany v_spare v_buffer v_typed v_marksBlown v_rests v_begins v_orders v_orderMany v_spot v_wrong v_isShort v_before v_hash)) (wX5 cyI cyC ob a1 a2 a3 a4 a5 a6 a7 a8 0 c46 v_saved v_savedMany c47 v_buffer v_typed c48 v_rests v_begins v_orders v_orderMany v_spot v_wrong v_isShort v_before c49) := k_Dm hD rfl
              have h := k_l5_s h
              have h := k_a6 hS102 h
              unfold fX5_digest_s102 at h
              refine lv_iload_n hx hb dX5_digest_102 rfl (lv_at hl 1 rfl) ?_
              refine lv_iconst (v := 4) hx hb dX5_digest_103 (by decide) ?_
              refine g_icmp_gt (tgt := 125) hx hb dX5_digest_104 (by decide) h (fun h => ?_) (fun h => ?_)
              · exact J125 c46 c47 c48 c49 _ _ _ h hP hS (lv_sub hl [0] rfl)
              · refine lv_aload_n hx hb dX5_digest_107 rfl (lv_at hl 0 rfl) ?_
                refine lv_aload_n hx hb dX5_digest_108 rfl (lv_at hl 0 rfl) ?_
                refine lv_iconst (v := 3) hx hb dX5_digest_109 (by decide) ?_
                refine lv_iconst (v := 5) hx hb dX5_digest_110 (by decide) ?_
                refine lv_iload_n hx hb dX5_digest_111 rfl (lv_at hl 1 rfl) ?_
                obtain ⟨x50, c51, c52, c53, hc112, h⟩ := k_b4_e h
                refine g_callMI_V (As := [.int 3, .int 5, .int x45]) (rest := [.ref ob]) hC (mX5_wouldPut l dC dI cyI cyC cyO ob a1 a2 a3 a4 a5 a6 a7 a8 0 c46 v_saved v_savedMany c47 v_buffer v_typed c48 v_rests v_begins v_orders v_orderMany v_spot v_wrong v_isShort v_before c49 3 5 x45 hc112) q982 q983 q59 q75 q984 3 hdX5_wouldPut ⟨Nat.le_of_ble_eq_true rfl, Nat.le_of_ble_eq_true rfl⟩ ⟨Nat.le_of_ble_eq_true rfl, Nat.le_of_ble_eq_true rfl⟩ rfl rfl hl.1 (Nat.le_of_ble_eq_true rfl) hP hK hD (va_recv hK hP (ci := 4) (q0 := 0) rfl rfl) hS dX5_digest_112 (fun H locs hPn hk hS => ?_)
                have hP : va_P (dC, dI) vwCl (wX5 cyI cyC ob a1 a2 a3 a4 a5 a6 a7 a8 0 c51 v_saved v_savedMany c52 v_buffer v_typed c53 v_rests v_begins v_orders v_orderMany v_spot v_wrong v_isShort v_before c49) H := hPn
                have hD : va_D (k_A (wX5 cyI cyC ob a1 a2 a3 a4 a5 a6 a7 a8 v_thrown v_z v_saved v_savedMany v_spare v_buffer v_typed v_marksBlown v_rests v_begins v_orders v_orderMany v_spot v_wrong v_isShort v_before v_hash)) (wX5 cyI cyC ob a1 a2 a3 a4 a5 a6 a7 a8 0 c51 v_saved v_savedMany c52 v_buffer v_typed c53 v_rests v_begins v_orders v_orderMany v_spot v_wrong v_isShort v_before c49) := k_Dm hD rfl
                refine g_i2l hx hb dX5_digest_115 h (fun x54 h => ?_)
                obtain ⟨c55, hc116, h⟩ := k_b1_e h
                refine g_callMV_V (As := [.long x54]) (rest := []) hC (mX5_mix l dC dI cyI cyC cyO ob a1 a2 a3 a4 a5 a6 a7 a8 0 c51 v_saved v_savedMany c52 v_buffer v_typed c53 v_rests v_begins v_orders v_orderMany v_spot v_wrong v_isShort v_before c49 x54 hc116) q1027 q1028 q67 q75 q1029 1 hdX5_mix ⟨Nat.le_of_ble_eq_true rfl, Nat.le_of_ble_eq_true rfl⟩ ⟨Nat.le_of_ble_eq_true rfl, Nat.le_of_ble_eq_true rfl⟩ rfl rfl hl.1 (Nat.le_of_ble_eq_true rfl) hP hK hD (va_recv hK hP (ci := 4) (q0 := 0) rfl rfl) hS dX5_digest_116 (fun H locs hPn hk hS => ?_)
                have hP : va_P (dC, dI) vwCl (wX5 cyI cyC ob a1 a2 a3 a4 a5 a6 a7 a8 0 c51 v_saved v_savedMany c52 v_buffer v_typed c53 v_rests v_begins v_orders v_orderMany v_spot v_wrong v_isShort v_before c55) H := hPn
                have hD : va_D (k_A (wX5 cyI cyC ob a1 a2 a3 a4 a5 a6 a7 a8 v_thrown v_z v_saved v_savedMany v_spare v_buffer v_typed v_marksBlown v_rests v_begins v_orders v_orderMany v_spot v_wrong v_isShort v_before v_hash)) (wX5 cyI cyC ob a1 a2 a3 a4 a5 a6 a7 a8 0 c51 v_saved v_savedMany c52 v_buffer v_typed c53 v_rests v_begins v_orders v_orderMany v_spot v_wrong v_isShort v_before c55) := k_Dm hD rfl
                refine g_iinc (dv := 1) hx hb dX5_digest_119 hl (j := 1) rfl (by decide) (by decide) h (fun x56 ls h hl => ?_)
                have hl : lv_has ls 2 [(1, .int x56), (0, .ref ob)] := hl
                refine lv_goto (tgt := 102) hx hb dX5_digest_122 (by decide) ?_
                exact ih102 x56 c51 c52 c53 c55 _ _ _ h hP hS (lv_sub hl [1, 0] rfl)
          exact L102 5000 0 v_z v_spare v_marksBlown c4 _ _ _ h hP hS (lv_sub hl [1, 0] rfl)
        obtain ⟨S83, hS83⟩ : ∃ z, z = (fX5_digest_s83 K100 v_z) := ⟨_, rfl⟩
        rw [← hS83] at h
        have L83 : ∀ (n : Nat) (x57 : Int32) (c58 : Int64) (H : Heap) (locs : List Loc) (ls : Array Slot), k_l2 S83 n x57 c58 = some (r, r_thrown, r_z, r_spare, r_marksBlown, r_before, r_hash) → va_P (dC, dI) vwCl (wX5 cyI cyC ob a1 a2 a3 a4 a5 a6 a7 a8 0 v_z v_saved v_savedMany v_spare v_buffer v_typed v_marksBlown v_rests v_begins v_orders v_orderMany v_spot v_wrong v_isShort v_before c58) H → va_S (k_A (wX5 cyI cyC ob a1 a2 a3 a4 a5 a6 a7 a8 v_thrown v_z v_saved v_savedMany v_spare v_buffer v_typed v_marksBlown v_rests v_begins v_orders v_orderMany v_spot v_wrong v_isShort v_before v_hash)) s.heap H locs → lv_has ls 2 [(0, .ref ob), (1, .int x57)] → W p l e (k_rm 10 235) s m [.ref ob].toArray below meth c H locs 0 0 (MQ below (qML r (dC, dI) (wX5 cyI cyC ob a1 a2 a3 a4 a5 a6 a7 a8 v_thrown v_z v_saved v_savedMany v_spare v_buffer v_typed v_marksBlown v_rests v_begins v_orders v_orderMany v_spot v_wrong v_isShort v_before v_hash) (wX5 cyI cyC ob a1 a2 a3 a4 a5 a6 a7 a8 r_thrown r_z v_saved v_savedMany r_spare v_buffer v_typed r_marksBlown v_rests v_begins v_orders v_orderMany v_spot v_wrong v_isShort r_before r_hash)) [.ref ob].toArray s 0 0 (k_A (wX5 cyI cyC ob a1 a2 a3 a4 a5 a6 a7 a8 v_thrown v_z v_saved v_savedMany v_spare v_buffer v_typed v_marksBlown v_rests v_begins v_orders v_orderMany v_spot v_wrong v_isShort v_before v_hash))) (F0 m 83 ls []) := by
          intro n
          induction n with
          | zero =>
            intro x57 c58 H locs ls h
            exact (k_l2_0 h).elim
          | succ n ih83 =>
            intro x57 c58 H locs ls h hP hS hl
            have hD : va_D (k_A (wX5 cyI cyC ob a1 a2 a3 a4 a5 a6 a7 a8 v_thrown v_z v_saved v_savedMany v_spare v_buffer v_typed v_marksBlown v_rests v_begins v_orders v_orderMany v_spot v_wrong v_isShort v_before v_hash)) (wX5 cyI cyC ob a1 a2 a3 a4 a5 a6 a7 a8 0 v_z v_saved v_savedMany v_spare v_buffer v_typed v_marksBlown v_rests v_begins v_orders v_orderMany v_spot v_wrong v_isShort v_before c58) := k_Dm hD rfl
            have h := k_l2_s h
            have h := k_a3 hS83 h
            unfold fX5_digest_s83 at h
            refine lv_iload_n hx hb dX5_digest_83 rfl (lv_at hl 1 rfl) ?_
            refine lv_bipush (v := 16) hx hb dX5_digest_84 (by decide) ?_
            refine g_icmp_ge (tgt := 100) hx hb dX5_digest_86 (by decide) h (fun h => ?_) (fun h => ?_)
            · exact J100 c58 _ _ _ h hP hS (lv_sub hl [0] rfl)
            · refine lv_aload_n hx hb dX5_digest_89 rfl (lv_at hl 0 rfl) ?_
              refine lv_iload_n hx hb dX5_digest_90 rfl (lv_at hl 1 rfl) ?_
              obtain ⟨c59, hc91, h⟩ := k_b1_e h
              refine g_callMV_V (As := [.int x57]) (rest := []) hC (mX5_mixKey l dC dI cyI cyC cyO ob a1 a2 a3 a4 a5 a6 a7 a8 0 v_z v_saved v_savedMany v_spare v_buffer v_typed v_marksBlown v_rests v_begins v_orders v_orderMany v_spot v_wrong v_isShort v_before c58 x57 hc91) q1034 q1035 q69 q75 q1036 1 hdX5_mixKey ⟨Nat.le_of_ble_eq_true rfl, Nat.le_of_ble_eq_true rfl⟩ ⟨Nat.le_of_ble_eq_true rfl, Nat.le_of_ble_eq_true rfl⟩ rfl rfl hl.1 (Nat.le_of_ble_eq_true rfl) hP hK hD (va_recv hK hP (ci := 4) (q0 := 0) rfl rfl) hS dX5_digest_91 (fun H locs hPn hk hS => ?_)
              have hP : va_P (dC, dI) vwCl (wX5 cyI cyC ob a1 a2 a3 a4 a5 a6 a7 a8 0 v_z v_saved v_savedMany v_spare v_buffer v_typed v_marksBlown v_rests v_begins v_orders v_orderMany v_spot v_wrong v_isShort v_before c59) H := hPn
              have hD : va_D (k_A (wX5 cyI cyC ob a1 a2 a3 a4 a5 a6 a7 a8 v_thrown v_z v_saved v_savedMany v_spare v_buffer v_typed v_marksBlown v_rests v_begins v_orders v_orderMany v_spot v_wrong v_isShort v_before v_hash)) (wX5 cyI cyC ob a1 a2 a3 a4 a5 a6 a7 a8 0 v_z v_saved v_savedMany v_spare v_buffer v_typed v_marksBlown v_rests v_begins v_orders v_orderMany v_spot v_wrong v_isShort v_before c59) := k_Dm hD rfl
              refine g_iinc (dv := 1) hx hb dX5_digest_94 hl (j := 1) rfl (by decide) (by decide) h (fun x60 ls h hl => ?_)
              have hl : lv_has ls 2 [(1, .int x60), (0, .ref ob)] := hl
              refine lv_goto (tgt := 83) hx hb dX5_digest_97 (by decide) ?_
              exact ih83 x60 c59 _ _ _ h hP hS (lv_sub hl [1, 0] rfl)
        exact L83 5000 0 c3 _ _ _ h hP hS (lv_sub hl [1, 0] rfl)
      obtain ⟨S64, hS64⟩ : ∃ z, z = (fX5_digest_s64 K81 v_z) := ⟨_, rfl⟩
      rw [← hS64] at h
      have L64 : ∀ (n : Nat) (x61 : Int32) (c62 : Int64) (H : Heap) (locs : List Loc) (ls : Array Slot), k_l2 S64 n x61 c62 = some (r, r_thrown, r_z, r_spare, r_marksBlown, r_before, r_hash) → va_P (dC, dI) vwCl (wX5 cyI cyC ob a1 a2 a3 a4 a5 a6 a7 a8 0 v_z v_saved v_savedMany v_spare v_buffer v_typed v_marksBlown v_rests v_begins v_orders v_orderMany v_spot v_wrong v_isShort v_before c62) H → va_S (k_A (wX5 cyI cyC ob a1 a2 a3 a4 a5 a6 a7 a8 v_thrown v_z v_saved v_savedMany v_spare v_buffer v_typed v_marksBlown v_rests v_begins v_orders v_orderMany v_spot v_wrong v_isShort v_before v_hash)) s.heap H locs → lv_has ls 2 [(0, .ref ob), (1, .int x61)] → W p l e (k_rm 10 235) s m [.ref ob].toArray below meth c H locs 0 0 (MQ below (qML r (dC, dI) (wX5 cyI cyC ob a1 a2 a3 a4 a5 a6 a7 a8 v_thrown v_z v_saved v_savedMany v_spare v_buffer v_typed v_marksBlown v_rests v_begins v_orders v_orderMany v_spot v_wrong v_isShort v_before v_hash) (wX5 cyI cyC ob a1 a2 a3 a4 a5 a6 a7 a8 r_thrown r_z v_saved v_savedMany r_spare v_buffer v_typed r_marksBlown v_rests v_begins v_orders v_orderMany v_spot v_wrong v_isShort r_before r_hash)) [.ref ob].toArray s 0 0 (k_A (wX5 cyI cyC ob a1 a2 a3 a4 a5 a6 a7 a8 v_thrown v_z v_saved v_savedMany v_spare v_buffer v_typed v_marksBlown v_rests v_begins v_orders v_orderMany v_spot v_wrong v_isShort v_before v_hash))) (F0 m 64 ls []) := by
        intro n
        induction n with
        | zero =>
          intro x61 c62 H locs ls h
          exact (k_l2_0 h).elim
        | succ n ih64 =>
          intro x61 c62 H locs ls h hP hS hl
          have hD : va_D (k_A (wX5 cyI cyC ob a1 a2 a3 a4 a5 a6 a7 a8 v_thrown v_z v_saved v_savedMany v_spare v_buffer v_typed v_marksBlown v_rests v_begins v_orders v_orderMany v_spot v_wrong v_isShort v_before v_hash)) (wX5 cyI cyC ob a1 a2 a3 a4 a5 a6 a7 a8 0 v_z v_saved v_savedMany v_spare v_buffer v_typed v_marksBlown v_rests v_begins v_orders v_orderMany v_spot v_wrong v_isShort v_before c62) := k_Dm hD rfl
          have h := k_l2_s h
          have h := k_a3 hS64 h
          unfold fX5_digest_s64 at h
          refine lv_iload_n hx hb dX5_digest_64 rfl (lv_at hl 1 rfl) ?_
          refine lv_bipush (v := 20) hx hb dX5_digest_65 (by decide) ?_
          refine g_icmp_ge (tgt := 81) hx hb dX5_digest_67 (by decide) h (fun h => ?_) (fun h => ?_)
          · exact J81 c62 _ _ _ h hP hS (lv_sub hl [0] rfl)
          · refine lv_aload_n hx hb dX5_digest_70 rfl (lv_at hl 0 rfl) ?_
            refine lv_iload_n hx hb dX5_digest_71 rfl (lv_at hl 1 rfl) ?_
            obtain ⟨c63, hc72, h⟩ := k_b1_e h
            refine g_callMV_V (As := [.int x61]) (rest := []) hC (mX5_mixRow l dC dI cyI cyC cyO ob a1 a2 a3 a4 a5 a6 a7 a8 0 v_z v_saved v_savedMany v_spare v_buffer v_typed v_marksBlown v_rests v_begins v_orders v_orderMany v_spot v_wrong v_isShort v_before c62 x61 hc72) q1031 q1032 q68 q75 q1033 1 hdX5_mixRow ⟨Nat.le_of_ble_eq_true rfl, Nat.le_of_ble_eq_true rfl⟩ ⟨Nat.le_of_ble_eq_true rfl, Nat.le_of_ble_eq_true rfl⟩ rfl rfl hl.1 (Nat.le_of_ble_eq_true rfl) hP hK hD (va_recv hK hP (ci := 4) (q0 := 0) rfl rfl) hS dX5_digest_72 (fun H locs hPn hk hS => ?_)
            have hP : va_P (dC, dI) vwCl (wX5 cyI cyC ob a1 a2 a3 a4 a5 a6 a7 a8 0 v_z v_saved v_savedMany v_spare v_buffer v_typed v_marksBlown v_rests v_begins v_orders v_orderMany v_spot v_wrong v_isShort v_before c63) H := hPn
            have hD : va_D (k_A (wX5 cyI cyC ob a1 a2 a3 a4 a5 a6 a7 a8 v_thrown v_z v_saved v_savedMany v_spare v_buffer v_typed v_marksBlown v_rests v_begins v_orders v_orderMany v_spot v_wrong v_isShort v_before v_hash)) (wX5 cyI cyC ob a1 a2 a3 a4 a5 a6 a7 a8 0 v_z v_saved v_savedMany v_spare v_buffer v_typed v_marksBlown v_rests v_begins v_orders v_orderMany v_spot v_wrong v_isShort v_before c63) := k_Dm hD rfl
            refine g_iinc (dv := 1) hx hb dX5_digest_75 hl (j := 1) rfl (by decide) (by decide) h (fun x64 ls h hl => ?_)
            have hl : lv_has ls 2 [(1, .int x64), (0, .ref ob)] := hl
            refine lv_goto (tgt := 64) hx hb dX5_digest_78 (by decide) ?_
            exact ih64 x64 c63 _ _ _ h hP hS (lv_sub hl [1, 0] rfl)
      exact L64 5000 0 c2 _ _ _ h hP hS (lv_sub hl [1, 0] rfl)
    obtain ⟨S38, hS38⟩ : ∃ z, z = (fX5_digest_s38 K62 v_z) := ⟨_, rfl⟩
    rw [← hS38] at h
    have L38 : ∀ (n : Nat) (x65 : Int32) (c66 : Int64) (H : Heap) (locs : List Loc) (ls : Array Slot), k_l2 S38 n x65 c66 = some (r, r_thrown, r_z, r_spare, r_marksBlown, r_before, r_hash) → va_P (dC, dI) vwCl (wX5 cyI cyC ob a1 a2 a3 a4 a5 a6 a7 a8 0 v_z v_saved v_savedMany v_spare v_buffer v_typed v_marksBlown v_rests v_begins v_orders v_orderMany v_spot v_wrong v_isShort v_before c66) H → va_S (k_A (wX5 cyI cyC ob a1 a2 a3 a4 a5 a6 a7 a8 v_thrown v_z v_saved v_savedMany v_spare v_buffer v_typed v_marksBlown v_rests v_begins v_orders v_orderMany v_spot v_wrong v_isShort v_before v_hash)) s.heap H locs → lv_has ls 2 [(0, .ref ob), (1, .int x65)] → W p l e (k_rm 10 235) s m [.ref ob].toArray below meth c H locs 0 0 (MQ below (qML r (dC, dI) (wX5 cyI cyC ob a1 a2 a3 a4 a5 a6 a7 a8 v_thrown v_z v_saved v_savedMany v_spare v_buffer v_typed v_marksBlown v_rests v_begins v_orders v_orderMany v_spot v_wrong v_isShort v_before v_hash) (wX5 cyI cyC ob a1 a2 a3 a4 a5 a6 a7 a8 r_thrown r_z v_saved v_savedMany r_spare v_buffer v_typed r_marksBlown v_rests v_begins v_orders v_orderMany v_spot v_wrong v_isShort r_before r_hash)) [.ref ob].toArray s 0 0 (k_A (wX5 cyI cyC ob a1 a2 a3 a4 a5 a6 a7 a8 v_thrown v_z v_saved v_savedMany v_spare v_buffer v_typed v_marksBlown v_rests v_begins v_orders v_orderMany v_spot v_wrong v_isShort v_before v_hash))) (F0 m 38 ls []) := by
      intro n
      induction n with
      | zero =>
        intro x65 c66 H locs ls h
        exact (k_l2_0 h).elim
      | succ n ih38 =>
        intro x65 c66 H locs ls h hP hS hl
        have hD : va_D (k_A (wX5 cyI cyC ob a1 a2 a3 a4 a5 a6 a7 a8 v_thrown v_z v_saved v_savedMany v_spare v_buffer v_typed v_marksBlown v_rests v_begins v_orders v_orderMany v_spot v_wrong v_isShort v_before v_hash)) (wX5 cyI cyC ob a1 a2 a3 a4 a5 a6 a7 a8 0 v_z v_saved v_savedMany v_spare v_buffer v_typed v_marksBlown v_rests v_begins v_orders v_orderMany v_spot v_wrong v_isShort v_before c66) := k_Dm hD rfl
        have h := k_l2_s h
        have h := k_a3 hS38 h
        unfold fX5_digest_s38 at h
        refine lv_iload_n hx hb dX5_digest_38 rfl (lv_at hl 1 rfl) ?_
        refine lv_iconst (v := 4) hx hb dX5_digest_39 (by decide) ?_
        refine g_icmp_ge (tgt := 62) hx hb dX5_digest_40 (by decide) h (fun h => ?_) (fun h => ?_)
        · exact J62 c66 _ _ _ h hP hS (lv_sub hl [0] rfl)
        · refine lv_aload_n hx hb dX5_digest_43 rfl (lv_at hl 0 rfl) ?_
          refine lv_aload_n hx hb dX5_digest_44 rfl (lv_at hl 0 rfl) ?_
          refine va_get (D := (dC, dI)) (ci := 4) (v := .ref a1) (C := RX5) (T := TX5) (N := 17) hx hb hts iaX5 hown hK hP 0 rfl rfl 1 (by decide) (hts _ q717) (fun _ h9 => h9) rfl dX5_digest_45 ?_
          refine lv_iconst (v := 3) hx hb dX5_digest_48 (by decide) ?_
          refine lv_iload_n hx hb dX5_digest_49 rfl (lv_at hl 1 rfl) ?_
          refine g_iadd hx hb dX5_digest_50 h (fun x67 h => ?_)
          refine g_iald hx hb hK hP 1 0 rfl rfl dX5_digest_51 h (fun x68 h => ?_)
          refine g_i2l hx hb dX5_digest_52 h (fun x69 h => ?_)
          obtain ⟨c70, hc53, h⟩ := k_b1_e h
          refine g_callMV_V (As := [.long x69]) (rest := []) hC (mX5_mix l dC dI cyI cyC cyO ob a1 a2 a3 a4 a5 a6 a7 a8 0 v_z v_saved v_savedMany v_spare v_buffer v_typed v_marksBlown v_rests v_begins v_orders v_orderMany v_spot v_wrong v_isShort v_before c66 x69 hc53) q1027 q1028 q67 q75 q1029 1 hdX5_mix ⟨Nat.le_of_ble_eq_true rfl, Nat.le_of_ble_eq_true rfl⟩ ⟨Nat.le_of_ble_eq_true rfl, Nat.le_of_ble_eq_true rfl⟩ rfl rfl hl.1 (Nat.le_of_ble_eq_true rfl) hP hK hD (va_recv hK hP (ci := 4) (q0 := 0) rfl rfl) hS dX5_digest_53 (fun H locs hPn hk hS => ?_)
          have hP : va_P (dC, dI) vwCl (wX5 cyI cyC ob a1 a2 a3 a4 a5 a6 a7 a8 0 v_z v_saved v_savedMany v_spare v_buffer v_typed v_marksBlown v_rests v_begins v_orders v_orderMany v_spot v_wrong v_isShort v_before c70) H := hPn
          have hD : va_D (k_A (wX5 cyI cyC ob a1 a2 a3 a4 a5 a6 a7 a8 v_thrown v_z v_saved v_savedMany v_spare v_buffer v_typed v_marksBlown v_rests v_begins v_orders v_orderMany v_spot v_wrong v_isShort v_before v_hash)) (wX5 cyI cyC ob a1 a2 a3 a4 a5 a6 a7 a8 0 v_z v_saved v_savedMany v_spare v_buffer v_typed v_marksBlown v_rests v_begins v_orders v_orderMany v_spot v_wrong v_isShort v_before c70) := k_Dm hD rfl
          refine g_iinc (dv := 1) hx hb dX5_digest_56 hl (j := 1) rfl (by decide) (by decide) h (fun x71 ls h hl => ?_)
          have hl : lv_has ls 2 [(1, .int x71), (0, .ref ob)] := hl
          refine lv_goto (tgt := 38) hx hb dX5_digest_59 (by decide) ?_
          exact ih38 x71 c70 _ _ _ h hP hS (lv_sub hl [1, 0] rfl)
    exact L38 5000 0 c1 _ _ _ h hP hS (lv_sub hl [1, 0] rfl)
  obtain ⟨S14, hS14⟩ : ∃ z, z = (fX5_digest_s14 K36 v_z v_savedMany) := ⟨_, rfl⟩
  rw [← hS14] at h
  have L14 : ∀ (n : Nat) (x72 : Int32) (c73 : Int64) (H : Heap) (locs : List Loc) (ls : Array Slot), k_l2 S14 n x72 c73 = some (r, r_thrown, r_z, r_spare, r_marksBlown, r_before, r_hash) → va_P (dC, dI) vwCl (wX5 cyI cyC ob a1 a2 a3 a4 a5 a6 a7 a8 0 v_z v_saved v_savedMany v_spare v_buffer v_typed v_marksBlown v_rests v_begins v_orders v_orderMany v_spot v_wrong v_isShort v_before c73) H → va_S (k_A (wX5 cyI cyC ob a1 a2 a3 a4 a5 a6 a7 a8 v_thrown v_z v_saved v_savedMany v_spare v_buffer v_typed v_marksBlown v_rests v_begins v_orders v_orderMany v_spot v_wrong v_isShort v_before v_hash)) s.heap H locs → lv_has ls 2 [(0, .ref ob), (1, .int x72)] → W p l e (k_rm 10 235) s m [.ref ob].toArray below meth c H locs 0 0 (MQ below (qML r (dC, dI) (wX5 cyI cyC ob a1 a2 a3 a4 a5 a6 a7 a8 v_thrown v_z v_saved v_savedMany v_spare v_buffer v_typed v_marksBlown v_rests v_begins v_orders v_orderMany v_spot v_wrong v_isShort v_before v_hash) (wX5 cyI cyC ob a1 a2 a3 a4 a5 a6 a7 a8 r_thrown r_z v_saved v_savedMany r_spare v_buffer v_typed r_marksBlown v_rests v_begins v_orders v_orderMany v_spot v_wrong v_isShort r_before r_hash)) [.ref ob].toArray s 0 0 (k_A (wX5 cyI cyC ob a1 a2 a3 a4 a5 a6 a7 a8 v_thrown v_z v_saved v_savedMany v_spare v_buffer v_typed v_marksBlown v_rests v_begins v_orders v_orderMany v_spot v_wrong v_isShort v_before v_hash))) (F0 m 14 ls []) := by
    intro n
    induction n with
    | zero =>
      intro x72 c73 H locs ls h
      exact (k_l2_0 h).elim
    | succ n ih14 =>
      intro x72 c73 H locs ls h hP hS hl
      have hD : va_D (k_A (wX5 cyI cyC ob a1 a2 a3 a4 a5 a6 a7 a8 v_thrown v_z v_saved v_savedMany v_spare v_buffer v_typed v_marksBlown v_rests v_begins v_orders v_orderMany v_spot v_wrong v_isShort v_before v_hash)) (wX5 cyI cyC ob a1 a2 a3 a4 a5 a6 a7 a8 0 v_z v_saved v_savedMany v_spare v_buffer v_typed v_marksBlown v_rests v_begins v_orders v_orderMany v_spot v_wrong v_isShort v_before c73) := k_Dm hD rfl
      have h := k_l2_s h
      have h := k_a3 hS14 h
      unfold fX5_digest_s14 at h
      refine lv_iload_n hx hb dX5_digest_14 rfl (lv_at hl 1 rfl) ?_
      refine lv_bipush (v := 12) hx hb dX5_digest_15 (by decide) ?_
      refine g_icmp_gt (tgt := 36) hx hb dX5_digest_17 (by decide) h (fun h => ?_) (fun h => ?_)
      · exact J36 c73 _ _ _ h hP hS (lv_sub hl [0] rfl)
      · refine lv_aload_n hx hb dX5_digest_20 rfl (lv_at hl 0 rfl) ?_
        refine lv_aload_n hx hb dX5_digest_21 rfl (lv_at hl 0 rfl) ?_
        refine lv_iload_n hx hb dX5_digest_22 rfl (lv_at hl 1 rfl) ?_
        obtain ⟨x74, hc23, h⟩ := k_b1_e h
        refine g_callRI_V (As := [.int x72]) (rest := [.ref ob]) hC (mX5_counted l dC dI cyI cyC cyO ob a1 a2 a3 a4 a5 a6 a7 a8 0 v_z v_saved v_savedMany v_spare v_buffer v_typed v_marksBlown v_rests v_begins v_orders v_orderMany v_spot v_wrong v_isShort v_before c73 x72 hc23) q962 q963 q55 q75 q964 1 hdX5_counted ⟨Nat.le_of_ble_eq_true rfl, Nat.le_of_ble_eq_true rfl⟩ ⟨Nat.le_of_ble_eq_true rfl, Nat.le_of_ble_eq_true rfl⟩ rfl rfl hl.1 (Nat.le_of_ble_eq_true rfl) hP hK (va_recv hK hP (ci := 4) (q0 := 0) rfl rfl) hS dX5_digest_23 (fun H locs hk hS => ?_)
        have hP := k_kept hP hk
        refine g_i2l hx hb dX5_digest_26 h (fun x75 h => ?_)
        obtain ⟨c76, hc27, h⟩ := k_b1_e h
        refine g_callMV_V (As := [.long x75]) (rest := []) hC (mX5_mix l dC dI cyI cyC cyO ob a1 a2 a3 a4 a5 a6 a7 a8 0 v_z v_saved v_savedMany v_spare v_buffer v_typed v_marksBlown v_rests v_begins v_orders v_orderMany v_spot v_wrong v_isShort v_before c73 x75 hc27) q1027 q1028 q67 q75 q1029 1 hdX5_mix ⟨Nat.le_of_ble_eq_true rfl, Nat.le_of_ble_eq_true rfl⟩ ⟨Nat.le_of_ble_eq_true rfl, Nat.le_of_ble_eq_true rfl⟩ rfl rfl hl.1 (Nat.le_of_ble_eq_true rfl) hP hK hD (va_recv hK hP (ci := 4) (q0 := 0) rfl rfl) hS dX5_digest_27 (fun H locs hPn hk hS => ?_)
        have hP : va_P (dC, dI) vwCl (wX5 cyI cyC ob a1 a2 a3 a4 a5 a6 a7 a8 0 v_z v_saved v_savedMany v_spare v_buffer v_typed v_marksBlown v_rests v_begins v_orders v_orderMany v_spot v_wrong v_isShort v_before c76) H := hPn
        have hD : va_D (k_A (wX5 cyI cyC ob a1 a2 a3 a4 a5 a6 a7 a8 v_thrown v_z v_saved v_savedMany v_spare v_buffer v_typed v_marksBlown v_rests v_begins v_orders v_orderMany v_spot v_wrong v_isShort v_before v_hash)) (wX5 cyI cyC ob a1 a2 a3 a4 a5 a6 a7 a8 0 v_z v_saved v_savedMany v_spare v_buffer v_typed v_marksBlown v_rests v_begins v_orders v_orderMany v_spot v_wrong v_isShort v_before c76) := k_Dm hD rfl
        refine g_iinc (dv := 1) hx hb dX5_digest_30 hl (j := 1) rfl (by decide) (by decide) h (fun x77 ls h hl => ?_)
        have hl : lv_has ls 2 [(1, .int x77), (0, .ref ob)] := hl
        refine lv_goto (tgt := 14) hx hb dX5_digest_33 (by decide) ?_
        exact ih14 x77 c76 _ _ _ h hP hS (lv_sub hl [1, 0] rfl)
  exact L14 5000 0 2683 _ _ _ h hP hS (lv_sub hl [1, 0] rfl)
