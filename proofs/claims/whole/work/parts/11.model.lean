def fX5_thrown (v_thrown : Int32) : Option (Int32) :=
  some v_thrown
theorem hdX5_thrown : yX5_thrown.cls = RX5 ∧ yX5_thrown.cls ≠ "java/lang/invoke/MethodHandle" ∧ yX5_thrown.cls ≠ "java/lang/invoke/VarHandle" ∧ (parseMethodDescriptor yX5_thrown.desc).map (fun d => d.parameters.length) = some 0 := by decide +kernel
set_option maxRecDepth 100000 in
set_option maxHeartbeats 4000000 in
theorem mX5_thrown (l : Launch) (dC : Nat → ClassId) (dI : Nat → Nat → Nat) (cyI cyC cyO : ClassId) (ob a1 a2 a3 a4 a5 a6 a7 a8 : Nat) (v_thrown : Int32) (v_z : Nat → Int32) (v_saved : Nat → Int32) (v_savedMany : Int32) (v_spare : Nat → Int32) (v_buffer : Nat → Int32) (v_typed : Int32) (v_marksBlown : Int32) (v_rests : Nat → Int32) (v_begins : Nat → Int32) (v_orders : Nat → Int32) (v_orderMany : Int32) (v_spot : Int32) (v_wrong : Int32) (v_isShort : Int32) (v_before : Nat → Int32) (v_hash : Int64)  {r : Int32} (hf : fX5_thrown v_thrown = some r) : MetRI l yX5_thrown cX5_thrown 1 (some .int) 0 0 [.ref ob] (dC, dI) (tyS cyI cyC cyO) (wX5 cyI cyC ob a1 a2 a3 a4 a5 a6 a7 a8 v_thrown v_z v_saved v_savedMany v_spare v_buffer v_typed v_marksBlown v_rests v_begins v_orders v_orderMany v_spot v_wrong v_isShort v_before v_hash) r := by
  refine metRI_of (by decide) (Nat.le_of_ble_eq_true rfl) ?_
  intro p e s m below meth c ls hC hr hlk hP hK hl
  have hC : CallFix p m c cX5_thrown 1 s [.ref ob].toArray wA RX5 := hC
  obtain ⟨hx, hb, hml, hown, hts⟩ := id hC
  have hS : va_S kF s.heap s.heap [] := va_S.rf
  have hl : lv_has ls 1 [(0, .ref ob)] := hl
  have h := hf
  unfold fX5_thrown at h
  obtain ⟨H, hH⟩ : ∃ H, H = s.heap := ⟨_, rfl⟩
  obtain ⟨locs, hlo⟩ : ∃ locs : List Loc, locs = [] := ⟨_, rfl⟩
  rw [← hH] at hP
  rw [← hlo] at hS
  have hS : va_S kF s.heap H locs := by rw [hH]; exact hS
  show W p l e (k_rm 0 0) s m [.ref ob].toArray below meth c s.heap [] 0 0 _ _
  rw [← hlo, ← hH]
  refine lv_aload_n hx hb dX5_thrown_0 rfl (lv_at hl 0 rfl) ?_
  refine va_get (D := (dC, dI)) (ci := 4) (v := .int v_thrown) (C := RX5) (T := TX5) (N := 17) hx hb hts iaX5 hown hK hP 0 rfl rfl 0 (by decide) (hts _ q716) (fun _ h9 => h9) rfl dX5_thrown_1 ?_
  exact g_retRI hx hb hr hlk hS h dX5_thrown_4
def fX5_save_s52 (K86 : (Nat → Int32) → Option ((Nat → Int32) × Int32)) (c2 : Int32) (v_z : Nat → Int32) (rec52 : Int32 → (Nat → Int32) → Option ((Nat → Int32) × Int32)) (x5 : Int32) (c6 : Nat → Int32) : Option ((Nat → Int32) × Int32) :=
  k_if (327 ≤ x5)
  (
    K86 c6)
  (
    k_let (c2 * 327) fun (x7 : Int32) =>
    k_let (x7 + x5) fun (x8 : Int32) =>
    k_ck x5 327 <| k_let (v_z x5.toNatClampNeg) fun (x9 : Int32) =>
    k_ck x8 1962 <| k_let (upd c6 x8.toNatClampNeg x9) fun (c10 : Nat → Int32) =>
    k_let (x5 + 1) fun (x11 : Int32) =>
    rec52 x11 c10)
def fX5_save_s11 (K40 : (Nat → Int32) → Option ((Nat → Int32) × Int32)) (rec11 : Int32 → (Nat → Int32) → Option ((Nat → Int32) × Int32)) (x14 : Int32) (c15 : Nat → Int32) : Option ((Nat → Int32) × Int32) :=
  k_if (1635 ≤ x14)
  (
    K40 c15)
  (
    k_let (x14 + 327) fun (x16 : Int32) =>
    k_ck x16 1962 <| k_let (c15 x16.toNatClampNeg) fun (x17 : Int32) =>
    k_ck x14 1962 <| k_let (upd c15 x14.toNatClampNeg x17) fun (c18 : Nat → Int32) =>
    k_let (x14 + 1) fun (x19 : Int32) =>
    rec11 x19 c18)
def fX5_save (v_z : Nat → Int32) (v_saved : Nat → Int32) (v_savedMany : Int32) : Option ((Nat → Int32) × Int32) :=
  k_j2
  (fun (c1 : Nat → Int32) (c2 : Int32) =>
    k_j1
    (fun (c3 : Nat → Int32) =>
      k_let (c2 + 1) fun (x4 : Int32) =>
      some (c3, x4))
    (fun K86 =>
    k_l2 (fX5_save_s52 K86 c2 v_z) 5000 0 c1))
  (fun K50 =>
  k_if (v_savedMany = 6)
  (
    k_j1
    (fun (c12 : Nat → Int32) =>
      k_let (v_savedMany - 1) fun (x13 : Int32) =>
      K50 c12 x13)
    (fun K40 =>
    k_l2 (fX5_save_s11 K40) 5000 0 v_saved))
  (
    K50 v_saved v_savedMany))
theorem hdX5_save : yX5_save.cls = RX5 ∧ yX5_save.cls ≠ "java/lang/invoke/MethodHandle" ∧ yX5_save.cls ≠ "java/lang/invoke/VarHandle" ∧ (parseMethodDescriptor yX5_save.desc).map (fun d => d.parameters.length) = some 0 := by decide +kernel
set_option maxRecDepth 100000 in
set_option maxHeartbeats 4000000 in
theorem mX5_save (l : Launch) (dC : Nat → ClassId) (dI : Nat → Nat → Nat) (cyI cyC cyO : ClassId) (ob a1 a2 a3 a4 a5 a6 a7 a8 : Nat) (v_thrown : Int32) (v_z : Nat → Int32) (v_saved : Nat → Int32) (v_savedMany : Int32) (v_spare : Nat → Int32) (v_buffer : Nat → Int32) (v_typed : Int32) (v_marksBlown : Int32) (v_rests : Nat → Int32) (v_begins : Nat → Int32) (v_orders : Nat → Int32) (v_orderMany : Int32) (v_spot : Int32) (v_wrong : Int32) (v_isShort : Int32) (v_before : Nat → Int32) (v_hash : Int64)  {r_saved : Nat → Int32} {r_savedMany : Int32} (hf : fX5_save v_z v_saved v_savedMany = some (r_saved, r_savedMany)) : MetMV l yX5_save cX5_save 2 none 0 0 [.ref ob] (dC, dI) (tyS cyI cyC cyO) (wX5 cyI cyC ob a1 a2 a3 a4 a5 a6 a7 a8 v_thrown v_z v_saved v_savedMany v_spare v_buffer v_typed v_marksBlown v_rests v_begins v_orders v_orderMany v_spot v_wrong v_isShort v_before v_hash) (wX5 cyI cyC ob a1 a2 a3 a4 a5 a6 a7 a8 v_thrown v_z r_saved r_savedMany v_spare v_buffer v_typed v_marksBlown v_rests v_begins v_orders v_orderMany v_spot v_wrong v_isShort v_before v_hash) := by
  refine metMV_of (by decide) (Nat.le_of_ble_eq_true rfl) ?_
  intro p e s m below meth c ls hC hr hlk hP hK hD hl
  have hC : CallFix p m c cX5_save 2 s [.ref ob].toArray wA RX5 := hC
  obtain ⟨hx, hb, hml, hown, hts⟩ := id hC
  have hS : va_S (k_A (wX5 cyI cyC ob a1 a2 a3 a4 a5 a6 a7 a8 v_thrown v_z v_saved v_savedMany v_spare v_buffer v_typed v_marksBlown v_rests v_begins v_orders v_orderMany v_spot v_wrong v_isShort v_before v_hash)) s.heap s.heap [] := va_S.rf
  have hl : lv_has ls 2 [(0, .ref ob)] := hl
  have h := hf
  unfold fX5_save at h
  obtain ⟨H, hH⟩ : ∃ H, H = s.heap := ⟨_, rfl⟩
  obtain ⟨locs, hlo⟩ : ∃ locs : List Loc, locs = [] := ⟨_, rfl⟩
  rw [← hH] at hP
  rw [← hlo] at hS
  have hS : va_S (k_A (wX5 cyI cyC ob a1 a2 a3 a4 a5 a6 a7 a8 v_thrown v_z v_saved v_savedMany v_spare v_buffer v_typed v_marksBlown v_rests v_begins v_orders v_orderMany v_spot v_wrong v_isShort v_before v_hash)) s.heap H locs := by rw [hH]; exact hS
  show W p l e (k_rm 0 0) s m [.ref ob].toArray below meth c s.heap [] 0 0 _ _
  rw [← hlo, ← hH]
  refine lv_aload_n hx hb dX5_save_0 rfl (lv_at hl 0 rfl) ?_
  refine va_get (D := (dC, dI)) (ci := 4) (v := .int v_savedMany) (C := RX5) (T := TX5) (N := 17) hx hb hts iaX5 hown hK hP 0 rfl rfl 3 (by decide) (hts _ q719) (fun _ h9 => h9) rfl dX5_save_1 ?_
  refine lv_bipush (v := 6) hx hb dX5_save_4 (by decide) ?_
  obtain ⟨K50, hK50, h⟩ := k_j2_e h
  have J50 : ∀ (c1 : Nat → Int32) (c2 : Int32) (H : Heap) (locs : List Loc) (ls : Array Slot), K50 c1 c2 = some (r_saved, r_savedMany) → va_P (dC, dI) vwCl (wX5 cyI cyC ob a1 a2 a3 a4 a5 a6 a7 a8 v_thrown v_z c1 c2 v_spare v_buffer v_typed v_marksBlown v_rests v_begins v_orders v_orderMany v_spot v_wrong v_isShort v_before v_hash) H → va_S (k_A (wX5 cyI cyC ob a1 a2 a3 a4 a5 a6 a7 a8 v_thrown v_z v_saved v_savedMany v_spare v_buffer v_typed v_marksBlown v_rests v_begins v_orders v_orderMany v_spot v_wrong v_isShort v_before v_hash)) s.heap H locs → lv_has ls 2 [(0, .ref ob)] → W p l e (k_rm 0 0) s m [.ref ob].toArray below meth c H locs 0 0 (MQ below (qMV (dC, dI) (wX5 cyI cyC ob a1 a2 a3 a4 a5 a6 a7 a8 v_thrown v_z v_saved v_savedMany v_spare v_buffer v_typed v_marksBlown v_rests v_begins v_orders v_orderMany v_spot v_wrong v_isShort v_before v_hash) (wX5 cyI cyC ob a1 a2 a3 a4 a5 a6 a7 a8 v_thrown v_z r_saved r_savedMany v_spare v_buffer v_typed v_marksBlown v_rests v_begins v_orders v_orderMany v_spot v_wrong v_isShort v_before v_hash)) [.ref ob].toArray s 0 0 (k_A (wX5 cyI cyC ob a1 a2 a3 a4 a5 a6 a7 a8 v_thrown v_z v_saved v_savedMany v_spare v_buffer v_typed v_marksBlown v_rests v_begins v_orders v_orderMany v_spot v_wrong v_isShort v_before v_hash))) (F0 m 50 ls []) := by
    intro c1 c2 H locs ls h hP hS hl
    have hD : va_D (k_A (wX5 cyI cyC ob a1 a2 a3 a4 a5 a6 a7 a8 v_thrown v_z v_saved v_savedMany v_spare v_buffer v_typed v_marksBlown v_rests v_begins v_orders v_orderMany v_spot v_wrong v_isShort v_before v_hash)) (wX5 cyI cyC ob a1 a2 a3 a4 a5 a6 a7 a8 v_thrown v_z c1 c2 v_spare v_buffer v_typed v_marksBlown v_rests v_begins v_orders v_orderMany v_spot v_wrong v_isShort v_before v_hash) := k_Dm hD rfl
    have h := k_a2 hK50 h
    refine lv_iconst (v := 0) hx hb dX5_save_50 (by decide) ?_
    refine lv_istore_n (lv' := [(1, .int 0), (0, .ref ob)]) hx hb dX5_save_51 rfl hl (by decide) rfl (fun ls hl => ?_)
    obtain ⟨K86, hK86, h⟩ := k_j1_e h
    have J86 : ∀ (c3 : Nat → Int32) (H : Heap) (locs : List Loc) (ls : Array Slot), K86 c3 = some (r_saved, r_savedMany) → va_P (dC, dI) vwCl (wX5 cyI cyC ob a1 a2 a3 a4 a5 a6 a7 a8 v_thrown v_z c3 c2 v_spare v_buffer v_typed v_marksBlown v_rests v_begins v_orders v_orderMany v_spot v_wrong v_isShort v_before v_hash) H → va_S (k_A (wX5 cyI cyC ob a1 a2 a3 a4 a5 a6 a7 a8 v_thrown v_z v_saved v_savedMany v_spare v_buffer v_typed v_marksBlown v_rests v_begins v_orders v_orderMany v_spot v_wrong v_isShort v_before v_hash)) s.heap H locs → lv_has ls 2 [(0, .ref ob)] → W p l e (k_rm 0 0) s m [.ref ob].toArray below meth c H locs 0 0 (MQ below (qMV (dC, dI) (wX5 cyI cyC ob a1 a2 a3 a4 a5 a6 a7 a8 v_thrown v_z v_saved v_savedMany v_spare v_buffer v_typed v_marksBlown v_rests v_begins v_orders v_orderMany v_spot v_wrong v_isShort v_before v_hash) (wX5 cyI cyC ob a1 a2 a3 a4 a5 a6 a7 a8 v_thrown v_z r_saved r_savedMany v_spare v_buffer v_typed v_marksBlown v_rests v_begins v_orders v_orderMany v_spot v_wrong v_isShort v_before v_hash)) [.ref ob].toArray s 0 0 (k_A (wX5 cyI cyC ob a1 a2 a3 a4 a5 a6 a7 a8 v_thrown v_z v_saved v_savedMany v_spare v_buffer v_typed v_marksBlown v_rests v_begins v_orders v_orderMany v_spot v_wrong v_isShort v_before v_hash))) (F0 m 86 ls []) := by
      intro c3 H locs ls h hP hS hl
      have hD : va_D (k_A (wX5 cyI cyC ob a1 a2 a3 a4 a5 a6 a7 a8 v_thrown v_z v_saved v_savedMany v_spare v_buffer v_typed v_marksBlown v_rests v_begins v_orders v_orderMany v_spot v_wrong v_isShort v_before v_hash)) (wX5 cyI cyC ob a1 a2 a3 a4 a5 a6 a7 a8 v_thrown v_z c3 c2 v_spare v_buffer v_typed v_marksBlown v_rests v_begins v_orders v_orderMany v_spot v_wrong v_isShort v_before v_hash) := k_Dm hD rfl
      have h := k_a1 hK86 h
      refine lv_aload_n hx hb dX5_save_86 rfl (lv_at hl 0 rfl) ?_
      refine lv_dup hx hb dX5_save_87 rfl ?_
      refine va_get (D := (dC, dI)) (ci := 4) (v := .int c2) (C := RX5) (T := TX5) (N := 17) hx hb hts iaX5 hown hK hP 0 rfl rfl 3 (by decide) (hts _ q719) (fun _ h9 => h9) rfl dX5_save_88 ?_
      refine lv_iconst (v := 1) hx hb dX5_save_91 (by decide) ?_
      refine g_iadd hx hb dX5_save_92 h (fun x4 h => ?_)
      refine va_put (D := (dC, dI)) (ci := 4) (v := .int x4) (ty := .int) (C := RX5) (T := TX5) (N := 17) hx hb hts iaX5 tyX5 tyX5_ok nmX5 hown hK hP hD hS 0 rfl rfl 3 (by decide) (hts _ q719) (fun _ h9 => h9) rfl (by decide +kernel) rfl rfl (Nat.le_of_ble_eq_true rfl) dX5_save_93 (fun H locs hP _ hS => ?_)
      have hP : va_P (dC, dI) vwCl (wX5 cyI cyC ob a1 a2 a3 a4 a5 a6 a7 a8 v_thrown v_z c3 x4 v_spare v_buffer v_typed v_marksBlown v_rests v_begins v_orders v_orderMany v_spot v_wrong v_isShort v_before v_hash) H := hP
      have hD : va_D (k_A (wX5 cyI cyC ob a1 a2 a3 a4 a5 a6 a7 a8 v_thrown v_z v_saved v_savedMany v_spare v_buffer v_typed v_marksBlown v_rests v_begins v_orders v_orderMany v_spot v_wrong v_isShort v_before v_hash)) (wX5 cyI cyC ob a1 a2 a3 a4 a5 a6 a7 a8 v_thrown v_z c3 x4 v_spare v_buffer v_typed v_marksBlown v_rests v_begins v_orders v_orderMany v_spot v_wrong v_isShort v_before v_hash) := k_Dm hD rfl
      obtain ⟨e0, e1⟩ := k_t2 h
      exact g_retMV hx hb hr hlk hS (by rw [← e0, ← e1]; exact hP) dX5_save_96
    obtain ⟨S52, hS52⟩ : ∃ z, z = (fX5_save_s52 K86 c2 v_z) := ⟨_, rfl⟩
    rw [← hS52] at h
    have L52 : ∀ (n : Nat) (x5 : Int32) (c6 : Nat → Int32) (H : Heap) (locs : List Loc) (ls : Array Slot), k_l2 S52 n x5 c6 = some (r_saved, r_savedMany) → va_P (dC, dI) vwCl (wX5 cyI cyC ob a1 a2 a3 a4 a5 a6 a7 a8 v_thrown v_z c6 c2 v_spare v_buffer v_typed v_marksBlown v_rests v_begins v_orders v_orderMany v_spot v_wrong v_isShort v_before v_hash) H → va_S (k_A (wX5 cyI cyC ob a1 a2 a3 a4 a5 a6 a7 a8 v_thrown v_z v_saved v_savedMany v_spare v_buffer v_typed v_marksBlown v_rests v_begins v_orders v_orderMany v_spot v_wrong v_isShort v_before v_hash)) s.heap H locs → lv_has ls 2 [(0, .ref ob), (1, .int x5)] → W p l e (k_rm 0 0) s m [.ref ob].toArray below meth c H locs 0 0 (MQ below (qMV (dC, dI) (wX5 cyI cyC ob a1 a2 a3 a4 a5 a6 a7 a8 v_thrown v_z v_saved v_savedMany v_spare v_buffer v_typed v_marksBlown v_rests v_begins v_orders v_orderMany v_spot v_wrong v_isShort v_before v_hash) (wX5 cyI cyC ob a1 a2 a3 a4 a5 a6 a7 a8 v_thrown v_z r_saved r_savedMany v_spare v_buffer v_typed v_marksBlown v_rests v_begins v_orders v_orderMany v_spot v_wrong v_isShort v_before v_hash)) [.ref ob].toArray s 0 0 (k_A (wX5 cyI cyC ob a1 a2 a3 a4 a5 a6 a7 a8 v_thrown v_z v_saved v_savedMany v_spare v_buffer v_typed v_marksBlown v_rests v_begins v_orders v_orderMany v_spot v_wrong v_isShort v_before v_hash))) (F0 m 52 ls []) := by
      intro n
      induction n with
      | zero =>
        intro x5 c6 H locs ls h
        exact (k_l2_0 h).elim
      | succ n ih52 =>
        intro x5 c6 H locs ls h hP hS hl
        have hD : va_D (k_A (wX5 cyI cyC ob a1 a2 a3 a4 a5 a6 a7 a8 v_thrown v_z v_saved v_savedMany v_spare v_buffer v_typed v_marksBlown v_rests v_begins v_orders v_orderMany v_spot v_wrong v_isShort v_before v_hash)) (wX5 cyI cyC ob a1 a2 a3 a4 a5 a6 a7 a8 v_thrown v_z c6 c2 v_spare v_buffer v_typed v_marksBlown v_rests v_begins v_orders v_orderMany v_spot v_wrong v_isShort v_before v_hash) := k_Dm hD rfl
        have h := k_l2_s h
        have h := k_a3 hS52 h
        unfold fX5_save_s52 at h
        refine lv_iload_n hx hb dX5_save_52 rfl (lv_at hl 1 rfl) ?_
        refine lv_sipush (v := 327) hx hb dX5_save_53 (by decide) ?_
        refine g_icmp_ge (tgt := 86) hx hb dX5_save_56 (by decide) h (fun h => ?_) (fun h => ?_)
        · exact J86 c6 _ _ _ h hP hS (lv_sub hl [0] rfl)
        · refine lv_aload_n hx hb dX5_save_59 rfl (lv_at hl 0 rfl) ?_
          refine va_get (D := (dC, dI)) (ci := 4) (v := .ref a2) (C := RX5) (T := TX5) (N := 17) hx hb hts iaX5 hown hK hP 0 rfl rfl 2 (by decide) (hts _ q718) (fun _ h9 => h9) rfl dX5_save_60 ?_
          refine lv_aload_n hx hb dX5_save_63 rfl (lv_at hl 0 rfl) ?_
          refine va_get (D := (dC, dI)) (ci := 4) (v := .int c2) (C := RX5) (T := TX5) (N := 17) hx hb hts iaX5 hown hK hP 0 rfl rfl 3 (by decide) (hts _ q719) (fun _ h9 => h9) rfl dX5_save_64 ?_
          refine lv_sipush (v := 327) hx hb dX5_save_67 (by decide) ?_
          refine g_imul hx hb dX5_save_70 h (fun x7 h => ?_)
          refine lv_iload_n hx hb dX5_save_71 rfl (lv_at hl 1 rfl) ?_
          refine g_iadd hx hb dX5_save_72 h (fun x8 h => ?_)
          refine lv_aload_n hx hb dX5_save_73 rfl (lv_at hl 0 rfl) ?_
          refine va_get (D := (dC, dI)) (ci := 4) (v := .ref a1) (C := RX5) (T := TX5) (N := 17) hx hb hts iaX5 hown hK hP 0 rfl rfl 1 (by decide) (hts _ q717) (fun _ h9 => h9) rfl dX5_save_74 ?_
          refine lv_iload_n hx hb dX5_save_77 rfl (lv_at hl 1 rfl) ?_
          refine g_iald hx hb hK hP 1 0 rfl rfl dX5_save_78 h (fun x9 h => ?_)
          refine g_iast hx hb hK hP hD hS 2 0 rfl rfl dX5_save_79 h (fun c10 H locs h hP hS => ?_)
          have hP : va_P (dC, dI) vwCl (wX5 cyI cyC ob a1 a2 a3 a4 a5 a6 a7 a8 v_thrown v_z c10 c2 v_spare v_buffer v_typed v_marksBlown v_rests v_begins v_orders v_orderMany v_spot v_wrong v_isShort v_before v_hash) H := hP
          have hD : va_D (k_A (wX5 cyI cyC ob a1 a2 a3 a4 a5 a6 a7 a8 v_thrown v_z v_saved v_savedMany v_spare v_buffer v_typed v_marksBlown v_rests v_begins v_orders v_orderMany v_spot v_wrong v_isShort v_before v_hash)) (wX5 cyI cyC ob a1 a2 a3 a4 a5 a6 a7 a8 v_thrown v_z c10 c2 v_spare v_buffer v_typed v_marksBlown v_rests v_begins v_orders v_orderMany v_spot v_wrong v_isShort v_before v_hash) := k_Dm hD rfl
          refine g_iinc (dv := 1) hx hb dX5_save_80 hl (j := 1) rfl (by decide) (by decide) h (fun x11 ls h hl => ?_)
          have hl : lv_has ls 2 [(1, .int x11), (0, .ref ob)] := hl
          refine lv_goto (tgt := 52) hx hb dX5_save_83 (by decide) ?_
          exact ih52 x11 c10 _ _ _ h hP hS (lv_sub hl [1, 0] rfl)
    exact L52 5000 0 c1 _ _ _ h hP hS (lv_sub hl [1, 0] rfl)
  refine g_icmp_ne (tgt := 50) hx hb dX5_save_6 (by decide) h (fun h => ?_) (fun h => ?_)
  · exact J50 v_saved v_savedMany _ _ _ h hP hS (lv_sub hl [0] rfl)
  · refine lv_iconst (v := 0) hx hb dX5_save_9 (by decide) ?_
    refine lv_istore_n (lv' := [(1, .int 0), (0, .ref ob)]) hx hb dX5_save_10 rfl hl (by decide) rfl (fun ls hl => ?_)
    obtain ⟨K40, hK40, h⟩ := k_j1_e h
    have J40 : ∀ (c12 : Nat → Int32) (H : Heap) (locs : List Loc) (ls : Array Slot), K40 c12 = some (r_saved, r_savedMany) → va_P (dC, dI) vwCl (wX5 cyI cyC ob a1 a2 a3 a4 a5 a6 a7 a8 v_thrown v_z c12 v_savedMany v_spare v_buffer v_typed v_marksBlown v_rests v_begins v_orders v_orderMany v_spot v_wrong v_isShort v_before v_hash) H → va_S (k_A (wX5 cyI cyC ob a1 a2 a3 a4 a5 a6 a7 a8 v_thrown v_z v_saved v_savedMany v_spare v_buffer v_typed v_marksBlown v_rests v_begins v_orders v_orderMany v_spot v_wrong v_isShort v_before v_hash)) s.heap H locs → lv_has ls 2 [(0, .ref ob)] → W p l e (k_rm 0 0) s m [.ref ob].toArray below meth c H locs 0 0 (MQ below (qMV (dC, dI) (wX5 cyI cyC ob a1 a2 a3 a4 a5 a6 a7 a8 v_thrown v_z v_saved v_savedMany v_spare v_buffer v_typed v_marksBlown v_rests v_begins v_orders v_orderMany v_spot v_wrong v_isShort v_before v_hash) (wX5 cyI cyC ob a1 a2 a3 a4 a5 a6 a7 a8 v_thrown v_z r_saved r_savedMany v_spare v_buffer v_typed v_marksBlown v_rests v_begins v_orders v_orderMany v_spot v_wrong v_isShort v_before v_hash)) [.ref ob].toArray s 0 0 (k_A (wX5 cyI cyC ob a1 a2 a3 a4 a5 a6 a7 a8 v_thrown v_z v_saved v_savedMany v_spare v_buffer v_typed v_marksBlown v_rests v_begins v_orders v_orderMany v_spot v_wrong v_isShort v_before v_hash))) (F0 m 40 ls []) := by
      intro c12 H locs ls h hP hS hl
      have hD : va_D (k_A (wX5 cyI cyC ob a1 a2 a3 a4 a5 a6 a7 a8 v_thrown v_z v_saved v_savedMany v_spare v_buffer v_typed v_marksBlown v_rests v_begins v_orders v_orderMany v_spot v_wrong v_isShort v_before v_hash)) (wX5 cyI cyC ob a1 a2 a3 a4 a5 a6 a7 a8 v_thrown v_z c12 v_savedMany v_spare v_buffer v_typed v_marksBlown v_rests v_begins v_orders v_orderMany v_spot v_wrong v_isShort v_before v_hash) := k_Dm hD rfl
      have h := k_a1 hK40 h
      refine lv_aload_n hx hb dX5_save_40 rfl (lv_at hl 0 rfl) ?_
      refine lv_dup hx hb dX5_save_41 rfl ?_
      refine va_get (D := (dC, dI)) (ci := 4) (v := .int v_savedMany) (C := RX5) (T := TX5) (N := 17) hx hb hts iaX5 hown hK hP 0 rfl rfl 3 (by decide) (hts _ q719) (fun _ h9 => h9) rfl dX5_save_42 ?_
      refine lv_iconst (v := 1) hx hb dX5_save_45 (by decide) ?_
      refine g_isub hx hb dX5_save_46 h (fun x13 h => ?_)
      refine va_put (D := (dC, dI)) (ci := 4) (v := .int x13) (ty := .int) (C := RX5) (T := TX5) (N := 17) hx hb hts iaX5 tyX5 tyX5_ok nmX5 hown hK hP hD hS 0 rfl rfl 3 (by decide) (hts _ q719) (fun _ h9 => h9) rfl (by decide +kernel) rfl rfl (Nat.le_of_ble_eq_true rfl) dX5_save_47 (fun H locs hP _ hS => ?_)
      have hP : va_P (dC, dI) vwCl (wX5 cyI cyC ob a1 a2 a3 a4 a5 a6 a7 a8 v_thrown v_z c12 x13 v_spare v_buffer v_typed v_marksBlown v_rests v_begins v_orders v_orderMany v_spot v_wrong v_isShort v_before v_hash) H := hP
      have hD : va_D (k_A (wX5 cyI cyC ob a1 a2 a3 a4 a5 a6 a7 a8 v_thrown v_z v_saved v_savedMany v_spare v_buffer v_typed v_marksBlown v_rests v_begins v_orders v_orderMany v_spot v_wrong v_isShort v_before v_hash)) (wX5 cyI cyC ob a1 a2 a3 a4 a5 a6 a7 a8 v_thrown v_z c12 x13 v_spare v_buffer v_typed v_marksBlown v_rests v_begins v_orders v_orderMany v_spot v_wrong v_isShort v_before v_hash) := k_Dm hD rfl
      exact J50 c12 x13 _ _ _ h hP hS (lv_sub hl [0] rfl)
    obtain ⟨S11, hS11⟩ : ∃ z, z = (fX5_save_s11 K40) := ⟨_, rfl⟩
    rw [← hS11] at h
    have L11 : ∀ (n : Nat) (x14 : Int32) (c15 : Nat → Int32) (H : Heap) (locs : List Loc) (ls : Array Slot), k_l2 S11 n x14 c15 = some (r_saved, r_savedMany) → va_P (dC, dI) vwCl (wX5 cyI cyC ob a1 a2 a3 a4 a5 a6 a7 a8 v_thrown v_z c15 v_savedMany v_spare v_buffer v_typed v_marksBlown v_rests v_begins v_orders v_orderMany v_spot v_wrong v_isShort v_before v_hash) H → va_S (k_A (wX5 cyI cyC ob a1 a2 a3 a4 a5 a6 a7 a8 v_thrown v_z v_saved v_savedMany v_spare v_buffer v_typed v_marksBlown v_rests v_begins v_orders v_orderMany v_spot v_wrong v_isShort v_before v_hash)) s.heap H locs → lv_has ls 2 [(0, .ref ob), (1, .int x14)] → W p l e (k_rm 0 0) s m [.ref ob].toArray below meth c H locs 0 0 (MQ below (qMV (dC, dI) (wX5 cyI cyC ob a1 a2 a3 a4 a5 a6 a7 a8 v_thrown v_z v_saved v_savedMany v_spare v_buffer v_typed v_marksBlown v_rests v_begins v_orders v_orderMany v_spot v_wrong v_isShort v_before v_hash) (wX5 cyI cyC ob a1 a2 a3 a4 a5 a6 a7 a8 v_thrown v_z r_saved r_savedMany v_spare v_buffer v_typed v_marksBlown v_rests v_begins v_orders v_orderMany v_spot v_wrong v_isShort v_before v_hash)) [.ref ob].toArray s 0 0 (k_A (wX5 cyI cyC ob a1 a2 a3 a4 a5 a6 a7 a8 v_thrown v_z v_saved v_savedMany v_spare v_buffer v_typed v_marksBlown v_rests v_begins v_orders v_orderMany v_spot v_wrong v_isShort v_before v_hash))) (F0 m 11 ls []) := by
      intro n
      induction n with
      | zero =>
        intro x14 c15 H locs ls h
        exact (k_l2_0 h).elim
      | succ n ih11 =>
        intro x14 c15 H locs ls h hP hS hl
        have hD : va_D (k_A (wX5 cyI cyC ob a1 a2 a3 a4 a5 a6 a7 a8 v_thrown v_z v_saved v_savedMany v_spare v_buffer v_typed v_marksBlown v_rests v_begins v_orders v_orderMany v_spot v_wrong v_isShort v_before v_hash)) (wX5 cyI cyC ob a1 a2 a3 a4 a5 a6 a7 a8 v_thrown v_z c15 v_savedMany v_spare v_buffer v_typed v_marksBlown v_rests v_begins v_orders v_orderMany v_spot v_wrong v_isShort v_before v_hash) := k_Dm hD rfl
        have h := k_l2_s h
        have h := k_a3 hS11 h
        unfold fX5_save_s11 at h
        refine lv_iload_n hx hb dX5_save_11 rfl (lv_at hl 1 rfl) ?_
        refine lv_sipush (v := 1635) hx hb dX5_save_12 (by decide) ?_
        refine g_icmp_ge (tgt := 40) hx hb dX5_save_15 (by decide) h (fun h => ?_) (fun h => ?_)
        · exact J40 c15 _ _ _ h hP hS (lv_sub hl [0] rfl)
        · refine lv_aload_n hx hb dX5_save_18 rfl (lv_at hl 0 rfl) ?_
          refine va_get (D := (dC, dI)) (ci := 4) (v := .ref a2) (C := RX5) (T := TX5) (N := 17) hx hb hts iaX5 hown hK hP 0 rfl rfl 2 (by decide) (hts _ q718) (fun _ h9 => h9) rfl dX5_save_19 ?_
          refine lv_iload_n hx hb dX5_save_22 rfl (lv_at hl 1 rfl) ?_
          refine lv_aload_n hx hb dX5_save_23 rfl (lv_at hl 0 rfl) ?_
          refine va_get (D := (dC, dI)) (ci := 4) (v := .ref a2) (C := RX5) (T := TX5) (N := 17) hx hb hts iaX5 hown hK hP 0 rfl rfl 2 (by decide) (hts _ q718) (fun _ h9 => h9) rfl dX5_save_24 ?_
          refine lv_iload_n hx hb dX5_save_27 rfl (lv_at hl 1 rfl) ?_
          refine lv_sipush (v := 327) hx hb dX5_save_28 (by decide) ?_
          refine g_iadd hx hb dX5_save_31 h (fun x16 h => ?_)
          refine g_iald hx hb hK hP 2 0 rfl rfl dX5_save_32 h (fun x17 h => ?_)
          refine g_iast hx hb hK hP hD hS 2 0 rfl rfl dX5_save_33 h (fun c18 H locs h hP hS => ?_)
          have hP : va_P (dC, dI) vwCl (wX5 cyI cyC ob a1 a2 a3 a4 a5 a6 a7 a8 v_thrown v_z c18 v_savedMany v_spare v_buffer v_typed v_marksBlown v_rests v_begins v_orders v_orderMany v_spot v_wrong v_isShort v_before v_hash) H := hP
          have hD : va_D (k_A (wX5 cyI cyC ob a1 a2 a3 a4 a5 a6 a7 a8 v_thrown v_z v_saved v_savedMany v_spare v_buffer v_typed v_marksBlown v_rests v_begins v_orders v_orderMany v_spot v_wrong v_isShort v_before v_hash)) (wX5 cyI cyC ob a1 a2 a3 a4 a5 a6 a7 a8 v_thrown v_z c18 v_savedMany v_spare v_buffer v_typed v_marksBlown v_rests v_begins v_orders v_orderMany v_spot v_wrong v_isShort v_before v_hash) := k_Dm hD rfl
          refine g_iinc (dv := 1) hx hb dX5_save_34 hl (j := 1) rfl (by decide) (by decide) h (fun x19 ls h hl => ?_)
          have hl : lv_has ls 2 [(1, .int x19), (0, .ref ob)] := hl
          refine lv_goto (tgt := 11) hx hb dX5_save_37 (by decide) ?_
          exact ih11 x19 c18 _ _ _ h hP hS (lv_sub hl [1, 0] rfl)
    exact L11 5000 0 v_saved _ _ _ h hP hS (lv_sub hl [1, 0] rfl)
def fX5_undo_s37 (x2 : Int32) (x1 : Int32) (v_saved : Nat → Int32) (rec37 : Int32 → (Nat → Int32) → Option (Int32 × Int32 × (Nat → Int32) × Int32)) (x3 : Int32) (c4 : Nat → Int32) : Option (Int32 × Int32 × (Nat → Int32) × Int32) :=
  k_if (327 ≤ x3)
  (
    some (x2, x1, c4, x2))
  (
    k_let (x2 * 327) fun (x5 : Int32) =>
    k_let (x5 + x3) fun (x6 : Int32) =>
    k_ck x6 1962 <| k_let (v_saved x6.toNatClampNeg) fun (x7 : Int32) =>
    k_ck x3 327 <| k_let (upd c4 x3.toNatClampNeg x7) fun (c8 : Nat → Int32) =>
    k_let (x3 + 1) fun (x9 : Int32) =>
    rec37 x9 c8)
def fX5_undo (v_thrown : Int32) (v_z : Nat → Int32) (v_saved : Nat → Int32) (v_savedMany : Int32) : Option (Int32 × Int32 × (Nat → Int32) × Int32) :=
  k_j1
  (fun (x1 : Int32) =>
    k_if (x1 ≤ 0)
    (
      k_let (v_savedMany - 1) fun (x2 : Int32) =>
      k_l2 (fX5_undo_s37 x2 x1 v_saved) 5000 0 v_z)
    (
      some (0, x1, v_z, v_savedMany)))
  (fun K13 =>
  k_if (v_savedMany = 0)
  (
    K13 1)
  (
    K13 0))
theorem hdX5_undo : yX5_undo.cls = RX5 ∧ yX5_undo.cls ≠ "java/lang/invoke/MethodHandle" ∧ yX5_undo.cls ≠ "java/lang/invoke/VarHandle" ∧ (parseMethodDescriptor yX5_undo.desc).map (fun d => d.parameters.length) = some 0 := by decide +kernel
set_option maxRecDepth 100000 in
set_option maxHeartbeats 4000000 in
theorem mX5_undo (l : Launch) (dC : Nat → ClassId) (dI : Nat → Nat → Nat) (cyI cyC cyO : ClassId) (ob a1 a2 a3 a4 a5 a6 a7 a8 : Nat) (v_thrown : Int32) (v_z : Nat → Int32) (v_saved : Nat → Int32) (v_savedMany : Int32) (v_spare : Nat → Int32) (v_buffer : Nat → Int32) (v_typed : Int32) (v_marksBlown : Int32) (v_rests : Nat → Int32) (v_begins : Nat → Int32) (v_orders : Nat → Int32) (v_orderMany : Int32) (v_spot : Int32) (v_wrong : Int32) (v_isShort : Int32) (v_before : Nat → Int32) (v_hash : Int64)  {r : Int32} {r_thrown : Int32} {r_z : Nat → Int32} {r_savedMany : Int32} (hf : fX5_undo v_thrown v_z v_saved v_savedMany = some (r, r_thrown, r_z, r_savedMany)) : MetMI l yX5_undo cX5_undo 2 (some .int) 0 0 [.ref ob] (dC, dI) (tyS cyI cyC cyO) (wX5 cyI cyC ob a1 a2 a3 a4 a5 a6 a7 a8 v_thrown v_z v_saved v_savedMany v_spare v_buffer v_typed v_marksBlown v_rests v_begins v_orders v_orderMany v_spot v_wrong v_isShort v_before v_hash) (wX5 cyI cyC ob a1 a2 a3 a4 a5 a6 a7 a8 r_thrown r_z v_saved r_savedMany v_spare v_buffer v_typed v_marksBlown v_rests v_begins v_orders v_orderMany v_spot v_wrong v_isShort v_before v_hash) r := by
  refine metMI_of (by decide) (Nat.le_of_ble_eq_true rfl) ?_
  intro p e s m below meth c ls hC hr hlk hP hK hD hl
  have hC : CallFix p m c cX5_undo 2 s [.ref ob].toArray wA RX5 := hC
  obtain ⟨hx, hb, hml, hown, hts⟩ := id hC
  have hS : va_S (k_A (wX5 cyI cyC ob a1 a2 a3 a4 a5 a6 a7 a8 v_thrown v_z v_saved v_savedMany v_spare v_buffer v_typed v_marksBlown v_rests v_begins v_orders v_orderMany v_spot v_wrong v_isShort v_before v_hash)) s.heap s.heap [] := va_S.rf
  have hl : lv_has ls 2 [(0, .ref ob)] := hl
  have h := hf
  unfold fX5_undo at h
  obtain ⟨H, hH⟩ : ∃ H, H = s.heap := ⟨_, rfl⟩
  obtain ⟨locs, hlo⟩ : ∃ locs : List Loc, locs = [] := ⟨_, rfl⟩
  rw [← hH] at hP
  rw [← hlo] at hS
  have hS : va_S (k_A (wX5 cyI cyC ob a1 a2 a3 a4 a5 a6 a7 a8 v_thrown v_z v_saved v_savedMany v_spare v_buffer v_typed v_marksBlown v_rests v_begins v_orders v_orderMany v_spot v_wrong v_isShort v_before v_hash)) s.heap H locs := by rw [hH]; exact hS
  show W p l e (k_rm 0 0) s m [.ref ob].toArray below meth c s.heap [] 0 0 _ _
  rw [← hlo, ← hH]
  refine lv_aload_n hx hb dX5_undo_0 rfl (lv_at hl 0 rfl) ?_
  refine lv_aload_n hx hb dX5_undo_1 rfl (lv_at hl 0 rfl) ?_
  refine va_get (D := (dC, dI)) (ci := 4) (v := .int v_savedMany) (C := RX5) (T := TX5) (N := 17) hx hb hts iaX5 hown hK hP 0 rfl rfl 3 (by decide) (hts _ q719) (fun _ h9 => h9) rfl dX5_undo_2 ?_
  obtain ⟨K13, hK13, h⟩ := k_j1_e h
  have J13 : ∀ (x1 : Int32) (H : Heap) (locs : List Loc) (ls : Array Slot), K13 x1 = some (r, r_thrown, r_z, r_savedMany) → va_P (dC, dI) vwCl (wX5 cyI cyC ob a1 a2 a3 a4 a5 a6 a7 a8 v_thrown v_z v_saved v_savedMany v_spare v_buffer v_typed v_marksBlown v_rests v_begins v_orders v_orderMany v_spot v_wrong v_isShort v_before v_hash) H → va_S (k_A (wX5 cyI cyC ob a1 a2 a3 a4 a5 a6 a7 a8 v_thrown v_z v_saved v_savedMany v_spare v_buffer v_typed v_marksBlown v_rests v_begins v_orders v_orderMany v_spot v_wrong v_isShort v_before v_hash)) s.heap H locs → lv_has ls 2 [(0, .ref ob)] → W p l e (k_rm 0 0) s m [.ref ob].toArray below meth c H locs 0 0 (MQ below (qMI r (dC, dI) (wX5 cyI cyC ob a1 a2 a3 a4 a5 a6 a7 a8 v_thrown v_z v_saved v_savedMany v_spare v_buffer v_typed v_marksBlown v_rests v_begins v_orders v_orderMany v_spot v_wrong v_isShort v_before v_hash) (wX5 cyI cyC ob a1 a2 a3 a4 a5 a6 a7 a8 r_thrown r_z v_saved r_savedMany v_spare v_buffer v_typed v_marksBlown v_rests v_begins v_orders v_orderMany v_spot v_wrong v_isShort v_before v_hash)) [.ref ob].toArray s 0 0 (k_A (wX5 cyI cyC ob a1 a2 a3 a4 a5 a6 a7 a8 v_thrown v_z v_saved v_savedMany v_spare v_buffer v_typed v_marksBlown v_rests v_begins v_orders v_orderMany v_spot v_wrong v_isShort v_before v_hash))) (F0 m 13 ls [.int x1, .ref ob]) := by
    intro x1 H locs ls h hP hS hl
    have h := k_a1 hK13 h
    refine va_put (D := (dC, dI)) (ci := 4) (v := .int x1) (ty := .int) (C := RX5) (T := TX5) (N := 17) hx hb hts iaX5 tyX5 tyX5_ok nmX5 hown hK hP hD hS 0 rfl rfl 0 (by decide) (hts _ q716) (fun _ h9 => h9) rfl (by decide +kernel) rfl rfl (Nat.le_of_ble_eq_true rfl) dX5_undo_13 (fun H locs hP _ hS => ?_)
    have hP : va_P (dC, dI) vwCl (wX5 cyI cyC ob a1 a2 a3 a4 a5 a6 a7 a8 x1 v_z v_saved v_savedMany v_spare v_buffer v_typed v_marksBlown v_rests v_begins v_orders v_orderMany v_spot v_wrong v_isShort v_before v_hash) H := hP
    have hD : va_D (k_A (wX5 cyI cyC ob a1 a2 a3 a4 a5 a6 a7 a8 v_thrown v_z v_saved v_savedMany v_spare v_buffer v_typed v_marksBlown v_rests v_begins v_orders v_orderMany v_spot v_wrong v_isShort v_before v_hash)) (wX5 cyI cyC ob a1 a2 a3 a4 a5 a6 a7 a8 x1 v_z v_saved v_savedMany v_spare v_buffer v_typed v_marksBlown v_rests v_begins v_orders v_orderMany v_spot v_wrong v_isShort v_before v_hash) := k_Dm hD rfl
    refine lv_aload_n hx hb dX5_undo_16 rfl (lv_at hl 0 rfl) ?_
    refine va_get (D := (dC, dI)) (ci := 4) (v := .int x1) (C := RX5) (T := TX5) (N := 17) hx hb hts iaX5 hown hK hP 0 rfl rfl 0 (by decide) (hts _ q716) (fun _ h9 => h9) rfl dX5_undo_17 ?_
    refine g_if_le (tgt := 25) hx hb dX5_undo_20 (by decide) h (fun h => ?_) (fun h => ?_)
    · refine lv_aload_n hx hb dX5_undo_25 rfl (lv_at hl 0 rfl) ?_
      refine lv_dup hx hb dX5_undo_26 rfl ?_
      refine va_get (D := (dC, dI)) (ci := 4) (v := .int v_savedMany) (C := RX5) (T := TX5) (N := 17) hx hb hts iaX5 hown hK hP 0 rfl rfl 3 (by decide) (hts _ q719) (fun _ h9 => h9) rfl dX5_undo_27 ?_
      refine lv_iconst (v := 1) hx hb dX5_undo_30 (by decide) ?_
      refine g_isub hx hb dX5_undo_31 h (fun x2 h => ?_)
      refine va_put (D := (dC, dI)) (ci := 4) (v := .int x2) (ty := .int) (C := RX5) (T := TX5) (N := 17) hx hb hts iaX5 tyX5 tyX5_ok nmX5 hown hK hP hD hS 0 rfl rfl 3 (by decide) (hts _ q719) (fun _ h9 => h9) rfl (by decide +kernel) rfl rfl (Nat.le_of_ble_eq_true rfl) dX5_undo_32 (fun H locs hP _ hS => ?_)
      have hP : va_P (dC, dI) vwCl (wX5 cyI cyC ob a1 a2 a3 a4 a5 a6 a7 a8 x1 v_z v_saved x2 v_spare v_buffer v_typed v_marksBlown v_rests v_begins v_orders v_orderMany v_spot v_wrong v_isShort v_before v_hash) H := hP
      have hD : va_D (k_A (wX5 cyI cyC ob a1 a2 a3 a4 a5 a6 a7 a8 v_thrown v_z v_saved v_savedMany v_spare v_buffer v_typed v_marksBlown v_rests v_begins v_orders v_orderMany v_spot v_wrong v_isShort v_before v_hash)) (wX5 cyI cyC ob a1 a2 a3 a4 a5 a6 a7 a8 x1 v_z v_saved x2 v_spare v_buffer v_typed v_marksBlown v_rests v_begins v_orders v_orderMany v_spot v_wrong v_isShort v_before v_hash) := k_Dm hD rfl
      refine lv_iconst (v := 0) hx hb dX5_undo_35 (by decide) ?_
      refine lv_istore_n (lv' := [(1, .int 0), (0, .ref ob)]) hx hb dX5_undo_36 rfl hl (by decide) rfl (fun ls hl => ?_)
      obtain ⟨S37, hS37⟩ : ∃ z, z = (fX5_undo_s37 x2 x1 v_saved) := ⟨_, rfl⟩
      rw [← hS37] at h
      have L37 : ∀ (n : Nat) (x3 : Int32) (c4 : Nat → Int32) (H : Heap) (locs : List Loc) (ls : Array Slot), k_l2 S37 n x3 c4 = some (r, r_thrown, r_z, r_savedMany) → va_P (dC, dI) vwCl (wX5 cyI cyC ob a1 a2 a3 a4 a5 a6 a7 a8 x1 c4 v_saved x2 v_spare v_buffer v_typed v_marksBlown v_rests v_begins v_orders v_orderMany v_spot v_wrong v_isShort v_before v_hash) H → va_S (k_A (wX5 cyI cyC ob a1 a2 a3 a4 a5 a6 a7 a8 v_thrown v_z v_saved v_savedMany v_spare v_buffer v_typed v_marksBlown v_rests v_begins v_orders v_orderMany v_spot v_wrong v_isShort v_before v_hash)) s.heap H locs → lv_has ls 2 [(0, .ref ob), (1, .int x3)] → W p l e (k_rm 0 0) s m [.ref ob].toArray below meth c H locs 0 0 (MQ below (qMI r (dC, dI) (wX5 cyI cyC ob a1 a2 a3 a4 a5 a6 a7 a8 v_thrown v_z v_saved v_savedMany v_spare v_buffer v_typed v_marksBlown v_rests v_begins v_orders v_orderMany v_spot v_wrong v_isShort v_before v_hash) (wX5 cyI cyC ob a1 a2 a3 a4 a5 a6 a7 a8 r_thrown r_z v_saved r_savedMany v_spare v_buffer v_typed v_marksBlown v_rests v_begins v_orders v_orderMany v_spot v_wrong v_isShort v_before v_hash)) [.ref ob].toArray s 0 0 (k_A (wX5 cyI cyC ob a1 a2 a3 a4 a5 a6 a7 a8 v_thrown v_z v_saved v_savedMany v_spare v_buffer v_typed v_marksBlown v_rests v_begins v_orders v_orderMany v_spot v_wrong v_isShort v_before v_hash))) (F0 m 37 ls []) := by
        intro n
        induction n with
        | zero =>
          intro x3 c4 H locs ls h
          exact (k_l2_0 h).elim
        | succ n ih37 =>
          intro x3 c4 H locs ls h hP hS hl
          have hD : va_D (k_A (wX5 cyI cyC ob a1 a2 a3 a4 a5 a6 a7 a8 v_thrown v_z v_saved v_savedMany v_spare v_buffer v_typed v_marksBlown v_rests v_begins v_orders v_orderMany v_spot v_wrong v_isShort v_before v_hash)) (wX5 cyI cyC ob a1 a2 a3 a4 a5 a6 a7 a8 x1 c4 v_saved x2 v_spare v_buffer v_typed v_marksBlown v_rests v_begins v_orders v_orderMany v_spot v_wrong v_isShort v_before v_hash) := k_Dm hD rfl
          have h := k_l2_s h
          have h := k_a3 hS37 h
          unfold fX5_undo_s37 at h
          refine lv_iload_n hx hb dX5_undo_37 rfl (lv_at hl 1 rfl) ?_
          refine lv_sipush (v := 327) hx hb dX5_undo_38 (by decide) ?_
          refine g_icmp_ge (tgt := 71) hx hb dX5_undo_41 (by decide) h (fun h => ?_) (fun h => ?_)
          · refine lv_aload_n hx hb dX5_undo_71 rfl (lv_at hl 0 rfl) ?_
            refine va_get (D := (dC, dI)) (ci := 4) (v := .int x2) (C := RX5) (T := TX5) (N := 17) hx hb hts iaX5 hown hK hP 0 rfl rfl 3 (by decide) (hts _ q719) (fun _ h9 => h9) rfl dX5_undo_72 ?_
            obtain ⟨e0, e1, e2, e3⟩ := k_t4 h
            exact g_retMI hx hb hr hlk hS e0 (by rw [← e1, ← e2, ← e3]; exact hP) dX5_undo_75
          · refine lv_aload_n hx hb dX5_undo_44 rfl (lv_at hl 0 rfl) ?_
            refine va_get (D := (dC, dI)) (ci := 4) (v := .ref a1) (C := RX5) (T := TX5) (N := 17) hx hb hts iaX5 hown hK hP 0 rfl rfl 1 (by decide) (hts _ q717) (fun _ h9 => h9) rfl dX5_undo_45 ?_
            refine lv_iload_n hx hb dX5_undo_48 rfl (lv_at hl 1 rfl) ?_
            refine lv_aload_n hx hb dX5_undo_49 rfl (lv_at hl 0 rfl) ?_
            refine va_get (D := (dC, dI)) (ci := 4) (v := .ref a2) (C := RX5) (T := TX5) (N := 17) hx hb hts iaX5 hown hK hP 0 rfl rfl 2 (by decide) (hts _ q718) (fun _ h9 => h9) rfl dX5_undo_50 ?_
            refine lv_aload_n hx hb dX5_undo_53 rfl (lv_at hl 0 rfl) ?_
            refine va_get (D := (dC, dI)) (ci := 4) (v := .int x2) (C := RX5) (T := TX5) (N := 17) hx hb hts iaX5 hown hK hP 0 rfl rfl 3 (by decide) (hts _ q719) (fun _ h9 => h9) rfl dX5_undo_54 ?_
            refine lv_sipush (v := 327) hx hb dX5_undo_57 (by decide) ?_
            refine g_imul hx hb dX5_undo_60 h (fun x5 h => ?_)
            refine lv_iload_n hx hb dX5_undo_61 rfl (lv_at hl 1 rfl) ?_
            refine g_iadd hx hb dX5_undo_62 h (fun x6 h => ?_)
            refine g_iald hx hb hK hP 2 0 rfl rfl dX5_undo_63 h (fun x7 h => ?_)
            refine g_iast hx hb hK hP hD hS 1 0 rfl rfl dX5_undo_64 h (fun c8 H locs h hP hS => ?_)
            have hP : va_P (dC, dI) vwCl (wX5 cyI cyC ob a1 a2 a3 a4 a5 a6 a7 a8 x1 c8 v_saved x2 v_spare v_buffer v_typed v_marksBlown v_rests v_begins v_orders v_orderMany v_spot v_wrong v_isShort v_before v_hash) H := hP
            have hD : va_D (k_A (wX5 cyI cyC ob a1 a2 a3 a4 a5 a6 a7 a8 v_thrown v_z v_saved v_savedMany v_spare v_buffer v_typed v_marksBlown v_rests v_begins v_orders v_orderMany v_spot v_wrong v_isShort v_before v_hash)) (wX5 cyI cyC ob a1 a2 a3 a4 a5 a6 a7 a8 x1 c8 v_saved x2 v_spare v_buffer v_typed v_marksBlown v_rests v_begins v_orders v_orderMany v_spot v_wrong v_isShort v_before v_hash) := k_Dm hD rfl
            refine g_iinc (dv := 1) hx hb dX5_undo_65 hl (j := 1) rfl (by decide) (by decide) h (fun x9 ls h hl => ?_)
            have hl : lv_has ls 2 [(1, .int x9), (0, .ref ob)] := hl
            refine lv_goto (tgt := 37) hx hb dX5_undo_68 (by decide) ?_
            exact ih37 x9 c8 _ _ _ h hP hS (lv_sub hl [1, 0] rfl)
      exact L37 5000 0 v_z _ _ _ h hP hS (lv_sub hl [1, 0] rfl)
    · refine lv_iconst (v := 0) hx hb dX5_undo_23 (by decide) ?_
      obtain ⟨e0, e1, e2, e3⟩ := k_t4 h
      exact g_retMI hx hb hr hlk hS e0 (by rw [← e1, ← e2, ← e3]; exact hP) dX5_undo_24
  refine g_if_ne (tgt := 12) hx hb dX5_undo_5 (by decide) h (fun h => ?_) (fun h => ?_)
  · refine lv_iconst (v := 0) hx hb dX5_undo_12 (by decide) ?_
    exact J13 0 _ _ _ h hP hS (lv_sub hl [0] rfl)
  · refine lv_iconst (v := 1) hx hb dX5_undo_8 (by decide) ?_
    refine lv_goto (tgt := 13) hx hb dX5_undo_9 (by decide) ?_
    exact J13 1 _ _ _ h hP hS (lv_sub hl [0] rfl)
def fX5_putAside_s2 (v_z : Nat → Int32) (rec2 : Int32 → (Nat → Int32) → Option ((Nat → Int32))) (x1 : Int32) (c2 : Nat → Int32) : Option ((Nat → Int32)) :=
  k_if (327 ≤ x1)
  (
    some c2)
  (
    k_ck x1 327 <| k_let (v_z x1.toNatClampNeg) fun (x3 : Int32) =>
    k_ck x1 327 <| k_let (upd c2 x1.toNatClampNeg x3) fun (c4 : Nat → Int32) =>
    k_let (x1 + 1) fun (x5 : Int32) =>
    rec2 x5 c4)
def fX5_putAside (v_z : Nat → Int32) (v_spare : Nat → Int32) : Option ((Nat → Int32)) :=
  k_l2 (fX5_putAside_s2 v_z) 5000 0 v_spare
theorem hdX5_putAside : yX5_putAside.cls = RX5 ∧ yX5_putAside.cls ≠ "java/lang/invoke/MethodHandle" ∧ yX5_putAside.cls ≠ "java/lang/invoke/VarHandle" ∧ (parseMethodDescriptor yX5_putAside.desc).map (fun d => d.parameters.length) = some 0 := by decide +kernel
set_option maxRecDepth 100000 in
set_option maxHeartbeats 4000000 in
theorem mX5_putAside (l : Launch) (dC : Nat → ClassId) (dI : Nat → Nat → Nat) (cyI cyC cyO : ClassId) (ob a1 a2 a3 a4 a5 a6 a7 a8 : Nat) (v_thrown : Int32) (v_z : Nat → Int32) (v_saved : Nat → Int32) (v_savedMany : Int32) (v_spare : Nat → Int32) (v_buffer : Nat → Int32) (v_typed : Int32) (v_marksBlown : Int32) (v_rests : Nat → Int32) (v_begins : Nat → Int32) (v_orders : Nat → Int32) (v_orderMany : Int32) (v_spot : Int32) (v_wrong : Int32) (v_isShort : Int32) (v_before : Nat → Int32) (v_hash : Int64)  {r_spare : Nat → Int32} (hf : fX5_putAside v_z v_spare = some r_spare) : MetMV l yX5_putAside cX5_putAside 2 none 0 0 [.ref ob] (dC, dI) (tyS cyI cyC cyO) (wX5 cyI cyC ob a1 a2 a3 a4 a5 a6 a7 a8 v_thrown v_z v_saved v_savedMany v_spare v_buffer v_typed v_marksBlown v_rests v_begins v_orders v_orderMany v_spot v_wrong v_isShort v_before v_hash) (wX5 cyI cyC ob a1 a2 a3 a4 a5 a6 a7 a8 v_thrown v_z v_saved v_savedMany r_spare v_buffer v_typed v_marksBlown v_rests v_begins v_orders v_orderMany v_spot v_wrong v_isShort v_before v_hash) := by
  refine metMV_of (by decide) (Nat.le_of_ble_eq_true rfl) ?_
  intro p e s m below meth c ls hC hr hlk hP hK hD hl
  have hC : CallFix p m c cX5_putAside 2 s [.ref ob].toArray wA RX5 := hC
  obtain ⟨hx, hb, hml, hown, hts⟩ := id hC
  have hS : va_S (k_A (wX5 cyI cyC ob a1 a2 a3 a4 a5 a6 a7 a8 v_thrown v_z v_saved v_savedMany v_spare v_buffer v_typed v_marksBlown v_rests v_begins v_orders v_orderMany v_spot v_wrong v_isShort v_before v_hash)) s.heap s.heap [] := va_S.rf
  have hl : lv_has ls 2 [(0, .ref ob)] := hl
  have h := hf
  unfold fX5_putAside at h
  obtain ⟨H, hH⟩ : ∃ H, H = s.heap := ⟨_, rfl⟩
  obtain ⟨locs, hlo⟩ : ∃ locs : List Loc, locs = [] := ⟨_, rfl⟩
  rw [← hH] at hP
  rw [← hlo] at hS
  have hS : va_S (k_A (wX5 cyI cyC ob a1 a2 a3 a4 a5 a6 a7 a8 v_thrown v_z v_saved v_savedMany v_spare v_buffer v_typed v_marksBlown v_rests v_begins v_orders v_orderMany v_spot v_wrong v_isShort v_before v_hash)) s.heap H locs := by rw [hH]; exact hS
  show W p l e (k_rm 0 0) s m [.ref ob].toArray below meth c s.heap [] 0 0 _ _
  rw [← hlo, ← hH]
  refine lv_iconst (v := 0) hx hb dX5_putAside_0 (by decide) ?_
  refine lv_istore_n (lv' := [(1, .int 0), (0, .ref ob)]) hx hb dX5_putAside_1 rfl hl (by decide) rfl (fun ls hl => ?_)
  obtain ⟨S2, hS2⟩ : ∃ z, z = (fX5_putAside_s2 v_z) := ⟨_, rfl⟩
  rw [← hS2] at h
  have L2 : ∀ (n : Nat) (x1 : Int32) (c2 : Nat → Int32) (H : Heap) (locs : List Loc) (ls : Array Slot), k_l2 S2 n x1 c2 = some r_spare → va_P (dC, dI) vwCl (wX5 cyI cyC ob a1 a2 a3 a4 a5 a6 a7 a8 v_thrown v_z v_saved v_savedMany c2 v_buffer v_typed v_marksBlown v_rests v_begins v_orders v_orderMany v_spot v_wrong v_isShort v_before v_hash) H → va_S (k_A (wX5 cyI cyC ob a1 a2 a3 a4 a5 a6 a7 a8 v_thrown v_z v_saved v_savedMany v_spare v_buffer v_typed v_marksBlown v_rests v_begins v_orders v_orderMany v_spot v_wrong v_isShort v_before v_hash)) s.heap H locs → lv_has ls 2 [(0, .ref ob), (1, .int x1)] → W p l e (k_rm 0 0) s m [.ref ob].toArray below meth c H locs 0 0 (MQ below (qMV (dC, dI) (wX5 cyI cyC ob a1 a2 a3 a4 a5 a6 a7 a8 v_thrown v_z v_saved v_savedMany v_spare v_buffer v_typed v_marksBlown v_rests v_begins v_orders v_orderMany v_spot v_wrong v_isShort v_before v_hash) (wX5 cyI cyC ob a1 a2 a3 a4 a5 a6 a7 a8 v_thrown v_z v_saved v_savedMany r_spare v_buffer v_typed v_marksBlown v_rests v_begins v_orders v_orderMany v_spot v_wrong v_isShort v_before v_hash)) [.ref ob].toArray s 0 0 (k_A (wX5 cyI cyC ob a1 a2 a3 a4 a5 a6 a7 a8 v_thrown v_z v_saved v_savedMany v_spare v_buffer v_typed v_marksBlown v_rests v_begins v_orders v_orderMany v_spot v_wrong v_isShort v_before v_hash))) (F0 m 2 ls []) := by
    intro n
    induction n with
    | zero =>
      intro x1 c2 H locs ls h
      exact (k_l2_0 h).elim
    | succ n ih2 =>
      intro x1 c2 H locs ls h hP hS hl
      have hD : va_D (k_A (wX5 cyI cyC ob a1 a2 a3 a4 a5 a6 a7 a8 v_thrown v_z v_saved v_savedMany v_spare v_buffer v_typed v_marksBlown v_rests v_begins v_orders v_orderMany v_spot v_wrong v_isShort v_before v_hash)) (wX5 cyI cyC ob a1 a2 a3 a4 a5 a6 a7 a8 v_thrown v_z v_saved v_savedMany c2 v_buffer v_typed v_marksBlown v_rests v_begins v_orders v_orderMany v_spot v_wrong v_isShort v_before v_hash) := k_Dm hD rfl
      have h := k_l2_s h
      have h := k_a3 hS2 h
      unfold fX5_putAside_s2 at h
      refine lv_iload_n hx hb dX5_putAside_2 rfl (lv_at hl 1 rfl) ?_
      refine lv_sipush (v := 327) hx hb dX5_putAside_3 (by decide) ?_
      refine g_icmp_ge (tgt := 27) hx hb dX5_putAside_6 (by decide) h (fun h => ?_) (fun h => ?_)
      · have e0 := k_t1 h
        exact g_retMV hx hb hr hlk hS (by rw [← e0]; exact hP) dX5_putAside_27
      · refine lv_aload_n hx hb dX5_putAside_9 rfl (lv_at hl 0 rfl) ?_
        refine va_get (D := (dC, dI)) (ci := 4) (v := .ref a3) (C := RX5) (T := TX5) (N := 17) hx hb hts iaX5 hown hK hP 0 rfl rfl 4 (by decide) (hts _ q720) (fun _ h9 => h9) rfl dX5_putAside_10 ?_
        refine lv_iload_n hx hb dX5_putAside_13 rfl (lv_at hl 1 rfl) ?_
        refine lv_aload_n hx hb dX5_putAside_14 rfl (lv_at hl 0 rfl) ?_
        refine va_get (D := (dC, dI)) (ci := 4) (v := .ref a1) (C := RX5) (T := TX5) (N := 17) hx hb hts iaX5 hown hK hP 0 rfl rfl 1 (by decide) (hts _ q717) (fun _ h9 => h9) rfl dX5_putAside_15 ?_
        refine lv_iload_n hx hb dX5_putAside_18 rfl (lv_at hl 1 rfl) ?_
        refine g_iald hx hb hK hP 1 0 rfl rfl dX5_putAside_19 h (fun x3 h => ?_)
        refine g_iast hx hb hK hP hD hS 3 0 rfl rfl dX5_putAside_20 h (fun c4 H locs h hP hS => ?_)
        have hP : va_P (dC, dI) vwCl (wX5 cyI cyC ob a1 a2 a3 a4 a5 a6 a7 a8 v_thrown v_z v_saved v_savedMany c4 v_buffer v_typed v_marksBlown v_rests v_begins v_orders v_orderMany v_spot v_wrong v_isShort v_before v_hash) H := hP
        have hD : va_D (k_A (wX5 cyI cyC ob a1 a2 a3 a4 a5 a6 a7 a8 v_thrown v_z v_saved v_savedMany v_spare v_buffer v_typed v_marksBlown v_rests v_begins v_orders v_orderMany v_spot v_wrong v_isShort v_before v_hash)) (wX5 cyI cyC ob a1 a2 a3 a4 a5 a6 a7 a8 v_thrown v_z v_saved v_savedMany c4 v_buffer v_typed v_marksBlown v_rests v_begins v_orders v_orderMany v_spot v_wrong v_isShort v_before v_hash) := k_Dm hD rfl
        refine g_iinc (dv := 1) hx hb dX5_putAside_21 hl (j := 1) rfl (by decide) (by decide) h (fun x5 ls h hl => ?_)
        have hl : lv_has ls 2 [(1, .int x5), (0, .ref ob)] := hl
        refine lv_goto (tgt := 2) hx hb dX5_putAside_24 (by decide) ?_
        exact ih2 x5 c4 _ _ _ h hP hS (lv_sub hl [1, 0] rfl)
  exact L2 5000 0 v_spare _ _ _ h hP hS (lv_sub hl [1, 0] rfl)
def fX5_bringBack_s2 (v_spare : Nat → Int32) (rec2 : Int32 → (Nat → Int32) → Option ((Nat → Int32))) (x1 : Int32) (c2 : Nat → Int32) : Option ((Nat → Int32)) :=
  k_if (327 ≤ x1)
  (
    some c2)
  (
    k_ck x1 327 <| k_let (v_spare x1.toNatClampNeg) fun (x3 : Int32) =>
    k_ck x1 327 <| k_let (upd c2 x1.toNatClampNeg x3) fun (c4 : Nat → Int32) =>
    k_let (x1 + 1) fun (x5 : Int32) =>
    rec2 x5 c4)
def fX5_bringBack (v_z : Nat → Int32) (v_spare : Nat → Int32) : Option ((Nat → Int32)) :=
  k_l2 (fX5_bringBack_s2 v_spare) 5000 0 v_z
theorem hdX5_bringBack : yX5_bringBack.cls = RX5 ∧ yX5_bringBack.cls ≠ "java/lang/invoke/MethodHandle" ∧ yX5_bringBack.cls ≠ "java/lang/invoke/VarHandle" ∧ (parseMethodDescriptor yX5_bringBack.desc).map (fun d => d.parameters.length) = some 0 := by decide +kernel
set_option maxRecDepth 100000 in
set_option maxHeartbeats 4000000 in
theorem mX5_bringBack (l : Launch) (dC : Nat → ClassId) (dI : Nat → Nat → Nat) (cyI cyC cyO : ClassId) (ob a1 a2 a3 a4 a5 a6 a7 a8 : Nat) (v_thrown : Int32) (v_z : Nat → Int32) (v_saved : Nat → Int32) (v_savedMany : Int32) (v_spare : Nat → Int32) (v_buffer : Nat → Int32) (v_typed : Int32) (v_marksBlown : Int32) (v_rests : Nat → Int32) (v_begins : Nat → Int32) (v_orders : Nat → Int32) (v_orderMany : Int32) (v_spot : Int32) (v_wrong : Int32) (v_isShort : Int32) (v_before : Nat → Int32) (v_hash : Int64)  {r_z : Nat → Int32} (hf : fX5_bringBack v_z v_spare = some r_z) : MetMV l yX5_bringBack cX5_bringBack 2 none 0 0 [.ref ob] (dC, dI) (tyS cyI cyC cyO) (wX5 cyI cyC ob a1 a2 a3 a4 a5 a6 a7 a8 v_thrown v_z v_saved v_savedMany v_spare v_buffer v_typed v_marksBlown v_rests v_begins v_orders v_orderMany v_spot v_wrong v_isShort v_before v_hash) (wX5 cyI cyC ob a1 a2 a3 a4 a5 a6 a7 a8 v_thrown r_z v_saved v_savedMany v_spare v_buffer v_typed v_marksBlown v_rests v_begins v_orders v_orderMany v_spot v_wrong v_isShort v_before v_hash) := by
  refine metMV_of (by decide) (Nat.le_of_ble_eq_true rfl) ?_
  intro p e s m below meth c ls hC hr hlk hP hK hD hl
  have hC : CallFix p m c cX5_bringBack 2 s [.ref ob].toArray wA RX5 := hC
  obtain ⟨hx, hb, hml, hown, hts⟩ := id hC
  have hS : va_S (k_A (wX5 cyI cyC ob a1 a2 a3 a4 a5 a6 a7 a8 v_thrown v_z v_saved v_savedMany v_spare v_buffer v_typed v_marksBlown v_rests v_begins v_orders v_orderMany v_spot v_wrong v_isShort v_before v_hash)) s.heap s.heap [] := va_S.rf
  have hl : lv_has ls 2 [(0, .ref ob)] := hl
  have h := hf
  unfold fX5_bringBack at h
  obtain ⟨H, hH⟩ : ∃ H, H = s.heap := ⟨_, rfl⟩
  obtain ⟨locs, hlo⟩ : ∃ locs : List Loc, locs = [] := ⟨_, rfl⟩
  rw [← hH] at hP
  rw [← hlo] at hS
  have hS : va_S (k_A (wX5 cyI cyC ob a1 a2 a3 a4 a5 a6 a7 a8 v_thrown v_z v_saved v_savedMany v_spare v_buffer v_typed v_marksBlown v_rests v_begins v_orders v_orderMany v_spot v_wrong v_isShort v_before v_hash)) s.heap H locs := by rw [hH]; exact hS
  show W p l e (k_rm 0 0) s m [.ref ob].toArray below meth c s.heap [] 0 0 _ _
  rw [← hlo, ← hH]
  refine lv_iconst (v := 0) hx hb dX5_bringBack_0 (by decide) ?_
  refine lv_istore_n (lv' := [(1, .int 0), (0, .ref ob)]) hx hb dX5_bringBack_1 rfl hl (by decide) rfl (fun ls hl => ?_)
  obtain ⟨S2, hS2⟩ : ∃ z, z = (fX5_bringBack_s2 v_spare) := ⟨_, rfl⟩
  rw [← hS2] at h
  have L2 : ∀ (n : Nat) (x1 : Int32) (c2 : Nat → Int32) (H : Heap) (locs : List Loc) (ls : Array Slot), k_l2 S2 n x1 c2 = some r_z → va_P (dC, dI) vwCl (wX5 cyI cyC ob a1 a2 a3 a4 a5 a6 a7 a8 v_thrown c2 v_saved v_savedMany v_spare v_buffer v_typed v_marksBlown v_rests v_begins v_orders v_orderMany v_spot v_wrong v_isShort v_before v_hash) H → va_S (k_A (wX5 cyI cyC ob a1 a2 a3 a4 a5 a6 a7 a8 v_thrown v_z v_saved v_savedMany v_spare v_buffer v_typed v_marksBlown v_rests v_begins v_orders v_orderMany v_spot v_wrong v_isShort v_before v_hash)) s.heap H locs → lv_has ls 2 [(0, .ref ob), (1, .int x1)] → W p l e (k_rm 0 0) s m [.ref ob].toArray below meth c H locs 0 0 (MQ below (qMV (dC, dI) (wX5 cyI cyC ob a1 a2 a3 a4 a5 a6 a7 a8 v_thrown v_z v_saved v_savedMany v_spare v_buffer v_typed v_marksBlown v_rests v_begins v_orders v_orderMany v_spot v_wrong v_isShort v_before v_hash) (wX5 cyI cyC ob a1 a2 a3 a4 a5 a6 a7 a8 v_thrown r_z v_saved v_savedMany v_spare v_buffer v_typed v_marksBlown v_rests v_begins v_orders v_orderMany v_spot v_wrong v_isShort v_before v_hash)) [.ref ob].toArray s 0 0 (k_A (wX5 cyI cyC ob a1 a2 a3 a4 a5 a6 a7 a8 v_thrown v_z v_saved v_savedMany v_spare v_buffer v_typed v_marksBlown v_rests v_begins v_orders v_orderMany v_spot v_wrong v_isShort v_before v_hash))) (F0 m 2 ls []) := by
    intro n
    induction n with
    | zero =>
      intro x1 c2 H locs ls h
      exact (k_l2_0 h).elim
    | succ n ih2 =>
      intro x1 c2 H locs ls h hP hS hl
      have hD : va_D (k_A (wX5 cyI cyC ob a1 a2 a3 a4 a5 a6 a7 a8 v_thrown v_z v_saved v_savedMany v_spare v_buffer v_typed v_marksBlown v_rests v_begins v_orders v_orderMany v_spot v_wrong v_isShort v_before v_hash)) (wX5 cyI cyC ob a1 a2 a3 a4 a5 a6 a7 a8 v_thrown c2 v_saved v_savedMany v_spare v_buffer v_typed v_marksBlown v_rests v_begins v_orders v_orderMany v_spot v_wrong v_isShort v_before v_hash) := k_Dm hD rfl
      have h := k_l2_s h
      have h := k_a3 hS2 h
      unfold fX5_bringBack_s2 at h
      refine lv_iload_n hx hb dX5_bringBack_2 rfl (lv_at hl 1 rfl) ?_
      refine lv_sipush (v := 327) hx hb dX5_bringBack_3 (by decide) ?_
      refine g_icmp_ge (tgt := 27) hx hb dX5_bringBack_6 (by decide) h (fun h => ?_) (fun h => ?_)
      · have e0 := k_t1 h
        exact g_retMV hx hb hr hlk hS (by rw [← e0]; exact hP) dX5_bringBack_27
      · refine lv_aload_n hx hb dX5_bringBack_9 rfl (lv_at hl 0 rfl) ?_
        refine va_get (D := (dC, dI)) (ci := 4) (v := .ref a1) (C := RX5) (T := TX5) (N := 17) hx hb hts iaX5 hown hK hP 0 rfl rfl 1 (by decide) (hts _ q717) (fun _ h9 => h9) rfl dX5_bringBack_10 ?_
        refine lv_iload_n hx hb dX5_bringBack_13 rfl (lv_at hl 1 rfl) ?_
        refine lv_aload_n hx hb dX5_bringBack_14 rfl (lv_at hl 0 rfl) ?_
        refine va_get (D := (dC, dI)) (ci := 4) (v := .ref a3) (C := RX5) (T := TX5) (N := 17) hx hb hts iaX5 hown hK hP 0 rfl rfl 4 (by decide) (hts _ q720) (fun _ h9 => h9) rfl dX5_bringBack_15 ?_
        refine lv_iload_n hx hb dX5_bringBack_18 rfl (lv_at hl 1 rfl) ?_
        refine g_iald hx hb hK hP 3 0 rfl rfl dX5_bringBack_19 h (fun x3 h => ?_)
        refine g_iast hx hb hK hP hD hS 1 0 rfl rfl dX5_bringBack_20 h (fun c4 H locs h hP hS => ?_)
        have hP : va_P (dC, dI) vwCl (wX5 cyI cyC ob a1 a2 a3 a4 a5 a6 a7 a8 v_thrown c4 v_saved v_savedMany v_spare v_buffer v_typed v_marksBlown v_rests v_begins v_orders v_orderMany v_spot v_wrong v_isShort v_before v_hash) H := hP
        have hD : va_D (k_A (wX5 cyI cyC ob a1 a2 a3 a4 a5 a6 a7 a8 v_thrown v_z v_saved v_savedMany v_spare v_buffer v_typed v_marksBlown v_rests v_begins v_orders v_orderMany v_spot v_wrong v_isShort v_before v_hash)) (wX5 cyI cyC ob a1 a2 a3 a4 a5 a6 a7 a8 v_thrown c4 v_saved v_savedMany v_spare v_buffer v_typed v_marksBlown v_rests v_begins v_orders v_orderMany v_spot v_wrong v_isShort v_before v_hash) := k_Dm hD rfl
        refine g_iinc (dv := 1) hx hb dX5_bringBack_21 hl (j := 1) rfl (by decide) (by decide) h (fun x5 ls h hl => ?_)
        have hl : lv_has ls 2 [(1, .int x5), (0, .ref ob)] := hl
        refine lv_goto (tgt := 2) hx hb dX5_bringBack_24 (by decide) ?_
        exact ih2 x5 c4 _ _ _ h hP hS (lv_sub hl [1, 0] rfl)
  exact L2 5000 0 v_z _ _ _ h hP hS (lv_sub hl [1, 0] rfl)
def fX5_rowOf_s6 (v_z : Nat → Int32) (p2 : Int32) (p3 : Int32) (p1 : Int32) (rec6 : Int32 → Int32 → Option (Int32)) (x1 : Int32) (x2 : Int32) : Option (Int32) :=
  k_if (20 ≤ x2)
  (
    some x1)
  (
    k_b1 (fX5_mask v_z x2 p2 p3) fun (x3 : Int32) =>
    k_b1 (fX5_kindOf x3) fun (x4 : Int32) =>
    k_j1
    (fun (x5 : Int32) =>
      k_let (x2 + 1) fun (x6 : Int32) =>
      rec6 x5 x6)
    (fun K48 =>
    k_if (x4 = 4)
    (
      k_b1 (fX5_keyIn x3) fun (x7 : Int32) =>
      k_if (x7 = p1)
      (
        K48 x2)
      (
        K48 x1))
    (
      K48 x1)))
def fX5_rowOf (v_z : Nat → Int32) (p1 : Int32) (p2 : Int32) (p3 : Int32) : Option (Int32) :=
  k_l2 (fX5_rowOf_s6 v_z p2 p3 p1) 5000 ((-1)) 0
theorem hdX5_rowOf : yX5_rowOf.cls = RX5 ∧ yX5_rowOf.cls ≠ "java/lang/invoke/MethodHandle" ∧ yX5_rowOf.cls ≠ "java/lang/invoke/VarHandle" ∧ (parseMethodDescriptor yX5_rowOf.desc).map (fun d => d.parameters.length) = some 3 := by decide +kernel
set_option maxRecDepth 100000 in
set_option maxHeartbeats 4000000 in
theorem mX5_rowOf (l : Launch) (dC : Nat → ClassId) (dI : Nat → Nat → Nat) (cyI cyC cyO : ClassId) (ob a1 a2 a3 a4 a5 a6 a7 a8 : Nat) (v_thrown : Int32) (v_z : Nat → Int32) (v_saved : Nat → Int32) (v_savedMany : Int32) (v_spare : Nat → Int32) (v_buffer : Nat → Int32) (v_typed : Int32) (v_marksBlown : Int32) (v_rests : Nat → Int32) (v_begins : Nat → Int32) (v_orders : Nat → Int32) (v_orderMany : Int32) (v_spot : Int32) (v_wrong : Int32) (v_isShort : Int32) (v_before : Nat → Int32) (v_hash : Int64) (p1 : Int32) (p2 : Int32) (p3 : Int32) {r : Int32} (hf : fX5_rowOf v_z p1 p2 p3 = some r) : MetRI l yX5_rowOf cX5_rowOf 7 (some .int) 5 117 [.ref ob, .int p1, .int p2, .int p3] (dC, dI) (tyS cyI cyC cyO) (wX5 cyI cyC ob a1 a2 a3 a4 a5 a6 a7 a8 v_thrown v_z v_saved v_savedMany v_spare v_buffer v_typed v_marksBlown v_rests v_begins v_orders v_orderMany v_spot v_wrong v_isShort v_before v_hash) r := by
  refine metRI_of (by decide) (Nat.le_of_ble_eq_true rfl) ?_
  intro p e s m below meth c ls hC hr hlk hP hK hl
  have hC : CallFix p m c cX5_rowOf 7 s [.ref ob, .int p1, .int p2, .int p3].toArray wA RX5 := hC
  obtain ⟨hx, hb, hml, hown, hts⟩ := id hC
  have hS : va_S kF s.heap s.heap [] := va_S.rf
  have hl : lv_has ls 7 [(0, .ref ob), (1, .int p1), (2, .int p2), (3, .int p3)] := hl
  have h := hf
  unfold fX5_rowOf at h
  obtain ⟨H, hH⟩ : ∃ H, H = s.heap := ⟨_, rfl⟩
  obtain ⟨locs, hlo⟩ : ∃ locs : List Loc, locs = [] := ⟨_, rfl⟩
  rw [← hH] at hP
  rw [← hlo] at hS
  have hS : va_S kF s.heap H locs := by rw [hH]; exact hS
  show W p l e (k_rm 5 117) s m [.ref ob, .int p1, .int p2, .int p3].toArray below meth c s.heap [] 0 0 _ _
  rw [← hlo, ← hH]
  refine lv_iconst (v := (-1)) hx hb dX5_rowOf_0 (by decide) ?_
  refine lv_istore (lv' := [(4, .int ((-1))), (0, .ref ob), (1, .int p1), (2, .int p2), (3, .int p3)]) hx hb dX5_rowOf_1 hl (by decide) rfl (fun ls hl => ?_)
  refine lv_iconst (v := 0) hx hb dX5_rowOf_3 (by decide) ?_
  refine lv_istore (lv' := [(5, .int 0), (4, .int ((-1))), (0, .ref ob), (1, .int p1), (2, .int p2), (3, .int p3)]) hx hb dX5_rowOf_4 hl (by decide) rfl (fun ls hl => ?_)
  obtain ⟨S6, hS6⟩ : ∃ z, z = (fX5_rowOf_s6 v_z p2 p3 p1) := ⟨_, rfl⟩
  rw [← hS6] at h
  have L6 : ∀ (n : Nat) (x1 : Int32) (x2 : Int32) (H : Heap) (locs : List Loc) (ls : Array Slot), k_l2 S6 n x1 x2 = some r → va_P (dC, dI) vwCl (wX5 cyI cyC ob a1 a2 a3 a4 a5 a6 a7 a8 v_thrown v_z v_saved v_savedMany v_spare v_buffer v_typed v_marksBlown v_rests v_begins v_orders v_orderMany v_spot v_wrong v_isShort v_before v_hash) H → va_S kF s.heap H locs → lv_has ls 7 [(0, .ref ob), (1, .int p1), (2, .int p2), (3, .int p3), (4, .int x1), (5, .int x2)] → W p l e (k_rm 5 117) s m [.ref ob, .int p1, .int p2, .int p3].toArray below meth c H locs 0 0 (MQ below (qRI r) [.ref ob, .int p1, .int p2, .int p3].toArray s 0 0 kF) (F0 m 6 ls []) := by
    intro n
    induction n with
    | zero =>
      intro x1 x2 H locs ls h
      exact (k_l2_0 h).elim
    | succ n ih6 =>
      intro x1 x2 H locs ls h hP hS hl
      have h := k_l2_s h
      have h := k_a3 hS6 h
      unfold fX5_rowOf_s6 at h
      refine lv_iload hx hb dX5_rowOf_6 (lv_at hl 5 rfl) ?_
      refine lv_bipush (v := 20) hx hb dX5_rowOf_8 (by decide) ?_
      refine g_icmp_ge (tgt := 56) hx hb dX5_rowOf_10 (by decide) h (fun h => ?_) (fun h => ?_)
      · refine lv_iload hx hb dX5_rowOf_56 (lv_at hl 4 rfl) ?_
        exact g_retRI hx hb hr hlk hS h dX5_rowOf_58
      · refine lv_aload_n hx hb dX5_rowOf_13 rfl (lv_at hl 0 rfl) ?_
        refine lv_iload hx hb dX5_rowOf_14 (lv_at hl 5 rfl) ?_
        refine lv_iload_n hx hb dX5_rowOf_16 rfl (lv_at hl 2 rfl) ?_
        refine lv_iload_n hx hb dX5_rowOf_17 rfl (lv_at hl 3 rfl) ?_
        obtain ⟨x3, hc18, h⟩ := k_b1_e h
        refine g_callRI_V (As := [.int x2, .int p2, .int p3]) (rest := []) hC (mX5_mask l dC dI cyI cyC cyO ob a1 a2 a3 a4 a5 a6 a7 a8 v_thrown v_z v_saved v_savedMany v_spare v_buffer v_typed v_marksBlown v_rests v_begins v_orders v_orderMany v_spot v_wrong v_isShort v_before v_hash x2 p2 p3 hc18) q788 q789 q24 q75 q790 3 hdX5_mask ⟨Nat.le_of_ble_eq_true rfl, Nat.le_of_ble_eq_true rfl⟩ ⟨Nat.le_of_ble_eq_true rfl, Nat.le_of_ble_eq_true rfl⟩ rfl rfl hl.1 (Nat.le_of_ble_eq_true rfl) hP hK (va_recv hK hP (ci := 4) (q0 := 0) rfl rfl) hS dX5_rowOf_18 (fun H locs hk hS => ?_)
        have hP := k_kept hP hk
        refine lv_istore (lv' := [(6, .int x3), (0, .ref ob), (1, .int p1), (2, .int p2), (3, .int p3), (4, .int x1), (5, .int x2)]) hx hb dX5_rowOf_21 hl (by decide) rfl (fun ls hl => ?_)
        refine lv_iload hx hb dX5_rowOf_23 (lv_at hl 0 rfl) ?_
        obtain ⟨x4, hc25, h⟩ := k_b1_e h
        refine g_callRI_S (As := [.int x3]) (rest := []) hC (mX5_kindOf l dC dI cyI cyC cyO x3 hc25) q806 q807 q75 q808 1 hdX5_kindOf ⟨Nat.le_of_ble_eq_true rfl, Nat.le_of_ble_eq_true rfl⟩ ⟨Nat.le_of_ble_eq_true rfl, Nat.le_of_ble_eq_true rfl⟩ rfl rfl hl.1 (Nat.le_of_ble_eq_true rfl) va_P_nil hK hS dX5_rowOf_25 (fun H locs hk hS => ?_)
        have hP := k_kept hP hk
        refine lv_iconst (v := 4) hx hb dX5_rowOf_28 (by decide) ?_
        obtain ⟨K48, hK48, h⟩ := k_j1_e h
        have J48 : ∀ (x5 : Int32) (H : Heap) (locs : List Loc) (ls : Array Slot), K48 x5 = some r → va_P (dC, dI) vwCl (wX5 cyI cyC ob a1 a2 a3 a4 a5 a6 a7 a8 v_thrown v_z v_saved v_savedMany v_spare v_buffer v_typed v_marksBlown v_rests v_begins v_orders v_orderMany v_spot v_wrong v_isShort v_before v_hash) H → va_S kF s.heap H locs → lv_has ls 7 [(0, .ref ob), (1, .int p1), (2, .int p2), (3, .int p3), (5, .int x2)] → W p l e (k_rm 5 117) s m [.ref ob, .int p1, .int p2, .int p3].toArray below meth c H locs 0 0 (MQ below (qRI r) [.ref ob, .int p1, .int p2, .int p3].toArray s 0 0 kF) (F0 m 48 ls [.int x5]) := by
          intro x5 H locs ls h hP hS hl
          have h := k_a1 hK48 h
          refine lv_istore (lv' := [(4, .int x5), (0, .ref ob), (1, .int p1), (2, .int p2), (3, .int p3), (5, .int x2)]) hx hb dX5_rowOf_48 hl (by decide) rfl (fun ls hl => ?_)
          refine g_iinc (dv := 1) hx hb dX5_rowOf_50 hl (j := 5) rfl (by decide) (by decide) h (fun x6 ls h hl => ?_)
          have hl : lv_has ls 7 [(5, .int x6), (4, .int x5), (0, .ref ob), (1, .int p1), (2, .int p2), (3, .int p3)] := hl
          refine lv_goto (tgt := 6) hx hb dX5_rowOf_53 (by decide) ?_
          exact ih6 x5 x6 _ _ _ h hP hS (lv_sub hl [2, 3, 4, 5, 1, 0] rfl)
        refine g_icmp_ne (tgt := 46) hx hb dX5_rowOf_29 (by decide) h (fun h => ?_) (fun h => ?_)
        · refine lv_iload hx hb dX5_rowOf_46 (lv_at hl 5 rfl) ?_
          exact J48 x1 _ _ _ h hP hS (lv_sub hl [1, 2, 3, 4, 6] rfl)
        · refine lv_iload hx hb dX5_rowOf_32 (lv_at hl 0 rfl) ?_
          obtain ⟨x7, hc34, h⟩ := k_b1_e h
          refine g_callRI_S (As := [.int x3]) (rest := []) hC (mX5_keyIn l dC dI cyI cyC cyO x3 hc34) q809 q810 q75 q811 1 hdX5_keyIn ⟨Nat.le_of_ble_eq_true rfl, Nat.le_of_ble_eq_true rfl⟩ ⟨Nat.le_of_ble_eq_true rfl, Nat.le_of_ble_eq_true rfl⟩ rfl rfl hl.1 (Nat.le_of_ble_eq_true rfl) va_P_nil hK hS dX5_rowOf_34 (fun H locs hk hS => ?_)
          have hP := k_kept hP hk
          refine lv_iload_n hx hb dX5_rowOf_37 rfl (lv_at hl 2 rfl) ?_
          refine g_icmp_ne (tgt := 46) hx hb dX5_rowOf_38 (by decide) h (fun h => ?_) (fun h => ?_)
          · refine lv_iload hx hb dX5_rowOf_46 (lv_at hl 5 rfl) ?_
            exact J48 x1 _ _ _ h hP hS (lv_sub hl [1, 2, 3, 4, 6] rfl)
          · refine lv_iload hx hb dX5_rowOf_41 (lv_at hl 6 rfl) ?_
            refine lv_goto (tgt := 48) hx hb dX5_rowOf_43 (by decide) ?_
            exact J48 x2 _ _ _ h hP hS (lv_sub hl [1, 2, 3, 4, 6] rfl)
  exact L6 5000 ((-1)) 0 _ _ _ h hP hS (lv_sub hl [2, 3, 4, 5, 1, 0] rfl)
def fX5_valueOf (v_z : Nat → Int32) (p1 : Int32) (p2 : Int32) (p3 : Int32) : Option (Int32) :=
  k_b1 (fX5_rowOf v_z p1 p2 p3) fun (x1 : Int32) =>
  k_if (x1 = ((-1)))
  (
    some ((-1)))
  (
    k_b1 (fX5_mask v_z x1 p2 p3) fun (x2 : Int32) =>
    k_b1 (fX5_valueIn x2) fun (x3 : Int32) =>
    some x3)
theorem hdX5_valueOf : yX5_valueOf.cls = RX5 ∧ yX5_valueOf.cls ≠ "java/lang/invoke/MethodHandle" ∧ yX5_valueOf.cls ≠ "java/lang/invoke/VarHandle" ∧ (parseMethodDescriptor yX5_valueOf.desc).map (fun d => d.parameters.length) = some 3 := by decide +kernel
set_option maxRecDepth 100000 in
set_option maxHeartbeats 4000000 in
theorem mX5_valueOf (l : Launch) (dC : Nat → ClassId) (dI : Nat → Nat → Nat) (cyI cyC cyO : ClassId) (ob a1 a2 a3 a4 a5 a6 a7 a8 : Nat) (v_thrown : Int32) (v_z : Nat → Int32) (v_saved : Nat → Int32) (v_savedMany : Int32) (v_spare : Nat → Int32) (v_buffer : Nat → Int32) (v_typed : Int32) (v_marksBlown : Int32) (v_rests : Nat → Int32) (v_begins : Nat → Int32) (v_orders : Nat → Int32) (v_orderMany : Int32) (v_spot : Int32) (v_wrong : Int32) (v_isShort : Int32) (v_before : Nat → Int32) (v_hash : Int64) (p1 : Int32) (p2 : Int32) (p3 : Int32) {r : Int32} (hf : fX5_valueOf v_z p1 p2 p3 = some r) : MetRI l yX5_valueOf cX5_valueOf 5 (some .int) 6 143 [.ref ob, .int p1, .int p2, .int p3] (dC, dI) (tyS cyI cyC cyO) (wX5 cyI cyC ob a1 a2 a3 a4 a5 a6 a7 a8 v_thrown v_z v_saved v_savedMany v_spare v_buffer v_typed v_marksBlown v_rests v_begins v_orders v_orderMany v_spot v_wrong v_isShort v_before v_hash) r := by
  refine metRI_of (by decide) (Nat.le_of_ble_eq_true rfl) ?_
  intro p e s m below meth c ls hC hr hlk hP hK hl
  have hC : CallFix p m c cX5_valueOf 5 s [.ref ob, .int p1, .int p2, .int p3].toArray wA RX5 := hC
  obtain ⟨hx, hb, hml, hown, hts⟩ := id hC
  have hS : va_S kF s.heap s.heap [] := va_S.rf
  have hl : lv_has ls 5 [(0, .ref ob), (1, .int p1), (2, .int p2), (3, .int p3)] := hl
  have h := hf
  unfold fX5_valueOf at h
  obtain ⟨H, hH⟩ : ∃ H, H = s.heap := ⟨_, rfl⟩
  obtain ⟨locs, hlo⟩ : ∃ locs : List Loc, locs = [] := ⟨_, rfl⟩
  rw [← hH] at hP
  rw [← hlo] at hS
  have hS : va_S kF s.heap H locs := by rw [hH]; exact hS
  show W p l e (k_rm 6 143) s m [.ref ob, .int p1, .int p2, .int p3].toArray below meth c s.heap [] 0 0 _ _
  rw [← hlo, ← hH]
  refine lv_aload_n hx hb dX5_valueOf_0 rfl (lv_at hl 0 rfl) ?_
  refine lv_iload_n hx hb dX5_valueOf_1 rfl (lv_at hl 1 rfl) ?_
  refine lv_iload_n hx hb dX5_valueOf_2 rfl (lv_at hl 2 rfl) ?_
  refine lv_iload_n hx hb dX5_valueOf_3 rfl (lv_at hl 3 rfl) ?_
  obtain ⟨x1, hc4, h⟩ := k_b1_e h
  refine g_callRI_V (As := [.int p1, .int p2, .int p3]) (rest := []) hC (mX5_rowOf l dC dI cyI cyC cyO ob a1 a2 a3 a4 a5 a6 a7 a8 v_thrown v_z v_saved v_savedMany v_spare v_buffer v_typed v_marksBlown v_rests v_begins v_orders v_orderMany v_spot v_wrong v_isShort v_before v_hash p1 p2 p3 hc4) q933 q934 q48 q75 q935 3 hdX5_rowOf ⟨Nat.le_of_ble_eq_true rfl, Nat.le_of_ble_eq_true rfl⟩ ⟨Nat.le_of_ble_eq_true rfl, Nat.le_of_ble_eq_true rfl⟩ rfl rfl hl.1 (Nat.le_of_ble_eq_true rfl) hP hK (va_recv hK hP (ci := 4) (q0 := 0) rfl rfl) hS dX5_valueOf_4 (fun H locs hk hS => ?_)
  have hP := k_kept hP hk
  refine lv_istore (lv' := [(4, .int x1), (0, .ref ob), (1, .int p1), (2, .int p2), (3, .int p3)]) hx hb dX5_valueOf_7 hl (by decide) rfl (fun ls hl => ?_)
  refine lv_iload hx hb dX5_valueOf_9 (lv_at hl 0 rfl) ?_
  refine lv_iconst (v := (-1)) hx hb dX5_valueOf_11 (by decide) ?_
  refine g_icmp_ne (tgt := 19) hx hb dX5_valueOf_12 (by decide) h (fun h => ?_) (fun h => ?_)
  · refine lv_aload_n hx hb dX5_valueOf_19 rfl (lv_at hl 1 rfl) ?_
    refine lv_iload hx hb dX5_valueOf_20 (lv_at hl 0 rfl) ?_
    refine lv_iload_n hx hb dX5_valueOf_22 rfl (lv_at hl 3 rfl) ?_
    refine lv_iload_n hx hb dX5_valueOf_23 rfl (lv_at hl 4 rfl) ?_
    obtain ⟨x2, hc24, h⟩ := k_b1_e h
    refine g_callRI_V (As := [.int x1, .int p2, .int p3]) (rest := []) hC (mX5_mask l dC dI cyI cyC cyO ob a1 a2 a3 a4 a5 a6 a7 a8 v_thrown v_z v_saved v_savedMany v_spare v_buffer v_typed v_marksBlown v_rests v_begins v_orders v_orderMany v_spot v_wrong v_isShort v_before v_hash x1 p2 p3 hc24) q788 q789 q24 q75 q790 3 hdX5_mask ⟨Nat.le_of_ble_eq_true rfl, Nat.le_of_ble_eq_true rfl⟩ ⟨Nat.le_of_ble_eq_true rfl, Nat.le_of_ble_eq_true rfl⟩ rfl rfl hl.1 (Nat.le_of_ble_eq_true rfl) hP hK (va_recv hK hP (ci := 4) (q0 := 0) rfl rfl) hS dX5_valueOf_24 (fun H locs hk hS => ?_)
    have hP := k_kept hP hk
    obtain ⟨x3, hc27, h⟩ := k_b1_e h
    refine g_callRI_S (As := [.int x2]) (rest := []) hC (mX5_valueIn l dC dI cyI cyC cyO x2 hc27) q812 q813 q75 q814 1 hdX5_valueIn ⟨Nat.le_of_ble_eq_true rfl, Nat.le_of_ble_eq_true rfl⟩ ⟨Nat.le_of_ble_eq_true rfl, Nat.le_of_ble_eq_true rfl⟩ rfl rfl hl.1 (Nat.le_of_ble_eq_true rfl) va_P_nil hK hS dX5_valueOf_27 (fun H locs hk hS => ?_)
    have hP := k_kept hP hk
    exact g_retRI hx hb hr hlk hS h dX5_valueOf_30
  · refine lv_iconst (v := (-1)) hx hb dX5_valueOf_15 (by decide) ?_
    refine lv_goto (tgt := 30) hx hb dX5_valueOf_16 (by decide) ?_
    exact g_retRI hx hb hr hlk hS h dX5_valueOf_30
def fX5_valueNow (v_z : Nat → Int32) (p1 : Int32) : Option (Int32) :=
  k_ck (0 : Int32) 327 <| k_let (v_z (0 : Int32).toNatClampNeg) fun (x1 : Int32) =>
  k_b1 (fX5_isThriceNow v_z) fun (x2 : Int32) =>
  k_b1 (fX5_valueOf v_z p1 x1 x2) fun (x3 : Int32) =>
  some x3
theorem hdX5_valueNow : yX5_valueNow.cls = RX5 ∧ yX5_valueNow.cls ≠ "java/lang/invoke/MethodHandle" ∧ yX5_valueNow.cls ≠ "java/lang/invoke/VarHandle" ∧ (parseMethodDescriptor yX5_valueNow.desc).map (fun d => d.parameters.length) = some 1 := by decide +kernel
set_option maxRecDepth 100000 in
set_option maxHeartbeats 4000000 in
theorem mX5_valueNow (l : Launch) (dC : Nat → ClassId) (dI : Nat → Nat → Nat) (cyI cyC cyO : ClassId) (ob a1 a2 a3 a4 a5 a6 a7 a8 : Nat) (v_thrown : Int32) (v_z : Nat → Int32) (v_saved : Nat → Int32) (v_savedMany : Int32) (v_spare : Nat → Int32) (v_buffer : Nat → Int32) (v_typed : Int32) (v_marksBlown : Int32) (v_rests : Nat → Int32) (v_begins : Nat → Int32) (v_orders : Nat → Int32) (v_orderMany : Int32) (v_spot : Int32) (v_wrong : Int32) (v_isShort : Int32) (v_before : Nat → Int32) (v_hash : Int64) (p1 : Int32) {r : Int32} (hf : fX5_valueNow v_z p1 = some r) : MetRI l yX5_valueNow cX5_valueNow 2 (some .int) 7 167 [.ref ob, .int p1] (dC, dI) (tyS cyI cyC cyO) (wX5 cyI cyC ob a1 a2 a3 a4 a5 a6 a7 a8 v_thrown v_z v_saved v_savedMany v_spare v_buffer v_typed v_marksBlown v_rests v_begins v_orders v_orderMany v_spot v_wrong v_isShort v_before v_hash) r := by
  refine metRI_of (by decide) (Nat.le_of_ble_eq_true rfl) ?_
  intro p e s m below meth c ls hC hr hlk hP hK hl
  have hC : CallFix p m c cX5_valueNow 2 s [.ref ob, .int p1].toArray wA RX5 := hC
  obtain ⟨hx, hb, hml, hown, hts⟩ := id hC
  have hS : va_S kF s.heap s.heap [] := va_S.rf
  have hl : lv_has ls 2 [(0, .ref ob), (1, .int p1)] := hl
  have h := hf
  unfold fX5_valueNow at h
  obtain ⟨H, hH⟩ : ∃ H, H = s.heap := ⟨_, rfl⟩
  obtain ⟨locs, hlo⟩ : ∃ locs : List Loc, locs = [] := ⟨_, rfl⟩
  rw [← hH] at hP
  rw [← hlo] at hS
  have hS : va_S kF s.heap H locs := by rw [hH]; exact hS
  show W p l e (k_rm 7 167) s m [.ref ob, .int p1].toArray below meth c s.heap [] 0 0 _ _
  rw [← hlo, ← hH]
  refine lv_aload_n hx hb dX5_valueNow_0 rfl (lv_at hl 0 rfl) ?_
  refine lv_iload_n hx hb dX5_valueNow_1 rfl (lv_at hl 1 rfl) ?_
  refine lv_aload_n hx hb dX5_valueNow_2 rfl (lv_at hl 0 rfl) ?_
  refine va_get (D := (dC, dI)) (ci := 4) (v := .ref a1) (C := RX5) (T := TX5) (N := 17) hx hb hts iaX5 hown hK hP 0 rfl rfl 1 (by decide) (hts _ q717) (fun _ h9 => h9) rfl dX5_valueNow_3 ?_
  refine lv_iconst (v := 0) hx hb dX5_valueNow_6 (by decide) ?_
  refine g_iald hx hb hK hP 1 0 rfl rfl dX5_valueNow_7 h (fun x1 h => ?_)
  refine lv_aload_n hx hb dX5_valueNow_8 rfl (lv_at hl 0 rfl) ?_
  obtain ⟨x2, hc9, h⟩ := k_b1_e h
  refine g_callRI_V (As := []) (rest := [.int x1, .int p1, .ref ob]) hC (mX5_isThriceNow l dC dI cyI cyC cyO ob a1 a2 a3 a4 a5 a6 a7 a8 v_thrown v_z v_saved v_savedMany v_spare v_buffer v_typed v_marksBlown v_rests v_begins v_orders v_orderMany v_spot v_wrong v_isShort v_before v_hash hc9) q785 q786 q23 q75 q787 0 hdX5_isThriceNow ⟨Nat.le_of_ble_eq_true rfl, Nat.le_of_ble_eq_true rfl⟩ ⟨Nat.le_of_ble_eq_true rfl, Nat.le_of_ble_eq_true rfl⟩ rfl rfl hl.1 (Nat.le_of_ble_eq_true rfl) hP hK (va_recv hK hP (ci := 4) (q0 := 0) rfl rfl) hS dX5_valueNow_9 (fun H locs hk hS => ?_)
  have hP := k_kept hP hk
  obtain ⟨x3, hc12, h⟩ := k_b1_e h
  refine g_callRI_V (As := [.int p1, .int x1, .int x2]) (rest := []) hC (mX5_valueOf l dC dI cyI cyC cyO ob a1 a2 a3 a4 a5 a6 a7 a8 v_thrown v_z v_saved v_savedMany v_spare v_buffer v_typed v_marksBlown v_rests v_begins v_orders v_orderMany v_spot v_wrong v_isShort v_before v_hash p1 x1 x2 hc12) q930 q931 q47 q75 q932 3 hdX5_valueOf ⟨Nat.le_of_ble_eq_true rfl, Nat.le_of_ble_eq_true rfl⟩ ⟨Nat.le_of_ble_eq_true rfl, Nat.le_of_ble_eq_true rfl⟩ rfl rfl hl.1 (Nat.le_of_ble_eq_true rfl) hP hK (va_recv hK hP (ci := 4) (q0 := 0) rfl rfl) hS dX5_valueNow_12 (fun H locs hk hS => ?_)
  have hP := k_kept hP hk
  exact g_retRI hx hb hr hlk hS h dX5_valueNow_15
def fX5_blowOne (v_z : Nat → Int32) (p1 : Int32) (p2 : Int32) (p3 : Int32) : Option ((Nat → Int32)) :=
  k_let (16 * p1) fun (x1 : Int32) =>
  k_let (7 + x1) fun (x2 : Int32) =>
  k_let (x2 + p2) fun (x3 : Int32) =>
  k_ck x3 327 <| k_let (v_z x3.toNatClampNeg) fun (x4 : Int32) =>
  k_j1
  (fun (x5 : Int32) =>
    k_ck x3 327 <| k_let (upd v_z x3.toNatClampNeg x5) fun (c6 : Nat → Int32) =>
    k_ck (1 : Int32) 327 <| k_let (c6 (1 : Int32).toNatClampNeg) fun (x7 : Int32) =>
    k_let (x7 + p3) fun (x8 : Int32) =>
    k_ck (1 : Int32) 327 <| k_let (upd c6 (1 : Int32).toNatClampNeg x8) fun (c9 : Nat → Int32) =>
    some c9)
  (fun K39 =>
  k_if (x4 ≤ p3)
  (
    K39 p3)
  (
    k_ck x3 327 <| k_let (v_z x3.toNatClampNeg) fun (x10 : Int32) =>
    K39 x10))
theorem hdX5_blowOne : yX5_blowOne.cls = RX5 ∧ yX5_blowOne.cls ≠ "java/lang/invoke/MethodHandle" ∧ yX5_blowOne.cls ≠ "java/lang/invoke/VarHandle" ∧ (parseMethodDescriptor yX5_blowOne.desc).map (fun d => d.parameters.length) = some 3 := by decide +kernel
set_option maxRecDepth 100000 in
set_option maxHeartbeats 4000000 in
theorem mX5_blowOne (l : Launch) (dC : Nat → ClassId) (dI : Nat → Nat → Nat) (cyI cyC cyO : ClassId) (ob a1 a2 a3 a4 a5 a6 a7 a8 : Nat) (v_thrown : Int32) (v_z : Nat → Int32) (v_saved : Nat → Int32) (v_savedMany : Int32) (v_spare : Nat → Int32) (v_buffer : Nat → Int32) (v_typed : Int32) (v_marksBlown : Int32) (v_rests : Nat → Int32) (v_begins : Nat → Int32) (v_orders : Nat → Int32) (v_orderMany : Int32) (v_spot : Int32) (v_wrong : Int32) (v_isShort : Int32) (v_before : Nat → Int32) (v_hash : Int64) (p1 : Int32) (p2 : Int32) (p3 : Int32) {r_z : Nat → Int32} (hf : fX5_blowOne v_z p1 p2 p3 = some r_z) : MetMV l yX5_blowOne cX5_blowOne 5 none 0 0 [.ref ob, .int p1, .int p2, .int p3] (dC, dI) (tyS cyI cyC cyO) (wX5 cyI cyC ob a1 a2 a3 a4 a5 a6 a7 a8 v_thrown v_z v_saved v_savedMany v_spare v_buffer v_typed v_marksBlown v_rests v_begins v_orders v_orderMany v_spot v_wrong v_isShort v_before v_hash) (wX5 cyI cyC ob a1 a2 a3 a4 a5 a6 a7 a8 v_thrown r_z v_saved v_savedMany v_spare v_buffer v_typed v_marksBlown v_rests v_begins v_orders v_orderMany v_spot v_wrong v_isShort v_before v_hash) := by
  refine metMV_of (by decide) (Nat.le_of_ble_eq_true rfl) ?_
  intro p e s m below meth c ls hC hr hlk hP hK hD hl
  have hC : CallFix p m c cX5_blowOne 5 s [.ref ob, .int p1, .int p2, .int p3].toArray wA RX5 := hC
  obtain ⟨hx, hb, hml, hown, hts⟩ := id hC
  have hS : va_S (k_A (wX5 cyI cyC ob a1 a2 a3 a4 a5 a6 a7 a8 v_thrown v_z v_saved v_savedMany v_spare v_buffer v_typed v_marksBlown v_rests v_begins v_orders v_orderMany v_spot v_wrong v_isShort v_before v_hash)) s.heap s.heap [] := va_S.rf
  have hl : lv_has ls 5 [(0, .ref ob), (1, .int p1), (2, .int p2), (3, .int p3)] := hl
  have h := hf
  unfold fX5_blowOne at h
  obtain ⟨H, hH⟩ : ∃ H, H = s.heap := ⟨_, rfl⟩
  obtain ⟨locs, hlo⟩ : ∃ locs : List Loc, locs = [] := ⟨_, rfl⟩
  rw [← hH] at hP
  rw [← hlo] at hS
  have hS : va_S (k_A (wX5 cyI cyC ob a1 a2 a3 a4 a5 a6 a7 a8 v_thrown v_z v_saved v_savedMany v_spare v_buffer v_typed v_marksBlown v_rests v_begins v_orders v_orderMany v_spot v_wrong v_isShort v_before v_hash)) s.heap H locs := by rw [hH]; exact hS
  show W p l e (k_rm 0 0) s m [.ref ob, .int p1, .int p2, .int p3].toArray below meth c s.heap [] 0 0 _ _
  rw [← hlo, ← hH]
  refine lv_bipush (v := 7) hx hb dX5_blowOne_0 (by decide) ?_
  refine lv_bipush (v := 16) hx hb dX5_blowOne_2 (by decide) ?_
  refine lv_iload_n hx hb dX5_blowOne_4 rfl (lv_at hl 1 rfl) ?_
  refine g_imul hx hb dX5_blowOne_5 h (fun x1 h => ?_)
  refine g_iadd hx hb dX5_blowOne_6 h (fun x2 h => ?_)
  refine lv_iload_n hx hb dX5_blowOne_7 rfl (lv_at hl 2 rfl) ?_
  refine g_iadd hx hb dX5_blowOne_8 h (fun x3 h => ?_)
  refine lv_istore (lv' := [(4, .int x3), (0, .ref ob), (1, .int p1), (2, .int p2), (3, .int p3)]) hx hb dX5_blowOne_9 hl (by decide) rfl (fun ls hl => ?_)
  refine lv_aload_n hx hb dX5_blowOne_11 rfl (lv_at hl 1 rfl) ?_
  refine va_get (D := (dC, dI)) (ci := 4) (v := .ref a1) (C := RX5) (T := TX5) (N := 17) hx hb hts iaX5 hown hK hP 0 rfl rfl 1 (by decide) (hts _ q717) (fun _ h9 => h9) rfl dX5_blowOne_12 ?_
  refine lv_iload hx hb dX5_blowOne_15 (lv_at hl 0 rfl) ?_
  refine lv_aload_n hx hb dX5_blowOne_17 rfl (lv_at hl 1 rfl) ?_
  refine va_get (D := (dC, dI)) (ci := 4) (v := .ref a1) (C := RX5) (T := TX5) (N := 17) hx hb hts iaX5 hown hK hP 0 rfl rfl 1 (by decide) (hts _ q717) (fun _ h9 => h9) rfl dX5_blowOne_18 ?_
  refine lv_iload hx hb dX5_blowOne_21 (lv_at hl 0 rfl) ?_
  refine g_iald hx hb hK hP 1 0 rfl rfl dX5_blowOne_23 h (fun x4 h => ?_)
  refine lv_iload_n hx hb dX5_blowOne_24 rfl (lv_at hl 4 rfl) ?_
  obtain ⟨K39, hK39, h⟩ := k_j1_e h
  have J39 : ∀ (x5 : Int32) (H : Heap) (locs : List Loc) (ls : Array Slot), K39 x5 = some r_z → va_P (dC, dI) vwCl (wX5 cyI cyC ob a1 a2 a3 a4 a5 a6 a7 a8 v_thrown v_z v_saved v_savedMany v_spare v_buffer v_typed v_marksBlown v_rests v_begins v_orders v_orderMany v_spot v_wrong v_isShort v_before v_hash) H → va_S (k_A (wX5 cyI cyC ob a1 a2 a3 a4 a5 a6 a7 a8 v_thrown v_z v_saved v_savedMany v_spare v_buffer v_typed v_marksBlown v_rests v_begins v_orders v_orderMany v_spot v_wrong v_isShort v_before v_hash)) s.heap H locs → lv_has ls 5 [(0, .ref ob), (3, .int p3)] → W p l e (k_rm 0 0) s m [.ref ob, .int p1, .int p2, .int p3].toArray below meth c H locs 0 0 (MQ below (qMV (dC, dI) (wX5 cyI cyC ob a1 a2 a3 a4 a5 a6 a7 a8 v_thrown v_z v_saved v_savedMany v_spare v_buffer v_typed v_marksBlown v_rests v_begins v_orders v_orderMany v_spot v_wrong v_isShort v_before v_hash) (wX5 cyI cyC ob a1 a2 a3 a4 a5 a6 a7 a8 v_thrown r_z v_saved v_savedMany v_spare v_buffer v_typed v_marksBlown v_rests v_begins v_orders v_orderMany v_spot v_wrong v_isShort v_before v_hash)) [.ref ob, .int p1, .int p2, .int p3].toArray s 0 0 (k_A (wX5 cyI cyC ob a1 a2 a3 a4 a5 a6 a7 a8 v_thrown v_z v_saved v_savedMany v_spare v_buffer v_typed v_marksBlown v_rests v_begins v_orders v_orderMany v_spot v_wrong v_isShort v_before v_hash))) (F0 m 39 ls [.int x5, .int x3, .ref a1]) := by
    intro x5 H locs ls h hP hS hl
    have h := k_a1 hK39 h
    refine g_iast hx hb hK hP hD hS 1 0 rfl rfl dX5_blowOne_39 h (fun c6 H locs h hP hS => ?_)
    have hP : va_P (dC, dI) vwCl (wX5 cyI cyC ob a1 a2 a3 a4 a5 a6 a7 a8 v_thrown c6 v_saved v_savedMany v_spare v_buffer v_typed v_marksBlown v_rests v_begins v_orders v_orderMany v_spot v_wrong v_isShort v_before v_hash) H := hP
    have hD : va_D (k_A (wX5 cyI cyC ob a1 a2 a3 a4 a5 a6 a7 a8 v_thrown v_z v_saved v_savedMany v_spare v_buffer v_typed v_marksBlown v_rests v_begins v_orders v_orderMany v_spot v_wrong v_isShort v_before v_hash)) (wX5 cyI cyC ob a1 a2 a3 a4 a5 a6 a7 a8 v_thrown c6 v_saved v_savedMany v_spare v_buffer v_typed v_marksBlown v_rests v_begins v_orders v_orderMany v_spot v_wrong v_isShort v_before v_hash) := k_Dm hD rfl
    refine lv_aload_n hx hb dX5_blowOne_40 rfl (lv_at hl 0 rfl) ?_
    refine va_get (D := (dC, dI)) (ci := 4) (v := .ref a1) (C := RX5) (T := TX5) (N := 17) hx hb hts iaX5 hown hK hP 0 rfl rfl 1 (by decide) (hts _ q717) (fun _ h9 => h9) rfl dX5_blowOne_41 ?_
    refine lv_iconst (v := 1) hx hb dX5_blowOne_44 (by decide) ?_
    refine lv_dup2_11 hx hb dX5_blowOne_45 rfl rfl ?_
    refine g_iald hx hb hK hP 1 0 rfl rfl dX5_blowOne_46 h (fun x7 h => ?_)
    refine lv_iload_n hx hb dX5_blowOne_47 rfl (lv_at hl 1 rfl) ?_
    refine g_iadd hx hb dX5_blowOne_48 h (fun x8 h => ?_)
    refine g_iast hx hb hK hP hD hS 1 0 rfl rfl dX5_blowOne_49 h (fun c9 H locs h hP hS => ?_)
    have hP : va_P (dC, dI) vwCl (wX5 cyI cyC ob a1 a2 a3 a4 a5 a6 a7 a8 v_thrown c9 v_saved v_savedMany v_spare v_buffer v_typed v_marksBlown v_rests v_begins v_orders v_orderMany v_spot v_wrong v_isShort v_before v_hash) H := hP
    have hD : va_D (k_A (wX5 cyI cyC ob a1 a2 a3 a4 a5 a6 a7 a8 v_thrown v_z v_saved v_savedMany v_spare v_buffer v_typed v_marksBlown v_rests v_begins v_orders v_orderMany v_spot v_wrong v_isShort v_before v_hash)) (wX5 cyI cyC ob a1 a2 a3 a4 a5 a6 a7 a8 v_thrown c9 v_saved v_savedMany v_spare v_buffer v_typed v_marksBlown v_rests v_begins v_orders v_orderMany v_spot v_wrong v_isShort v_before v_hash) := k_Dm hD rfl
    have e0 := k_t1 h
    exact g_retMV hx hb hr hlk hS (by rw [← e0]; exact hP) dX5_blowOne_50
  refine g_icmp_le (tgt := 38) hx hb dX5_blowOne_25 (by decide) h (fun h => ?_) (fun h => ?_)
  · refine lv_iload_n hx hb dX5_blowOne_38 rfl (lv_at hl 4 rfl) ?_
    exact J39 p3 _ _ _ h hP hS (lv_sub hl [1, 4] rfl)
  · refine lv_aload_n hx hb dX5_blowOne_28 rfl (lv_at hl 1 rfl) ?_
    refine va_get (D := (dC, dI)) (ci := 4) (v := .ref a1) (C := RX5) (T := TX5) (N := 17) hx hb hts iaX5 hown hK hP 0 rfl rfl 1 (by decide) (hts _ q717) (fun _ h9 => h9) rfl dX5_blowOne_29 ?_
    refine lv_iload hx hb dX5_blowOne_32 (lv_at hl 0 rfl) ?_
    refine g_iald hx hb hK hP 1 0 rfl rfl dX5_blowOne_34 h (fun x10 h => ?_)
    refine lv_goto (tgt := 39) hx hb dX5_blowOne_35 (by decide) ?_
    exact J39 x10 _ _ _ h hP hS (lv_sub hl [1, 4] rfl)
def fX5_blow (v_thrown : Int32) (v_z : Nat → Int32) (v_saved : Nat → Int32) (v_savedMany : Int32) (p1 : Int32) (p2 : Int32) (p3 : Int32) : Option (Int32 × Int32 × (Nat → Int32) × (Nat → Int32) × Int32) :=
  k_b1 (fX5_isRow p1) fun (x1 : Int32) =>
  k_j1
  (fun (x2 : Int32) =>
    k_if (x2 ≤ 0)
    (
      k_b2 (fX5_save v_z v_saved v_savedMany) fun (c3 : Nat → Int32) (c4 : Int32) =>
      k_b1 (fX5_blowOne v_z p1 p2 p3) fun (c5 : Nat → Int32) =>
      k_b1 (fX5_strength c5 p1 p2) fun (x6 : Int32) =>
      some (x6, x2, c5, c3, c4))
    (
      some (0, x2, v_z, v_saved, v_savedMany)))
  (fun K48 =>
  k_if (x1 = 0)
  (
    K48 1)
  (
    k_b1 (fX5_in p2 0 15) fun (x7 : Int32) =>
    k_if (x7 = 0)
    (
      K48 1)
    (
      k_b1 (fX5_in p3 1 3) fun (x8 : Int32) =>
      k_if (x8 = 0)
      (
        K48 2)
      (
        k_b1 (fX5_isLocked v_z p1) fun (x9 : Int32) =>
        k_if (x9 = 0)
        (
          K48 0)
        (
          K48 3)))))
theorem hdX5_blow : yX5_blow.cls = RX5 ∧ yX5_blow.cls ≠ "java/lang/invoke/MethodHandle" ∧ yX5_blow.cls ≠ "java/lang/invoke/VarHandle" ∧ (parseMethodDescriptor yX5_blow.desc).map (fun d => d.parameters.length) = some 3 := by decide +kernel
set_option maxRecDepth 100000 in
set_option maxHeartbeats 4000000 in
theorem mX5_blow (l : Launch) (dC : Nat → ClassId) (dI : Nat → Nat → Nat) (cyI cyC cyO : ClassId) (ob a1 a2 a3 a4 a5 a6 a7 a8 : Nat) (v_thrown : Int32) (v_z : Nat → Int32) (v_saved : Nat → Int32) (v_savedMany : Int32) (v_spare : Nat → Int32) (v_buffer : Nat → Int32) (v_typed : Int32) (v_marksBlown : Int32) (v_rests : Nat → Int32) (v_begins : Nat → Int32) (v_orders : Nat → Int32) (v_orderMany : Int32) (v_spot : Int32) (v_wrong : Int32) (v_isShort : Int32) (v_before : Nat → Int32) (v_hash : Int64) (p1 : Int32) (p2 : Int32) (p3 : Int32) {r : Int32} {r_thrown : Int32} {r_z : Nat → Int32} {r_saved : Nat → Int32} {r_savedMany : Int32} (hf : fX5_blow v_thrown v_z v_saved v_savedMany p1 p2 p3 = some (r, r_thrown, r_z, r_saved, r_savedMany)) : MetMI l yX5_blow cX5_blow 4 (some .int) 4 89 [.ref ob, .int p1, .int p2, .int p3] (dC, dI) (tyS cyI cyC cyO) (wX5 cyI cyC ob a1 a2 a3 a4 a5 a6 a7 a8 v_thrown v_z v_saved v_savedMany v_spare v_buffer v_typed v_marksBlown v_rests v_begins v_orders v_orderMany v_spot v_wrong v_isShort v_before v_hash) (wX5 cyI cyC ob a1 a2 a3 a4 a5 a6 a7 a8 r_thrown r_z r_saved r_savedMany v_spare v_buffer v_typed v_marksBlown v_rests v_begins v_orders v_orderMany v_spot v_wrong v_isShort v_before v_hash) r := by
  refine metMI_of (by decide) (Nat.le_of_ble_eq_true rfl) ?_
  intro p e s m below meth c ls hC hr hlk hP hK hD hl
  have hC : CallFix p m c cX5_blow 4 s [.ref ob, .int p1, .int p2, .int p3].toArray wA RX5 := hC
  obtain ⟨hx, hb, hml, hown, hts⟩ := id hC
  have hS : va_S (k_A (wX5 cyI cyC ob a1 a2 a3 a4 a5 a6 a7 a8 v_thrown v_z v_saved v_savedMany v_spare v_buffer v_typed v_marksBlown v_rests v_begins v_orders v_orderMany v_spot v_wrong v_isShort v_before v_hash)) s.heap s.heap [] := va_S.rf
  have hl : lv_has ls 4 [(0, .ref ob), (1, .int p1), (2, .int p2), (3, .int p3)] := hl
  have h := hf
  unfold fX5_blow at h
  obtain ⟨H, hH⟩ : ∃ H, H = s.heap := ⟨_, rfl⟩
  obtain ⟨locs, hlo⟩ : ∃ locs : List Loc, locs = [] := ⟨_, rfl⟩
  rw [← hH] at hP
  rw [← hlo] at hS
  have hS : va_S (k_A (wX5 cyI cyC ob a1 a2 a3 a4 a5 a6 a7 a8 v_thrown v_z v_saved v_savedMany v_spare v_buffer v_typed v_marksBlown v_rests v_begins v_orders v_orderMany v_spot v_wrong v_isShort v_before v_hash)) s.heap H locs := by rw [hH]; exact hS
  show W p l e (k_rm 4 89) s m [.ref ob, .int p1, .int p2, .int p3].toArray below meth c s.heap [] 0 0 _ _
  rw [← hlo, ← hH]
  refine lv_aload_n hx hb dX5_blow_0 rfl (lv_at hl 0 rfl) ?_
  refine lv_iload_n hx hb dX5_blow_1 rfl (lv_at hl 1 rfl) ?_
  obtain ⟨x1, hc2, h⟩ := k_b1_e h
  refine g_callRI_S (As := [.int p1]) (rest := [.ref ob]) hC (mX5_isRow l dC dI cyI cyC cyO p1 hc2) q745 q746 q75 q747 1 hdX5_isRow ⟨Nat.le_of_ble_eq_true rfl, Nat.le_of_ble_eq_true rfl⟩ ⟨Nat.le_of_ble_eq_true rfl, Nat.le_of_ble_eq_true rfl⟩ rfl rfl hl.1 (Nat.le_of_ble_eq_true rfl) va_P_nil hK hS dX5_blow_2 (fun H locs hk hS => ?_)
  have hP := k_kept hP hk
  obtain ⟨K48, hK48, h⟩ := k_j1_e h
  have J48 : ∀ (x2 : Int32) (H : Heap) (locs : List Loc) (ls : Array Slot), K48 x2 = some (r, r_thrown, r_z, r_saved, r_savedMany) → va_P (dC, dI) vwCl (wX5 cyI cyC ob a1 a2 a3 a4 a5 a6 a7 a8 v_thrown v_z v_saved v_savedMany v_spare v_buffer v_typed v_marksBlown v_rests v_begins v_orders v_orderMany v_spot v_wrong v_isShort v_before v_hash) H → va_S (k_A (wX5 cyI cyC ob a1 a2 a3 a4 a5 a6 a7 a8 v_thrown v_z v_saved v_savedMany v_spare v_buffer v_typed v_marksBlown v_rests v_begins v_orders v_orderMany v_spot v_wrong v_isShort v_before v_hash)) s.heap H locs → lv_has ls 4 [(0, .ref ob), (1, .int p1), (2, .int p2), (3, .int p3)] → W p l e (k_rm 4 89) s m [.ref ob, .int p1, .int p2, .int p3].toArray below meth c H locs 0 0 (MQ below (qMI r (dC, dI) (wX5 cyI cyC ob a1 a2 a3 a4 a5 a6 a7 a8 v_thrown v_z v_saved v_savedMany v_spare v_buffer v_typed v_marksBlown v_rests v_begins v_orders v_orderMany v_spot v_wrong v_isShort v_before v_hash) (wX5 cyI cyC ob a1 a2 a3 a4 a5 a6 a7 a8 r_thrown r_z r_saved r_savedMany v_spare v_buffer v_typed v_marksBlown v_rests v_begins v_orders v_orderMany v_spot v_wrong v_isShort v_before v_hash)) [.ref ob, .int p1, .int p2, .int p3].toArray s 0 0 (k_A (wX5 cyI cyC ob a1 a2 a3 a4 a5 a6 a7 a8 v_thrown v_z v_saved v_savedMany v_spare v_buffer v_typed v_marksBlown v_rests v_begins v_orders v_orderMany v_spot v_wrong v_isShort v_before v_hash))) (F0 m 48 ls [.int x2, .ref ob]) := by
    intro x2 H locs ls h hP hS hl
    have h := k_a1 hK48 h
    refine va_put (D := (dC, dI)) (ci := 4) (v := .int x2) (ty := .int) (C := RX5) (T := TX5) (N := 17) hx hb hts iaX5 tyX5 tyX5_ok nmX5 hown hK hP hD hS 0 rfl rfl 0 (by decide) (hts _ q716) (fun _ h9 => h9) rfl (by decide +kernel) rfl rfl (Nat.le_of_ble_eq_true rfl) dX5_blow_48 (fun H locs hP _ hS => ?_)
    have hP : va_P (dC, dI) vwCl (wX5 cyI cyC ob a1 a2 a3 a4 a5 a6 a7 a8 x2 v_z v_saved v_savedMany v_spare v_buffer v_typed v_marksBlown v_rests v_begins v_orders v_orderMany v_spot v_wrong v_isShort v_before v_hash) H := hP
    have hD : va_D (k_A (wX5 cyI cyC ob a1 a2 a3 a4 a5 a6 a7 a8 v_thrown v_z v_saved v_savedMany v_spare v_buffer v_typed v_marksBlown v_rests v_begins v_orders v_orderMany v_spot v_wrong v_isShort v_before v_hash)) (wX5 cyI cyC ob a1 a2 a3 a4 a5 a6 a7 a8 x2 v_z v_saved v_savedMany v_spare v_buffer v_typed v_marksBlown v_rests v_begins v_orders v_orderMany v_spot v_wrong v_isShort v_before v_hash) := k_Dm hD rfl
    refine lv_aload_n hx hb dX5_blow_51 rfl (lv_at hl 0 rfl) ?_
    refine va_get (D := (dC, dI)) (ci := 4) (v := .int x2) (C := RX5) (T := TX5) (N := 17) hx hb hts iaX5 hown hK hP 0 rfl rfl 0 (by decide) (hts _ q716) (fun _ h9 => h9) rfl dX5_blow_52 ?_
    refine g_if_le (tgt := 60) hx hb dX5_blow_55 (by decide) h (fun h => ?_) (fun h => ?_)
    · refine lv_aload_n hx hb dX5_blow_60 rfl (lv_at hl 0 rfl) ?_
      obtain ⟨c3, c4, hc61, h⟩ := k_b2_e h
      refine g_callMV_V (As := []) (rest := []) hC (mX5_save l dC dI cyI cyC cyO ob a1 a2 a3 a4 a5 a6 a7 a8 x2 v_z v_saved v_savedMany v_spare v_buffer v_typed v_marksBlown v_rests v_begins v_orders v_orderMany v_spot v_wrong v_isShort v_before v_hash hc61) q763 q764 q18 q75 q765 0 hdX5_save ⟨Nat.le_of_ble_eq_true rfl, Nat.le_of_ble_eq_true rfl⟩ ⟨Nat.le_of_ble_eq_true rfl, Nat.le_of_ble_eq_true rfl⟩ rfl rfl hl.1 (Nat.le_of_ble_eq_true rfl) hP hK hD (va_recv hK hP (ci := 4) (q0 := 0) rfl rfl) hS dX5_blow_61 (fun H locs hPn hk hS => ?_)
      have hP : va_P (dC, dI) vwCl (wX5 cyI cyC ob a1 a2 a3 a4 a5 a6 a7 a8 x2 v_z c3 c4 v_spare v_buffer v_typed v_marksBlown v_rests v_begins v_orders v_orderMany v_spot v_wrong v_isShort v_before v_hash) H := hPn
      have hD : va_D (k_A (wX5 cyI cyC ob a1 a2 a3 a4 a5 a6 a7 a8 v_thrown v_z v_saved v_savedMany v_spare v_buffer v_typed v_marksBlown v_rests v_begins v_orders v_orderMany v_spot v_wrong v_isShort v_before v_hash)) (wX5 cyI cyC ob a1 a2 a3 a4 a5 a6 a7 a8 x2 v_z c3 c4 v_spare v_buffer v_typed v_marksBlown v_rests v_begins v_orders v_orderMany v_spot v_wrong v_isShort v_before v_hash) := k_Dm hD rfl
      refine lv_aload_n hx hb dX5_blow_64 rfl (lv_at hl 0 rfl) ?_
      refine lv_iload_n hx hb dX5_blow_65 rfl (lv_at hl 1 rfl) ?_
      refine lv_iload_n hx hb dX5_blow_66 rfl (lv_at hl 2 rfl) ?_
      refine lv_iload_n hx hb dX5_blow_67 rfl (lv_at hl 3 rfl) ?_
      obtain ⟨c5, hc68, h⟩ := k_b1_e h
      refine g_callMV_V (As := [.int p1, .int p2, .int p3]) (rest := []) hC (mX5_blowOne l dC dI cyI cyC cyO ob a1 a2 a3 a4 a5 a6 a7 a8 x2 v_z c3 c4 v_spare v_buffer v_typed v_marksBlown v_rests v_begins v_orders v_orderMany v_spot v_wrong v_isShort v_before v_hash p1 p2 p3 hc68) q766 q767 q19 q75 q768 3 hdX5_blowOne ⟨Nat.le_of_ble_eq_true rfl, Nat.le_of_ble_eq_true rfl⟩ ⟨Nat.le_of_ble_eq_true rfl, Nat.le_of_ble_eq_true rfl⟩ rfl rfl hl.1 (Nat.le_of_ble_eq_true rfl) hP hK hD (va_recv hK hP (ci := 4) (q0 := 0) rfl rfl) hS dX5_blow_68 (fun H locs hPn hk hS => ?_)
      have hP : va_P (dC, dI) vwCl (wX5 cyI cyC ob a1 a2 a3 a4 a5 a6 a7 a8 x2 c5 c3 c4 v_spare v_buffer v_typed v_marksBlown v_rests v_begins v_orders v_orderMany v_spot v_wrong v_isShort v_before v_hash) H := hPn
      have hD : va_D (k_A (wX5 cyI cyC ob a1 a2 a3 a4 a5 a6 a7 a8 v_thrown v_z v_saved v_savedMany v_spare v_buffer v_typed v_marksBlown v_rests v_begins v_orders v_orderMany v_spot v_wrong v_isShort v_before v_hash)) (wX5 cyI cyC ob a1 a2 a3 a4 a5 a6 a7 a8 x2 c5 c3 c4 v_spare v_buffer v_typed v_marksBlown v_rests v_begins v_orders v_orderMany v_spot v_wrong v_isShort v_before v_hash) := k_Dm hD rfl
      refine lv_aload_n hx hb dX5_blow_71 rfl (lv_at hl 0 rfl) ?_
      refine lv_iload_n hx hb dX5_blow_72 rfl (lv_at hl 1 rfl) ?_
      refine lv_iload_n hx hb dX5_blow_73 rfl (lv_at hl 2 rfl) ?_
      obtain ⟨x6, hc74, h⟩ := k_b1_e h
      refine g_callRI_V (As := [.int p1, .int p2]) (rest := []) hC (mX5_strength l dC dI cyI cyC cyO ob a1 a2 a3 a4 a5 a6 a7 a8 x2 c5 c3 c4 v_spare v_buffer v_typed v_marksBlown v_rests v_begins v_orders v_orderMany v_spot v_wrong v_isShort v_before v_hash p1 p2 hc74) q760 q761 q17 q75 q762 2 hdX5_strength ⟨Nat.le_of_ble_eq_true rfl, Nat.le_of_ble_eq_true rfl⟩ ⟨Nat.le_of_ble_eq_true rfl, Nat.le_of_ble_eq_true rfl⟩ rfl rfl hl.1 (Nat.le_of_ble_eq_true rfl) hP hK (va_recv hK hP (ci := 4) (q0 := 0) rfl rfl) hS dX5_blow_74 (fun H locs hk hS => ?_)
      have hP := k_kept hP hk
      obtain ⟨e0, e1, e2, e3, e4⟩ := k_t5 h
      exact g_retMI hx hb hr hlk hS e0 (by rw [← e1, ← e2, ← e3, ← e4]; exact hP) dX5_blow_77
    · refine lv_iconst (v := 0) hx hb dX5_blow_58 (by decide) ?_
      obtain ⟨e0, e1, e2, e3, e4⟩ := k_t5 h
      exact g_retMI hx hb hr hlk hS e0 (by rw [← e1, ← e2, ← e3, ← e4]; exact hP) dX5_blow_59
  refine g_if_eq (tgt := 18) hx hb dX5_blow_5 (by decide) h (fun h => ?_) (fun h => ?_)
  · refine lv_iconst (v := 1) hx hb dX5_blow_18 (by decide) ?_
    refine lv_goto (tgt := 48) hx hb dX5_blow_19 (by decide) ?_
    exact J48 1 _ _ _ h hP hS (lv_sub hl [0, 1, 2, 3] rfl)
  · refine lv_iload_n hx hb dX5_blow_8 rfl (lv_at hl 2 rfl) ?_
    refine lv_iconst (v := 0) hx hb dX5_blow_9 (by decide) ?_
    refine lv_bipush (v := 15) hx hb dX5_blow_10 (by decide) ?_
    obtain ⟨x7, hc12, h⟩ := k_b1_e h
    refine g_callRI_S (As := [.int p2, .int 0, .int 15]) (rest := [.ref ob]) hC (mX5_in l dC dI cyI cyC cyO p2 0 15 hc12) q748 q749 q75 q750 3 hdX5_in ⟨Nat.le_of_ble_eq_true rfl, Nat.le_of_ble_eq_true rfl⟩ ⟨Nat.le_of_ble_eq_true rfl, Nat.le_of_ble_eq_true rfl⟩ rfl rfl hl.1 (Nat.le_of_ble_eq_true rfl) va_P_nil hK hS dX5_blow_12 (fun H locs hk hS => ?_)
    have hP := k_kept hP hk
    refine g_if_ne (tgt := 22) hx hb dX5_blow_15 (by decide) h (fun h => ?_) (fun h => ?_)
    · refine lv_iload_n hx hb dX5_blow_22 rfl (lv_at hl 3 rfl) ?_
      refine lv_iconst (v := 1) hx hb dX5_blow_23 (by decide) ?_
      refine lv_iconst (v := 3) hx hb dX5_blow_24 (by decide) ?_
      obtain ⟨x8, hc25, h⟩ := k_b1_e h
      refine g_callRI_S (As := [.int p3, .int 1, .int 3]) (rest := [.ref ob]) hC (mX5_in l dC dI cyI cyC cyO p3 1 3 hc25) q748 q749 q75 q750 3 hdX5_in ⟨Nat.le_of_ble_eq_true rfl, Nat.le_of_ble_eq_true rfl⟩ ⟨Nat.le_of_ble_eq_true rfl, Nat.le_of_ble_eq_true rfl⟩ rfl rfl hl.1 (Nat.le_of_ble_eq_true rfl) va_P_nil hK hS dX5_blow_25 (fun H locs hk hS => ?_)
      have hP := k_kept hP hk
      refine g_if_ne (tgt := 35) hx hb dX5_blow_28 (by decide) h (fun h => ?_) (fun h => ?_)
      · refine lv_aload_n hx hb dX5_blow_35 rfl (lv_at hl 0 rfl) ?_
        refine lv_iload_n hx hb dX5_blow_36 rfl (lv_at hl 1 rfl) ?_
        obtain ⟨x9, hc37, h⟩ := k_b1_e h
        refine g_callRI_V (As := [.int p1]) (rest := [.ref ob]) hC (mX5_isLocked l dC dI cyI cyC cyO ob a1 a2 a3 a4 a5 a6 a7 a8 v_thrown v_z v_saved v_savedMany v_spare v_buffer v_typed v_marksBlown v_rests v_begins v_orders v_orderMany v_spot v_wrong v_isShort v_before v_hash p1 hc37) q751 q752 q14 q75 q753 1 hdX5_isLocked ⟨Nat.le_of_ble_eq_true rfl, Nat.le_of_ble_eq_true rfl⟩ ⟨Nat.le_of_ble_eq_true rfl, Nat.le_of_ble_eq_true rfl⟩ rfl rfl hl.1 (Nat.le_of_ble_eq_true rfl) hP hK (va_recv hK hP (ci := 4) (q0 := 0) rfl rfl) hS dX5_blow_37 (fun H locs hk hS => ?_)
        have hP := k_kept hP hk
        refine g_if_eq (tgt := 47) hx hb dX5_blow_40 (by decide) h (fun h => ?_) (fun h => ?_)
        · refine lv_iconst (v := 0) hx hb dX5_blow_47 (by decide) ?_
          exact J48 0 _ _ _ h hP hS (lv_sub hl [0, 1, 2, 3] rfl)
        · refine lv_iconst (v := 3) hx hb dX5_blow_43 (by decide) ?_
          refine lv_goto (tgt := 48) hx hb dX5_blow_44 (by decide) ?_
          exact J48 3 _ _ _ h hP hS (lv_sub hl [0, 1, 2, 3] rfl)
      · refine lv_iconst (v := 2) hx hb dX5_blow_31 (by decide) ?_
        refine lv_goto (tgt := 48) hx hb dX5_blow_32 (by decide) ?_
        exact J48 2 _ _ _ h hP hS (lv_sub hl [0, 1, 2, 3] rfl)
    · refine lv_iconst (v := 1) hx hb dX5_blow_18 (by decide) ?_
      refine lv_goto (tgt := 48) hx hb dX5_blow_19 (by decide) ?_
      exact J48 1 _ _ _ h hP hS (lv_sub hl [0, 1, 2, 3] rfl)
def fX5_nextRow_s4 (K32 : Int32 → Option (Int32)) (v_z : Nat → Int32) (rec4 : Int32 → Int32 → Option (Int32)) (x3 : Int32) (x4 : Int32) : Option (Int32) :=
  k_if (20 ≤ x4)
  (
    K32 x3)
  (
    k_b1 (fX5_maskNow v_z x4) fun (x5 : Int32) =>
    k_j1
    (fun (x6 : Int32) =>
      k_let (x4 + 1) fun (x7 : Int32) =>
      rec4 x6 x7)
    (fun K25 =>
    k_if (x5 = 0)
    (
      K25 x3)
    (
      k_let (x4 + 1) fun (x8 : Int32) =>
      K25 x8)))
def fX5_nextRow (v_z : Nat → Int32) : Option (Int32) :=
  k_j1
  (fun (x1 : Int32) =>
    k_if (x1 = 20)
    (
      some ((-1)))
    (
      k_b1 (fX5_isLocked v_z x1) fun (x2 : Int32) =>
      k_if (x2 = 0)
      (
        some x1)
      (
        some ((-1)))))
  (fun K32 =>
  k_l2 (fX5_nextRow_s4 K32 v_z) 5000 0 0)
theorem hdX5_nextRow : yX5_nextRow.cls = RX5 ∧ yX5_nextRow.cls ≠ "java/lang/invoke/MethodHandle" ∧ yX5_nextRow.cls ≠ "java/lang/invoke/VarHandle" ∧ (parseMethodDescriptor yX5_nextRow.desc).map (fun d => d.parameters.length) = some 0 := by decide +kernel
set_option maxRecDepth 100000 in
set_option maxHeartbeats 4000000 in
theorem mX5_nextRow (l : Launch) (dC : Nat → ClassId) (dI : Nat → Nat → Nat) (cyI cyC cyO : ClassId) (ob a1 a2 a3 a4 a5 a6 a7 a8 : Nat) (v_thrown : Int32) (v_z : Nat → Int32) (v_saved : Nat → Int32) (v_savedMany : Int32) (v_spare : Nat → Int32) (v_buffer : Nat → Int32) (v_typed : Int32) (v_marksBlown : Int32) (v_rests : Nat → Int32) (v_begins : Nat → Int32) (v_orders : Nat → Int32) (v_orderMany : Int32) (v_spot : Int32) (v_wrong : Int32) (v_isShort : Int32) (v_before : Nat → Int32) (v_hash : Int64)  {r : Int32} (hf : fX5_nextRow v_z = some r) : MetRI l yX5_nextRow cX5_nextRow 3 (some .int) 6 138 [.ref ob] (dC, dI) (tyS cyI cyC cyO) (wX5 cyI cyC ob a1 a2 a3 a4 a5 a6 a7 a8 v_thrown v_z v_saved v_savedMany v_spare v_buffer v_typed v_marksBlown v_rests v_begins v_orders v_orderMany v_spot v_wrong v_isShort v_before v_hash) r := by
  refine metRI_of (by decide) (Nat.le_of_ble_eq_true rfl) ?_
  intro p e s m below meth c ls hC hr hlk hP hK hl
  have hC : CallFix p m c cX5_nextRow 3 s [.ref ob].toArray wA RX5 := hC
  obtain ⟨hx, hb, hml, hown, hts⟩ := id hC
  have hS : va_S kF s.heap s.heap [] := va_S.rf
  have hl : lv_has ls 3 [(0, .ref ob)] := hl
  have h := hf
  unfold fX5_nextRow at h
  obtain ⟨H, hH⟩ : ∃ H, H = s.heap := ⟨_, rfl⟩
  obtain ⟨locs, hlo⟩ : ∃ locs : List Loc, locs = [] := ⟨_, rfl⟩
  rw [← hH] at hP
  rw [← hlo] at hS
  have hS : va_S kF s.heap H locs := by rw [hH]; exact hS
  show W p l e (k_rm 6 138) s m [.ref ob].toArray below meth c s.heap [] 0 0 _ _
  rw [← hlo, ← hH]
  refine lv_iconst (v := 0) hx hb dX5_nextRow_0 (by decide) ?_
  refine lv_istore_n (lv' := [(1, .int 0), (0, .ref ob)]) hx hb dX5_nextRow_1 rfl hl (by decide) rfl (fun ls hl => ?_)
  refine lv_iconst (v := 0) hx hb dX5_nextRow_2 (by decide) ?_
  refine lv_istore_n (lv' := [(2, .int 0), (1, .int 0), (0, .ref ob)]) hx hb dX5_nextRow_3 rfl hl (by decide) rfl (fun ls hl => ?_)
  obtain ⟨K32, hK32, h⟩ := k_j1_e h
  have J32 : ∀ (x1 : Int32) (H : Heap) (locs : List Loc) (ls : Array Slot), K32 x1 = some r → va_P (dC, dI) vwCl (wX5 cyI cyC ob a1 a2 a3 a4 a5 a6 a7 a8 v_thrown v_z v_saved v_savedMany v_spare v_buffer v_typed v_marksBlown v_rests v_begins v_orders v_orderMany v_spot v_wrong v_isShort v_before v_hash) H → va_S kF s.heap H locs → lv_has ls 3 [(0, .ref ob), (1, .int x1)] → W p l e (k_rm 6 138) s m [.ref ob].toArray below meth c H locs 0 0 (MQ below (qRI r) [.ref ob].toArray s 0 0 kF) (F0 m 32 ls []) := by
    intro x1 H locs ls h hP hS hl
    have h := k_a1 hK32 h
    refine lv_iload_n hx hb dX5_nextRow_32 rfl (lv_at hl 1 rfl) ?_
    refine lv_bipush (v := 20) hx hb dX5_nextRow_33 (by decide) ?_
    refine g_icmp_eq (tgt := 46) hx hb dX5_nextRow_35 (by decide) h (fun h => ?_) (fun h => ?_)
    · refine lv_iconst (v := (-1)) hx hb dX5_nextRow_46 (by decide) ?_
      refine lv_goto (tgt := 51) hx hb dX5_nextRow_47 (by decide) ?_
      exact g_retRI hx hb hr hlk hS h dX5_nextRow_51
    · refine lv_aload_n hx hb dX5_nextRow_38 rfl (lv_at hl 0 rfl) ?_
      refine lv_iload_n hx hb dX5_nextRow_39 rfl (lv_at hl 1 rfl) ?_
      obtain ⟨x2, hc40, h⟩ := k_b1_e h
      refine g_callRI_V (As := [.int x1]) (rest := []) hC (mX5_isLocked l dC dI cyI cyC cyO ob a1 a2 a3 a4 a5 a6 a7 a8 v_thrown v_z v_saved v_savedMany v_spare v_buffer v_typed v_marksBlown v_rests v_begins v_orders v_orderMany v_spot v_wrong v_isShort v_before v_hash x1 hc40) q751 q752 q14 q75 q753 1 hdX5_isLocked ⟨Nat.le_of_ble_eq_true rfl, Nat.le_of_ble_eq_true rfl⟩ ⟨Nat.le_of_ble_eq_true rfl, Nat.le_of_ble_eq_true rfl⟩ rfl rfl hl.1 (Nat.le_of_ble_eq_true rfl) hP hK (va_recv hK hP (ci := 4) (q0 := 0) rfl rfl) hS dX5_nextRow_40 (fun H locs hk hS => ?_)
      have hP := k_kept hP hk
      refine g_if_eq (tgt := 50) hx hb dX5_nextRow_43 (by decide) h (fun h => ?_) (fun h => ?_)
      · refine lv_iload_n hx hb dX5_nextRow_50 rfl (lv_at hl 1 rfl) ?_
        exact g_retRI hx hb hr hlk hS h dX5_nextRow_51
      · refine lv_iconst (v := (-1)) hx hb dX5_nextRow_46 (by decide) ?_
        refine lv_goto (tgt := 51) hx hb dX5_nextRow_47 (by decide) ?_
        exact g_retRI hx hb hr hlk hS h dX5_nextRow_51
  obtain ⟨S4, hS4⟩ : ∃ z, z = (fX5_nextRow_s4 K32 v_z) := ⟨_, rfl⟩
  rw [← hS4] at h
  have L4 : ∀ (n : Nat) (x3 : Int32) (x4 : Int32) (H : Heap) (locs : List Loc) (ls : Array Slot), k_l2 S4 n x3 x4 = some r → va_P (dC, dI) vwCl (wX5 cyI cyC ob a1 a2 a3 a4 a5 a6 a7 a8 v_thrown v_z v_saved v_savedMany v_spare v_buffer v_typed v_marksBlown v_rests v_begins v_orders v_orderMany v_spot v_wrong v_isShort v_before v_hash) H → va_S kF s.heap H locs → lv_has ls 3 [(0, .ref ob), (1, .int x3), (2, .int x4)] → W p l e (k_rm 6 138) s m [.ref ob].toArray below meth c H locs 0 0 (MQ below (qRI r) [.ref ob].toArray s 0 0 kF) (F0 m 4 ls []) := by
    intro n
    induction n with
    | zero =>
      intro x3 x4 H locs ls h
      exact (k_l2_0 h).elim
    | succ n ih4 =>
      intro x3 x4 H locs ls h hP hS hl
      have h := k_l2_s h
      have h := k_a3 hS4 h
      unfold fX5_nextRow_s4 at h
      refine lv_iload_n hx hb dX5_nextRow_4 rfl (lv_at hl 2 rfl) ?_
      refine lv_bipush (v := 20) hx hb dX5_nextRow_5 (by decide) ?_
      refine g_icmp_ge (tgt := 32) hx hb dX5_nextRow_7 (by decide) h (fun h => ?_) (fun h => ?_)
      · exact J32 x3 _ _ _ h hP hS (lv_sub hl [0, 1] rfl)
      · refine lv_aload_n hx hb dX5_nextRow_10 rfl (lv_at hl 0 rfl) ?_
        refine lv_iload_n hx hb dX5_nextRow_11 rfl (lv_at hl 2 rfl) ?_
        obtain ⟨x5, hc12, h⟩ := k_b1_e h
        refine g_callRI_V (As := [.int x4]) (rest := []) hC (mX5_maskNow l dC dI cyI cyC cyO ob a1 a2 a3 a4 a5 a6 a7 a8 v_thrown v_z v_saved v_savedMany v_spare v_buffer v_typed v_marksBlown v_rests v_begins v_orders v_orderMany v_spot v_wrong v_isShort v_before v_hash x4 hc12) q782 q783 q22 q75 q784 1 hdX5_maskNow ⟨Nat.le_of_ble_eq_true rfl, Nat.le_of_ble_eq_true rfl⟩ ⟨Nat.le_of_ble_eq_true rfl, Nat.le_of_ble_eq_true rfl⟩ rfl rfl hl.1 (Nat.le_of_ble_eq_true rfl) hP hK (va_recv hK hP (ci := 4) (q0 := 0) rfl rfl) hS dX5_nextRow_12 (fun H locs hk hS => ?_)
        have hP := k_kept hP hk
        obtain ⟨K25, hK25, h⟩ := k_j1_e h
        have J25 : ∀ (x6 : Int32) (H : Heap) (locs : List Loc) (ls : Array Slot), K25 x6 = some r → va_P (dC, dI) vwCl (wX5 cyI cyC ob a1 a2 a3 a4 a5 a6 a7 a8 v_thrown v_z v_saved v_savedMany v_spare v_buffer v_typed v_marksBlown v_rests v_begins v_orders v_orderMany v_spot v_wrong v_isShort v_before v_hash) H → va_S kF s.heap H locs → lv_has ls 3 [(0, .ref ob), (2, .int x4)] → W p l e (k_rm 6 138) s m [.ref ob].toArray below meth c H locs 0 0 (MQ below (qRI r) [.ref ob].toArray s 0 0 kF) (F0 m 25 ls [.int x6]) := by
          intro x6 H locs ls h hP hS hl
          have h := k_a1 hK25 h
          refine lv_istore_n (lv' := [(1, .int x6), (0, .ref ob), (2, .int x4)]) hx hb dX5_nextRow_25 rfl hl (by decide) rfl (fun ls hl => ?_)
          refine g_iinc (dv := 1) hx hb dX5_nextRow_26 hl (j := 2) rfl (by decide) (by decide) h (fun x7 ls h hl => ?_)
          have hl : lv_has ls 3 [(2, .int x7), (1, .int x6), (0, .ref ob)] := hl
          refine lv_goto (tgt := 4) hx hb dX5_nextRow_29 (by decide) ?_
          exact ih4 x6 x7 _ _ _ h hP hS (lv_sub hl [2, 1, 0] rfl)
        refine g_if_ne (tgt := 22) hx hb dX5_nextRow_15 (by decide) h (fun h => ?_) (fun h => ?_)
        · refine lv_iload_n hx hb dX5_nextRow_22 rfl (lv_at hl 2 rfl) ?_
          refine lv_iconst (v := 1) hx hb dX5_nextRow_23 (by decide) ?_
          refine g_iadd hx hb dX5_nextRow_24 h (fun x8 h => ?_)
          exact J25 x8 _ _ _ h hP hS (lv_sub hl [0, 2] rfl)
        · refine lv_iload_n hx hb dX5_nextRow_18 rfl (lv_at hl 1 rfl) ?_
          refine lv_goto (tgt := 25) hx hb dX5_nextRow_19 (by decide) ?_
          exact J25 x3 _ _ _ h hP hS (lv_sub hl [0, 2] rfl)
  exact L4 5000 0 0 _ _ _ h hP hS (lv_sub hl [2, 1, 0] rfl)
def fX5_markAll_s76 (K109 : (Nat → Int32) → Option (Int32 × (Nat → Int32))) (x1 : Int32) (p3 : Int32) (rec76 : Int32 → (Nat → Int32) → Option (Int32 × (Nat → Int32))) (x4 : Int32) (c5 : Nat → Int32) : Option (Int32 × (Nat → Int32)) :=
  k_if (20 ≤ x4)
  (
    K109 c5)
  (
    k_let (x1 >>> (x4 &&& 31)) fun (x6 : Int32) =>
    k_let (x6 &&& 1) fun (x7 : Int32) =>
    k_j1
    (fun (c8 : Nat → Int32) =>
      k_let (x4 + 1) fun (x9 : Int32) =>
      rec76 x9 c8)
    (fun K103 =>
    k_if (x7 = 1)
    (
      k_b1 (fX5_blowOne c5 x4 14 p3) fun (c10 : Nat → Int32) =>
      K103 c10)
    (
      K103 c5)))
def fX5_markAll_s6 (K73 : Int32 → Option (Int32 × (Nat → Int32))) (v_z : Nat → Int32) (p2 : Int32) (p1 : Int32) (rec6 : Int32 → Int32 → Option (Int32 × (Nat → Int32))) (x11 : Int32) (x12 : Int32) : Option (Int32 × (Nat → Int32)) :=
  k_if (20 ≤ x12)
  (
    K73 x11)
  (
    k_b1 (fX5_maskNow v_z x12) fun (x13 : Int32) =>
    k_j1
    (fun (x14 : Int32) =>
      k_let (x11 ||| x14) fun (x15 : Int32) =>
      k_let (x12 + 1) fun (x16 : Int32) =>
      rec6 x15 x16)
    (fun K64 =>
    k_if (x12 = p2)
    (
      K64 0)
    (
      k_b1 (fX5_kindOf x13) fun (x17 : Int32) =>
      k_if (x17 = 4)
      (
        k_b1 (fX5_keyIn x13) fun (x18 : Int32) =>
        k_if (x18 = p1)
        (
          k_b1 (fX5_isLocked v_z x12) fun (x19 : Int32) =>
          k_if (x19 = 0)
          (
            k_let ((1 : Int32) <<< (x12 &&& 31)) fun (x20 : Int32) =>
            K64 x20)
          (
            K64 0))
        (
          K64 0))
      (
        K64 0))))
def fX5_markAll (v_z : Nat → Int32) (p1 : Int32) (p2 : Int32) (p3 : Int32) : Option (Int32 × (Nat → Int32)) :=
  k_j1
  (fun (x1 : Int32) =>
    k_j1
    (fun (c2 : Nat → Int32) =>
      k_b1 (fX5_bits x1) fun (x3 : Int32) =>
      some (x3, c2))
    (fun K109 =>
    k_l2 (fX5_markAll_s76 K109 x1 p3) 5000 0 v_z))
  (fun K73 =>
  k_l2 (fX5_markAll_s6 K73 v_z p2 p1) 5000 0 0)
theorem hdX5_markAll : yX5_markAll.cls = RX5 ∧ yX5_markAll.cls ≠ "java/lang/invoke/MethodHandle" ∧ yX5_markAll.cls ≠ "java/lang/invoke/VarHandle" ∧ (parseMethodDescriptor yX5_markAll.desc).map (fun d => d.parameters.length) = some 3 := by decide +kernel
set_option maxRecDepth 100000 in
set_option maxHeartbeats 4000000 in
theorem mX5_markAll (l : Launch) (dC : Nat → ClassId) (dI : Nat → Nat → Nat) (cyI cyC cyO : ClassId) (ob a1 a2 a3 a4 a5 a6 a7 a8 : Nat) (v_thrown : Int32) (v_z : Nat → Int32) (v_saved : Nat → Int32) (v_savedMany : Int32) (v_spare : Nat → Int32) (v_buffer : Nat → Int32) (v_typed : Int32) (v_marksBlown : Int32) (v_rests : Nat → Int32) (v_begins : Nat → Int32) (v_orders : Nat → Int32) (v_orderMany : Int32) (v_spot : Int32) (v_wrong : Int32) (v_isShort : Int32) (v_before : Nat → Int32) (v_hash : Int64) (p1 : Int32) (p2 : Int32) (p3 : Int32) {r : Int32} {r_z : Nat → Int32} (hf : fX5_markAll v_z p1 p2 p3 = some (r, r_z)) : MetMI l yX5_markAll cX5_markAll 7 (some .int) 6 138 [.ref ob, .int p1, .int p2, .int p3] (dC, dI) (tyS cyI cyC cyO) (wX5 cyI cyC ob a1 a2 a3 a4 a5 a6 a7 a8 v_thrown v_z v_saved v_savedMany v_spare v_buffer v_typed v_marksBlown v_rests v_begins v_orders v_orderMany v_spot v_wrong v_isShort v_before v_hash) (wX5 cyI cyC ob a1 a2 a3 a4 a5 a6 a7 a8 v_thrown r_z v_saved v_savedMany v_spare v_buffer v_typed v_marksBlown v_rests v_begins v_orders v_orderMany v_spot v_wrong v_isShort v_before v_hash) r := by
  refine metMI_of (by decide) (Nat.le_of_ble_eq_true rfl) ?_
  intro p e s m below meth c ls hC hr hlk hP hK hD hl
  have hC : CallFix p m c cX5_markAll 7 s [.ref ob, .int p1, .int p2, .int p3].toArray wA RX5 := hC
  obtain ⟨hx, hb, hml, hown, hts⟩ := id hC
  have hS : va_S (k_A (wX5 cyI cyC ob a1 a2 a3 a4 a5 a6 a7 a8 v_thrown v_z v_saved v_savedMany v_spare v_buffer v_typed v_marksBlown v_rests v_begins v_orders v_orderMany v_spot v_wrong v_isShort v_before v_hash)) s.heap s.heap [] := va_S.rf
  have hl : lv_has ls 7 [(0, .ref ob), (1, .int p1), (2, .int p2), (3, .int p3)] := hl
  have h := hf
  unfold fX5_markAll at h
  obtain ⟨H, hH⟩ : ∃ H, H = s.heap := ⟨_, rfl⟩
  obtain ⟨locs, hlo⟩ : ∃ locs : List Loc, locs = [] := ⟨_, rfl⟩
  rw [← hH] at hP
  rw [← hlo] at hS
  have hS : va_S (k_A (wX5 cyI cyC ob a1 a2 a3 a4 a5 a6 a7 a8 v_thrown v_z v_saved v_savedMany v_spare v_buffer v_typed v_marksBlown v_rests v_begins v_orders v_orderMany v_spot v_wrong v_isShort v_before v_hash)) s.heap H locs := by rw [hH]; exact hS
  show W p l e (k_rm 6 138) s m [.ref ob, .int p1, .int p2, .int p3].toArray below meth c s.heap [] 0 0 _ _
  rw [← hlo, ← hH]
  refine lv_iconst (v := 0) hx hb dX5_markAll_0 (by decide) ?_
  refine lv_istore (lv' := [(4, .int 0), (0, .ref ob), (1, .int p1), (2, .int p2), (3, .int p3)]) hx hb dX5_markAll_1 hl (by decide) rfl (fun ls hl => ?_)
  refine lv_iconst (v := 0) hx hb dX5_markAll_3 (by decide) ?_
  refine lv_istore (lv' := [(5, .int 0), (4, .int 0), (0, .ref ob), (1, .int p1), (2, .int p2), (3, .int p3)]) hx hb dX5_markAll_4 hl (by decide) rfl (fun ls hl => ?_)
  obtain ⟨K73, hK73, h⟩ := k_j1_e h
  have J73 : ∀ (x1 : Int32) (H : Heap) (locs : List Loc) (ls : Array Slot), K73 x1 = some (r, r_z) → va_P (dC, dI) vwCl (wX5 cyI cyC ob a1 a2 a3 a4 a5 a6 a7 a8 v_thrown v_z v_saved v_savedMany v_spare v_buffer v_typed v_marksBlown v_rests v_begins v_orders v_orderMany v_spot v_wrong v_isShort v_before v_hash) H → va_S (k_A (wX5 cyI cyC ob a1 a2 a3 a4 a5 a6 a7 a8 v_thrown v_z v_saved v_savedMany v_spare v_buffer v_typed v_marksBlown v_rests v_begins v_orders v_orderMany v_spot v_wrong v_isShort v_before v_hash)) s.heap H locs → lv_has ls 7 [(0, .ref ob), (3, .int p3), (4, .int x1)] → W p l e (k_rm 6 138) s m [.ref ob, .int p1, .int p2, .int p3].toArray below meth c H locs 0 0 (MQ below (qMI r (dC, dI) (wX5 cyI cyC ob a1 a2 a3 a4 a5 a6 a7 a8 v_thrown v_z v_saved v_savedMany v_spare v_buffer v_typed v_marksBlown v_rests v_begins v_orders v_orderMany v_spot v_wrong v_isShort v_before v_hash) (wX5 cyI cyC ob a1 a2 a3 a4 a5 a6 a7 a8 v_thrown r_z v_saved v_savedMany v_spare v_buffer v_typed v_marksBlown v_rests v_begins v_orders v_orderMany v_spot v_wrong v_isShort v_before v_hash)) [.ref ob, .int p1, .int p2, .int p3].toArray s 0 0 (k_A (wX5 cyI cyC ob a1 a2 a3 a4 a5 a6 a7 a8 v_thrown v_z v_saved v_savedMany v_spare v_buffer v_typed v_marksBlown v_rests v_begins v_orders v_orderMany v_spot v_wrong v_isShort v_before v_hash))) (F0 m 73 ls []) := by
    intro x1 H locs ls h hP hS hl
    have h := k_a1 hK73 h
    refine lv_iconst (v := 0) hx hb dX5_markAll_73 (by decide) ?_
    refine lv_istore (lv' := [(5, .int 0), (0, .ref ob), (3, .int p3), (4, .int x1)]) hx hb dX5_markAll_74 hl (by decide) rfl (fun ls hl => ?_)
    obtain ⟨K109, hK109, h⟩ := k_j1_e h
    have J109 : ∀ (c2 : Nat → Int32) (H : Heap) (locs : List Loc) (ls : Array Slot), K109 c2 = some (r, r_z) → va_P (dC, dI) vwCl (wX5 cyI cyC ob a1 a2 a3 a4 a5 a6 a7 a8 v_thrown c2 v_saved v_savedMany v_spare v_buffer v_typed v_marksBlown v_rests v_begins v_orders v_orderMany v_spot v_wrong v_isShort v_before v_hash) H → va_S (k_A (wX5 cyI cyC ob a1 a2 a3 a4 a5 a6 a7 a8 v_thrown v_z v_saved v_savedMany v_spare v_buffer v_typed v_marksBlown v_rests v_begins v_orders v_orderMany v_spot v_wrong v_isShort v_before v_hash)) s.heap H locs → lv_has ls 7 [(4, .int x1)] → W p l e (k_rm 6 138) s m [.ref ob, .int p1, .int p2, .int p3].toArray below meth c H locs 0 0 (MQ below (qMI r (dC, dI) (wX5 cyI cyC ob a1 a2 a3 a4 a5 a6 a7 a8 v_thrown v_z v_saved v_savedMany v_spare v_buffer v_typed v_marksBlown v_rests v_begins v_orders v_orderMany v_spot v_wrong v_isShort v_before v_hash) (wX5 cyI cyC ob a1 a2 a3 a4 a5 a6 a7 a8 v_thrown r_z v_saved v_savedMany v_spare v_buffer v_typed v_marksBlown v_rests v_begins v_orders v_orderMany v_spot v_wrong v_isShort v_before v_hash)) [.ref ob, .int p1, .int p2, .int p3].toArray s 0 0 (k_A (wX5 cyI cyC ob a1 a2 a3 a4 a5 a6 a7 a8 v_thrown v_z v_saved v_savedMany v_spare v_buffer v_typed v_marksBlown v_rests v_begins v_orders v_orderMany v_spot v_wrong v_isShort v_before v_hash))) (F0 m 109 ls []) := by
      intro c2 H locs ls h hP hS hl
      have hD : va_D (k_A (wX5 cyI cyC ob a1 a2 a3 a4 a5 a6 a7 a8 v_thrown v_z v_saved v_savedMany v_spare v_buffer v_typed v_marksBlown v_rests v_begins v_orders v_orderMany v_spot v_wrong v_isShort v_before v_hash)) (wX5 cyI cyC ob a1 a2 a3 a4 a5 a6 a7 a8 v_thrown c2 v_saved v_savedMany v_spare v_buffer v_typed v_marksBlown v_rests v_begins v_orders v_orderMany v_spot v_wrong v_isShort v_before v_hash) := k_Dm hD rfl
      have h := k_a1 hK109 h
      refine lv_iload hx hb dX5_markAll_109 (lv_at hl 0 rfl) ?_
      obtain ⟨x3, hc111, h⟩ := k_b1_e h
      refine g_callRI_S (As := [.int x1]) (rest := []) hC (mX5_bits l dC dI cyI cyC cyO x1 hc111) q800 q801 q75 q802 1 hdX5_bits ⟨Nat.le_of_ble_eq_true rfl, Nat.le_of_ble_eq_true rfl⟩ ⟨Nat.le_of_ble_eq_true rfl, Nat.le_of_ble_eq_true rfl⟩ rfl rfl hl.1 (Nat.le_of_ble_eq_true rfl) va_P_nil hK hS dX5_markAll_111 (fun H locs hk hS => ?_)
      have hP := k_kept hP hk
      obtain ⟨e0, e1⟩ := k_t2 h
      exact g_retMI hx hb hr hlk hS e0 (by rw [← e1]; exact hP) dX5_markAll_114
    obtain ⟨S76, hS76⟩ : ∃ z, z = (fX5_markAll_s76 K109 x1 p3) := ⟨_, rfl⟩
    rw [← hS76] at h
    have L76 : ∀ (n : Nat) (x4 : Int32) (c5 : Nat → Int32) (H : Heap) (locs : List Loc) (ls : Array Slot), k_l2 S76 n x4 c5 = some (r, r_z) → va_P (dC, dI) vwCl (wX5 cyI cyC ob a1 a2 a3 a4 a5 a6 a7 a8 v_thrown c5 v_saved v_savedMany v_spare v_buffer v_typed v_marksBlown v_rests v_begins v_orders v_orderMany v_spot v_wrong v_isShort v_before v_hash) H → va_S (k_A (wX5 cyI cyC ob a1 a2 a3 a4 a5 a6 a7 a8 v_thrown v_z v_saved v_savedMany v_spare v_buffer v_typed v_marksBlown v_rests v_begins v_orders v_orderMany v_spot v_wrong v_isShort v_before v_hash)) s.heap H locs → lv_has ls 7 [(0, .ref ob), (3, .int p3), (4, .int x1), (5, .int x4)] → W p l e (k_rm 6 138) s m [.ref ob, .int p1, .int p2, .int p3].toArray below meth c H locs 0 0 (MQ below (qMI r (dC, dI) (wX5 cyI cyC ob a1 a2 a3 a4 a5 a6 a7 a8 v_thrown v_z v_saved v_savedMany v_spare v_buffer v_typed v_marksBlown v_rests v_begins v_orders v_orderMany v_spot v_wrong v_isShort v_before v_hash) (wX5 cyI cyC ob a1 a2 a3 a4 a5 a6 a7 a8 v_thrown r_z v_saved v_savedMany v_spare v_buffer v_typed v_marksBlown v_rests v_begins v_orders v_orderMany v_spot v_wrong v_isShort v_before v_hash)) [.ref ob, .int p1, .int p2, .int p3].toArray s 0 0 (k_A (wX5 cyI cyC ob a1 a2 a3 a4 a5 a6 a7 a8 v_thrown v_z v_saved v_savedMany v_spare v_buffer v_typed v_marksBlown v_rests v_begins v_orders v_orderMany v_spot v_wrong v_isShort v_before v_hash))) (F0 m 76 ls []) := by
      intro n
      induction n with
      | zero =>
        intro x4 c5 H locs ls h
        exact (k_l2_0 h).elim
      | succ n ih76 =>
        intro x4 c5 H locs ls h hP hS hl
        have hD : va_D (k_A (wX5 cyI cyC ob a1 a2 a3 a4 a5 a6 a7 a8 v_thrown v_z v_saved v_savedMany v_spare v_buffer v_typed v_marksBlown v_rests v_begins v_orders v_orderMany v_spot v_wrong v_isShort v_before v_hash)) (wX5 cyI cyC ob a1 a2 a3 a4 a5 a6 a7 a8 v_thrown c5 v_saved v_savedMany v_spare v_buffer v_typed v_marksBlown v_rests v_begins v_orders v_orderMany v_spot v_wrong v_isShort v_before v_hash) := k_Dm hD rfl
        have h := k_l2_s h
        have h := k_a3 hS76 h
        unfold fX5_markAll_s76 at h
        refine lv_iload hx hb dX5_markAll_76 (lv_at hl 3 rfl) ?_
        refine lv_bipush (v := 20) hx hb dX5_markAll_78 (by decide) ?_
        refine g_icmp_ge (tgt := 109) hx hb dX5_markAll_80 (by decide) h (fun h => ?_) (fun h => ?_)
        · exact J109 c5 _ _ _ h hP hS (lv_sub hl [2] rfl)
        · refine lv_iload hx hb dX5_markAll_83 (lv_at hl 2 rfl) ?_
          refine lv_iload hx hb dX5_markAll_85 (lv_at hl 3 rfl) ?_
          refine g_ishr hx hb dX5_markAll_87 h (fun x6 h => ?_)
          refine lv_iconst (v := 1) hx hb dX5_markAll_88 (by decide) ?_
          refine g_iand hx hb dX5_markAll_89 h (fun x7 h => ?_)
          refine lv_iconst (v := 1) hx hb dX5_markAll_90 (by decide) ?_
          obtain ⟨K103, hK103, h⟩ := k_j1_e h
          have J103 : ∀ (c8 : Nat → Int32) (H : Heap) (locs : List Loc) (ls : Array Slot), K103 c8 = some (r, r_z) → va_P (dC, dI) vwCl (wX5 cyI cyC ob a1 a2 a3 a4 a5 a6 a7 a8 v_thrown c8 v_saved v_savedMany v_spare v_buffer v_typed v_marksBlown v_rests v_begins v_orders v_orderMany v_spot v_wrong v_isShort v_before v_hash) H → va_S (k_A (wX5 cyI cyC ob a1 a2 a3 a4 a5 a6 a7 a8 v_thrown v_z v_saved v_savedMany v_spare v_buffer v_typed v_marksBlown v_rests v_begins v_orders v_orderMany v_spot v_wrong v_isShort v_before v_hash)) s.heap H locs → lv_has ls 7 [(0, .ref ob), (3, .int p3), (4, .int x1), (5, .int x4)] → W p l e (k_rm 6 138) s m [.ref ob, .int p1, .int p2, .int p3].toArray below meth c H locs 0 0 (MQ below (qMI r (dC, dI) (wX5 cyI cyC ob a1 a2 a3 a4 a5 a6 a7 a8 v_thrown v_z v_saved v_savedMany v_spare v_buffer v_typed v_marksBlown v_rests v_begins v_orders v_orderMany v_spot v_wrong v_isShort v_before v_hash) (wX5 cyI cyC ob a1 a2 a3 a4 a5 a6 a7 a8 v_thrown r_z v_saved v_savedMany v_spare v_buffer v_typed v_marksBlown v_rests v_begins v_orders v_orderMany v_spot v_wrong v_isShort v_before v_hash)) [.ref ob, .int p1, .int p2, .int p3].toArray s 0 0 (k_A (wX5 cyI cyC ob a1 a2 a3 a4 a5 a6 a7 a8 v_thrown v_z v_saved v_savedMany v_spare v_buffer v_typed v_marksBlown v_rests v_begins v_orders v_orderMany v_spot v_wrong v_isShort v_before v_hash))) (F0 m 103 ls []) := by
            intro c8 H locs ls h hP hS hl
            have hD : va_D (k_A (wX5 cyI cyC ob a1 a2 a3 a4 a5 a6 a7 a8 v_thrown v_z v_saved v_savedMany v_spare v_buffer v_typed v_marksBlown v_rests v_begins v_orders v_orderMany v_spot v_wrong v_isShort v_before v_hash)) (wX5 cyI cyC ob a1 a2 a3 a4 a5 a6 a7 a8 v_thrown c8 v_saved v_savedMany v_spare v_buffer v_typed v_marksBlown v_rests v_begins v_orders v_orderMany v_spot v_wrong v_isShort v_before v_hash) := k_Dm hD rfl
            have h := k_a1 hK103 h
            refine g_iinc (dv := 1) hx hb dX5_markAll_103 hl (j := 3) rfl (by decide) (by decide) h (fun x9 ls h hl => ?_)
            have hl : lv_has ls 7 [(5, .int x9), (0, .ref ob), (3, .int p3), (4, .int x1)] := hl
            refine lv_goto (tgt := 76) hx hb dX5_markAll_106 (by decide) ?_
            exact ih76 x9 c8 _ _ _ h hP hS (lv_sub hl [1, 2, 3, 0] rfl)
          refine g_icmp_ne (tgt := 103) hx hb dX5_markAll_91 (by decide) h (fun h => ?_) (fun h => ?_)
          · exact J103 c5 _ _ _ h hP hS (lv_sub hl [0, 1, 2, 3] rfl)
          · refine lv_aload_n hx hb dX5_markAll_94 rfl (lv_at hl 0 rfl) ?_
            refine lv_iload hx hb dX5_markAll_95 (lv_at hl 3 rfl) ?_
            refine lv_bipush (v := 14) hx hb dX5_markAll_97 (by decide) ?_
            refine lv_iload_n hx hb dX5_markAll_99 rfl (lv_at hl 1 rfl) ?_
            obtain ⟨c10, hc100, h⟩ := k_b1_e h
            refine g_callMV_V (As := [.int x4, .int 14, .int p3]) (rest := []) hC (mX5_blowOne l dC dI cyI cyC cyO ob a1 a2 a3 a4 a5 a6 a7 a8 v_thrown c5 v_saved v_savedMany v_spare v_buffer v_typed v_marksBlown v_rests v_begins v_orders v_orderMany v_spot v_wrong v_isShort v_before v_hash x4 14 p3 hc100) q766 q767 q19 q75 q768 3 hdX5_blowOne ⟨Nat.le_of_ble_eq_true rfl, Nat.le_of_ble_eq_true rfl⟩ ⟨Nat.le_of_ble_eq_true rfl, Nat.le_of_ble_eq_true rfl⟩ rfl rfl hl.1 (Nat.le_of_ble_eq_true rfl) hP hK hD (va_recv hK hP (ci := 4) (q0 := 0) rfl rfl) hS dX5_markAll_100 (fun H locs hPn hk hS => ?_)
            have hP : va_P (dC, dI) vwCl (wX5 cyI cyC ob a1 a2 a3 a4 a5 a6 a7 a8 v_thrown c10 v_saved v_savedMany v_spare v_buffer v_typed v_marksBlown v_rests v_begins v_orders v_orderMany v_spot v_wrong v_isShort v_before v_hash) H := hPn
            have hD : va_D (k_A (wX5 cyI cyC ob a1 a2 a3 a4 a5 a6 a7 a8 v_thrown v_z v_saved v_savedMany v_spare v_buffer v_typed v_marksBlown v_rests v_begins v_orders v_orderMany v_spot v_wrong v_isShort v_before v_hash)) (wX5 cyI cyC ob a1 a2 a3 a4 a5 a6 a7 a8 v_thrown c10 v_saved v_savedMany v_spare v_buffer v_typed v_marksBlown v_rests v_begins v_orders v_orderMany v_spot v_wrong v_isShort v_before v_hash) := k_Dm hD rfl
            exact J103 c10 _ _ _ h hP hS (lv_sub hl [0, 1, 2, 3] rfl)
    exact L76 5000 0 v_z _ _ _ h hP hS (lv_sub hl [1, 2, 3, 0] rfl)
  obtain ⟨S6, hS6⟩ : ∃ z, z = (fX5_markAll_s6 K73 v_z p2 p1) := ⟨_, rfl⟩
  rw [← hS6] at h
  have L6 : ∀ (n : Nat) (x11 : Int32) (x12 : Int32) (H : Heap) (locs : List Loc) (ls : Array Slot), k_l2 S6 n x11 x12 = some (r, r_z) → va_P (dC, dI) vwCl (wX5 cyI cyC ob a1 a2 a3 a4 a5 a6 a7 a8 v_thrown v_z v_saved v_savedMany v_spare v_buffer v_typed v_marksBlown v_rests v_begins v_orders v_orderMany v_spot v_wrong v_isShort v_before v_hash) H → va_S (k_A (wX5 cyI cyC ob a1 a2 a3 a4 a5 a6 a7 a8 v_thrown v_z v_saved v_savedMany v_spare v_buffer v_typed v_marksBlown v_rests v_begins v_orders v_orderMany v_spot v_wrong v_isShort v_before v_hash)) s.heap H locs → lv_has ls 7 [(0, .ref ob), (1, .int p1), (2, .int p2), (3, .int p3), (4, .int x11), (5, .int x12)] → W p l e (k_rm 6 138) s m [.ref ob, .int p1, .int p2, .int p3].toArray below meth c H locs 0 0 (MQ below (qMI r (dC, dI) (wX5 cyI cyC ob a1 a2 a3 a4 a5 a6 a7 a8 v_thrown v_z v_saved v_savedMany v_spare v_buffer v_typed v_marksBlown v_rests v_begins v_orders v_orderMany v_spot v_wrong v_isShort v_before v_hash) (wX5 cyI cyC ob a1 a2 a3 a4 a5 a6 a7 a8 v_thrown r_z v_saved v_savedMany v_spare v_buffer v_typed v_marksBlown v_rests v_begins v_orders v_orderMany v_spot v_wrong v_isShort v_before v_hash)) [.ref ob, .int p1, .int p2, .int p3].toArray s 0 0 (k_A (wX5 cyI cyC ob a1 a2 a3 a4 a5 a6 a7 a8 v_thrown v_z v_saved v_savedMany v_spare v_buffer v_typed v_marksBlown v_rests v_begins v_orders v_orderMany v_spot v_wrong v_isShort v_before v_hash))) (F0 m 6 ls []) := by
    intro n
    induction n with
    | zero =>
      intro x11 x12 H locs ls h
      exact (k_l2_0 h).elim
    | succ n ih6 =>
      intro x11 x12 H locs ls h hP hS hl
      have h := k_l2_s h
      have h := k_a3 hS6 h
      unfold fX5_markAll_s6 at h
      refine lv_iload hx hb dX5_markAll_6 (lv_at hl 5 rfl) ?_
      refine lv_bipush (v := 20) hx hb dX5_markAll_8 (by decide) ?_
      refine g_icmp_ge (tgt := 73) hx hb dX5_markAll_10 (by decide) h (fun h => ?_) (fun h => ?_)
      · exact J73 x11 _ _ _ h hP hS (lv_sub hl [0, 3, 4] rfl)
      · refine lv_aload_n hx hb dX5_markAll_13 rfl (lv_at hl 0 rfl) ?_
        refine lv_iload hx hb dX5_markAll_14 (lv_at hl 5 rfl) ?_
        obtain ⟨x13, hc16, h⟩ := k_b1_e h
        refine g_callRI_V (As := [.int x12]) (rest := []) hC (mX5_maskNow l dC dI cyI cyC cyO ob a1 a2 a3 a4 a5 a6 a7 a8 v_thrown v_z v_saved v_savedMany v_spare v_buffer v_typed v_marksBlown v_rests v_begins v_orders v_orderMany v_spot v_wrong v_isShort v_before v_hash x12 hc16) q782 q783 q22 q75 q784 1 hdX5_maskNow ⟨Nat.le_of_ble_eq_true rfl, Nat.le_of_ble_eq_true rfl⟩ ⟨Nat.le_of_ble_eq_true rfl, Nat.le_of_ble_eq_true rfl⟩ rfl rfl hl.1 (Nat.le_of_ble_eq_true rfl) hP hK (va_recv hK hP (ci := 4) (q0 := 0) rfl rfl) hS dX5_markAll_16 (fun H locs hk hS => ?_)
        have hP := k_kept hP hk
        refine lv_istore (lv' := [(6, .int x13), (0, .ref ob), (1, .int p1), (2, .int p2), (3, .int p3), (4, .int x11), (5, .int x12)]) hx hb dX5_markAll_19 hl (by decide) rfl (fun ls hl => ?_)
        refine lv_iload hx hb dX5_markAll_21 (lv_at hl 5 rfl) ?_
        refine lv_iload hx hb dX5_markAll_23 (lv_at hl 6 rfl) ?_
        refine lv_iload_n hx hb dX5_markAll_25 rfl (lv_at hl 3 rfl) ?_
        obtain ⟨K64, hK64, h⟩ := k_j1_e h
        have J64 : ∀ (x14 : Int32) (H : Heap) (locs : List Loc) (ls : Array Slot), K64 x14 = some (r, r_z) → va_P (dC, dI) vwCl (wX5 cyI cyC ob a1 a2 a3 a4 a5 a6 a7 a8 v_thrown v_z v_saved v_savedMany v_spare v_buffer v_typed v_marksBlown v_rests v_begins v_orders v_orderMany v_spot v_wrong v_isShort v_before v_hash) H → va_S (k_A (wX5 cyI cyC ob a1 a2 a3 a4 a5 a6 a7 a8 v_thrown v_z v_saved v_savedMany v_spare v_buffer v_typed v_marksBlown v_rests v_begins v_orders v_orderMany v_spot v_wrong v_isShort v_before v_hash)) s.heap H locs → lv_has ls 7 [(0, .ref ob), (1, .int p1), (2, .int p2), (3, .int p3), (5, .int x12)] → W p l e (k_rm 6 138) s m [.ref ob, .int p1, .int p2, .int p3].toArray below meth c H locs 0 0 (MQ below (qMI r (dC, dI) (wX5 cyI cyC ob a1 a2 a3 a4 a5 a6 a7 a8 v_thrown v_z v_saved v_savedMany v_spare v_buffer v_typed v_marksBlown v_rests v_begins v_orders v_orderMany v_spot v_wrong v_isShort v_before v_hash) (wX5 cyI cyC ob a1 a2 a3 a4 a5 a6 a7 a8 v_thrown r_z v_saved v_savedMany v_spare v_buffer v_typed v_marksBlown v_rests v_begins v_orders v_orderMany v_spot v_wrong v_isShort v_before v_hash)) [.ref ob, .int p1, .int p2, .int p3].toArray s 0 0 (k_A (wX5 cyI cyC ob a1 a2 a3 a4 a5 a6 a7 a8 v_thrown v_z v_saved v_savedMany v_spare v_buffer v_typed v_marksBlown v_rests v_begins v_orders v_orderMany v_spot v_wrong v_isShort v_before v_hash))) (F0 m 64 ls [.int x14, .int x11]) := by
          intro x14 H locs ls h hP hS hl
          have h := k_a1 hK64 h
          refine g_ior hx hb dX5_markAll_64 h (fun x15 h => ?_)
          refine lv_istore (lv' := [(4, .int x15), (0, .ref ob), (1, .int p1), (2, .int p2), (3, .int p3), (5, .int x12)]) hx hb dX5_markAll_65 hl (by decide) rfl (fun ls hl => ?_)
          refine g_iinc (dv := 1) hx hb dX5_markAll_67 hl (j := 5) rfl (by decide) (by decide) h (fun x16 ls h hl => ?_)
          have hl : lv_has ls 7 [(5, .int x16), (4, .int x15), (0, .ref ob), (1, .int p1), (2, .int p2), (3, .int p3)] := hl
          refine lv_goto (tgt := 6) hx hb dX5_markAll_70 (by decide) ?_
          exact ih6 x15 x16 _ _ _ h hP hS (lv_sub hl [2, 3, 4, 5, 1, 0] rfl)
        refine g_icmp_eq (tgt := 63) hx hb dX5_markAll_26 (by decide) h (fun h => ?_) (fun h => ?_)
        · refine lv_iconst (v := 0) hx hb dX5_markAll_63 (by decide) ?_
          exact J64 0 _ _ _ h hP hS (lv_sub hl [1, 2, 3, 4, 6] rfl)
        · refine lv_iload hx hb dX5_markAll_29 (lv_at hl 0 rfl) ?_
          obtain ⟨x17, hc31, h⟩ := k_b1_e h
          refine g_callRI_S (As := [.int x13]) (rest := [.int x11]) hC (mX5_kindOf l dC dI cyI cyC cyO x13 hc31) q806 q807 q75 q808 1 hdX5_kindOf ⟨Nat.le_of_ble_eq_true rfl, Nat.le_of_ble_eq_true rfl⟩ ⟨Nat.le_of_ble_eq_true rfl, Nat.le_of_ble_eq_true rfl⟩ rfl rfl hl.1 (Nat.le_of_ble_eq_true rfl) va_P_nil hK hS dX5_markAll_31 (fun H locs hk hS => ?_)
          have hP := k_kept hP hk
          refine lv_iconst (v := 4) hx hb dX5_markAll_34 (by decide) ?_
          refine g_icmp_ne (tgt := 63) hx hb dX5_markAll_35 (by decide) h (fun h => ?_) (fun h => ?_)
          · refine lv_iconst (v := 0) hx hb dX5_markAll_63 (by decide) ?_
            exact J64 0 _ _ _ h hP hS (lv_sub hl [1, 2, 3, 4, 6] rfl)
          · refine lv_iload hx hb dX5_markAll_38 (lv_at hl 0 rfl) ?_
            obtain ⟨x18, hc40, h⟩ := k_b1_e h
            refine g_callRI_S (As := [.int x13]) (rest := [.int x11]) hC (mX5_keyIn l dC dI cyI cyC cyO x13 hc40) q809 q810 q75 q811 1 hdX5_keyIn ⟨Nat.le_of_ble_eq_true rfl, Nat.le_of_ble_eq_true rfl⟩ ⟨Nat.le_of_ble_eq_true rfl, Nat.le_of_ble_eq_true rfl⟩ rfl rfl hl.1 (Nat.le_of_ble_eq_true rfl) va_P_nil hK hS dX5_markAll_40 (fun H locs hk hS => ?_)
            have hP := k_kept hP hk
            refine lv_iload_n hx hb dX5_markAll_43 rfl (lv_at hl 2 rfl) ?_
            refine g_icmp_ne (tgt := 63) hx hb dX5_markAll_44 (by decide) h (fun h => ?_) (fun h => ?_)
            · refine lv_iconst (v := 0) hx hb dX5_markAll_63 (by decide) ?_
              exact J64 0 _ _ _ h hP hS (lv_sub hl [1, 2, 3, 4, 6] rfl)
            · refine lv_aload_n hx hb dX5_markAll_47 rfl (lv_at hl 1 rfl) ?_
              refine lv_iload hx hb dX5_markAll_48 (lv_at hl 6 rfl) ?_
              obtain ⟨x19, hc50, h⟩ := k_b1_e h
              refine g_callRI_V (As := [.int x12]) (rest := [.int x11]) hC (mX5_isLocked l dC dI cyI cyC cyO ob a1 a2 a3 a4 a5 a6 a7 a8 v_thrown v_z v_saved v_savedMany v_spare v_buffer v_typed v_marksBlown v_rests v_begins v_orders v_orderMany v_spot v_wrong v_isShort v_before v_hash x12 hc50) q751 q752 q14 q75 q753 1 hdX5_isLocked ⟨Nat.le_of_ble_eq_true rfl, Nat.le_of_ble_eq_true rfl⟩ ⟨Nat.le_of_ble_eq_true rfl, Nat.le_of_ble_eq_true rfl⟩ rfl rfl hl.1 (Nat.le_of_ble_eq_true rfl) hP hK (va_recv hK hP (ci := 4) (q0 := 0) rfl rfl) hS dX5_markAll_50 (fun H locs hk hS => ?_)
              have hP := k_kept hP hk
              refine g_if_ne (tgt := 63) hx hb dX5_markAll_53 (by decide) h (fun h => ?_) (fun h => ?_)
              · refine lv_iconst (v := 0) hx hb dX5_markAll_63 (by decide) ?_
                exact J64 0 _ _ _ h hP hS (lv_sub hl [1, 2, 3, 4, 6] rfl)
              · refine lv_iconst (v := 1) hx hb dX5_markAll_56 (by decide) ?_
                refine lv_iload hx hb dX5_markAll_57 (lv_at hl 6 rfl) ?_
                refine g_ishl hx hb dX5_markAll_59 h (fun x20 h => ?_)
                refine lv_goto (tgt := 64) hx hb dX5_markAll_60 (by decide) ?_
                exact J64 x20 _ _ _ h hP hS (lv_sub hl [1, 2, 3, 4, 6] rfl)
  exact L6 5000 0 0 _ _ _ h hP hS (lv_sub hl [2, 3, 4, 5, 1, 0] rfl)
def fX5_readsAs (v_z : Nat → Int32) (p1 : Int32) (p2 : Int32) (p3 : Int32) : Option (Int32) :=
  k_b1 (fX5_maskNow v_z p1) fun (x1 : Int32) =>
  k_b1 (fX5_kindOf x1) fun (x2 : Int32) =>
  k_if (x2 = 4)
  (
    k_b1 (fX5_keyIn x1) fun (x3 : Int32) =>
    k_if (x3 = p2)
    (
      k_b1 (fX5_valueIn x1) fun (x4 : Int32) =>
      k_if (x4 = p3)
      (
        some 1)
      (
        some 0))
    (
      some 0))
  (
    some 0)
theorem hdX5_readsAs : yX5_readsAs.cls = RX5 ∧ yX5_readsAs.cls ≠ "java/lang/invoke/MethodHandle" ∧ yX5_readsAs.cls ≠ "java/lang/invoke/VarHandle" ∧ (parseMethodDescriptor yX5_readsAs.desc).map (fun d => d.parameters.length) = some 3 := by decide +kernel
set_option maxRecDepth 100000 in
set_option maxHeartbeats 4000000 in
theorem mX5_readsAs (l : Launch) (dC : Nat → ClassId) (dI : Nat → Nat → Nat) (cyI cyC cyO : ClassId) (ob a1 a2 a3 a4 a5 a6 a7 a8 : Nat) (v_thrown : Int32) (v_z : Nat → Int32) (v_saved : Nat → Int32) (v_savedMany : Int32) (v_spare : Nat → Int32) (v_buffer : Nat → Int32) (v_typed : Int32) (v_marksBlown : Int32) (v_rests : Nat → Int32) (v_begins : Nat → Int32) (v_orders : Nat → Int32) (v_orderMany : Int32) (v_spot : Int32) (v_wrong : Int32) (v_isShort : Int32) (v_before : Nat → Int32) (v_hash : Int64) (p1 : Int32) (p2 : Int32) (p3 : Int32) {r : Int32} (hf : fX5_readsAs v_z p1 p2 p3 = some r) : MetRI l yX5_readsAs cX5_readsAs 5 (some .boolean) 6 138 [.ref ob, .int p1, .int p2, .int p3] (dC, dI) (tyS cyI cyC cyO) (wX5 cyI cyC ob a1 a2 a3 a4 a5 a6 a7 a8 v_thrown v_z v_saved v_savedMany v_spare v_buffer v_typed v_marksBlown v_rests v_begins v_orders v_orderMany v_spot v_wrong v_isShort v_before v_hash) r := by
  refine metRI_of (by decide) (Nat.le_of_ble_eq_true rfl) ?_
  intro p e s m below meth c ls hC hr hlk hP hK hl
  have hC : CallFix p m c cX5_readsAs 5 s [.ref ob, .int p1, .int p2, .int p3].toArray wA RX5 := hC
  obtain ⟨hx, hb, hml, hown, hts⟩ := id hC
  have hS : va_S kF s.heap s.heap [] := va_S.rf
  have hl : lv_has ls 5 [(0, .ref ob), (1, .int p1), (2, .int p2), (3, .int p3)] := hl
  have h := hf
  unfold fX5_readsAs at h
  obtain ⟨H, hH⟩ : ∃ H, H = s.heap := ⟨_, rfl⟩
  obtain ⟨locs, hlo⟩ : ∃ locs : List Loc, locs = [] := ⟨_, rfl⟩
  rw [← hH] at hP
  rw [← hlo] at hS
  have hS : va_S kF s.heap H locs := by rw [hH]; exact hS
  show W p l e (k_rm 6 138) s m [.ref ob, .int p1, .int p2, .int p3].toArray below meth c s.heap [] 0 0 _ _
  rw [← hlo, ← hH]
  refine lv_aload_n hx hb dX5_readsAs_0 rfl (lv_at hl 0 rfl) ?_
  refine lv_iload_n hx hb dX5_readsAs_1 rfl (lv_at hl 1 rfl) ?_
  obtain ⟨x1, hc2, h⟩ := k_b1_e h
  refine g_callRI_V (As := [.int p1]) (rest := []) hC (mX5_maskNow l dC dI cyI cyC cyO ob a1 a2 a3 a4 a5 a6 a7 a8 v_thrown v_z v_saved v_savedMany v_spare v_buffer v_typed v_marksBlown v_rests v_begins v_orders v_orderMany v_spot v_wrong v_isShort v_before v_hash p1 hc2) q782 q783 q22 q75 q784 1 hdX5_maskNow ⟨Nat.le_of_ble_eq_true rfl, Nat.le_of_ble_eq_true rfl⟩ ⟨Nat.le_of_ble_eq_true rfl, Nat.le_of_ble_eq_true rfl⟩ rfl rfl hl.1 (Nat.le_of_ble_eq_true rfl) hP hK (va_recv hK hP (ci := 4) (q0 := 0) rfl rfl) hS dX5_readsAs_2 (fun H locs hk hS => ?_)
  have hP := k_kept hP hk
  refine lv_istore (lv' := [(4, .int x1), (0, .ref ob), (1, .int p1), (2, .int p2), (3, .int p3)]) hx hb dX5_readsAs_5 hl (by decide) rfl (fun ls hl => ?_)
  refine lv_iload hx hb dX5_readsAs_7 (lv_at hl 0 rfl) ?_
  obtain ⟨x2, hc9, h⟩ := k_b1_e h
  refine g_callRI_S (As := [.int x1]) (rest := []) hC (mX5_kindOf l dC dI cyI cyC cyO x1 hc9) q806 q807 q75 q808 1 hdX5_kindOf ⟨Nat.le_of_ble_eq_true rfl, Nat.le_of_ble_eq_true rfl⟩ ⟨Nat.le_of_ble_eq_true rfl, Nat.le_of_ble_eq_true rfl⟩ rfl rfl hl.1 (Nat.le_of_ble_eq_true rfl) va_P_nil hK hS dX5_readsAs_9 (fun H locs hk hS => ?_)
  have hP := k_kept hP hk
  refine lv_iconst (v := 4) hx hb dX5_readsAs_12 (by decide) ?_
  refine g_icmp_ne (tgt := 38) hx hb dX5_readsAs_13 (by decide) h (fun h => ?_) (fun h => ?_)
  · refine lv_iconst (v := 0) hx hb dX5_readsAs_38 (by decide) ?_
    exact g_retRZ hx hb hr (by decide +kernel) hlk hS h dX5_readsAs_39
  · refine lv_iload hx hb dX5_readsAs_16 (lv_at hl 0 rfl) ?_
    obtain ⟨x3, hc18, h⟩ := k_b1_e h
    refine g_callRI_S (As := [.int x1]) (rest := []) hC (mX5_keyIn l dC dI cyI cyC cyO x1 hc18) q809 q810 q75 q811 1 hdX5_keyIn ⟨Nat.le_of_ble_eq_true rfl, Nat.le_of_ble_eq_true rfl⟩ ⟨Nat.le_of_ble_eq_true rfl, Nat.le_of_ble_eq_true rfl⟩ rfl rfl hl.1 (Nat.le_of_ble_eq_true rfl) va_P_nil hK hS dX5_readsAs_18 (fun H locs hk hS => ?_)
    have hP := k_kept hP hk
    refine lv_iload_n hx hb dX5_readsAs_21 rfl (lv_at hl 3 rfl) ?_
    refine g_icmp_ne (tgt := 38) hx hb dX5_readsAs_22 (by decide) h (fun h => ?_) (fun h => ?_)
    · refine lv_iconst (v := 0) hx hb dX5_readsAs_38 (by decide) ?_
      exact g_retRZ hx hb hr (by decide +kernel) hlk hS h dX5_readsAs_39
    · refine lv_iload hx hb dX5_readsAs_25 (lv_at hl 0 rfl) ?_
      obtain ⟨x4, hc27, h⟩ := k_b1_e h
      refine g_callRI_S (As := [.int x1]) (rest := []) hC (mX5_valueIn l dC dI cyI cyC cyO x1 hc27) q812 q813 q75 q814 1 hdX5_valueIn ⟨Nat.le_of_ble_eq_true rfl, Nat.le_of_ble_eq_true rfl⟩ ⟨Nat.le_of_ble_eq_true rfl, Nat.le_of_ble_eq_true rfl⟩ rfl rfl hl.1 (Nat.le_of_ble_eq_true rfl) va_P_nil hK hS dX5_readsAs_27 (fun H locs hk hS => ?_)
      have hP := k_kept hP hk
      refine lv_iload_n hx hb dX5_readsAs_30 rfl (lv_at hl 4 rfl) ?_
      refine g_icmp_ne (tgt := 38) hx hb dX5_readsAs_31 (by decide) h (fun h => ?_) (fun h => ?_)
      · refine lv_iconst (v := 0) hx hb dX5_readsAs_38 (by decide) ?_
        exact g_retRZ hx hb hr (by decide +kernel) hlk hS h dX5_readsAs_39
      · refine lv_iconst (v := 1) hx hb dX5_readsAs_34 (by decide) ?_
        refine lv_goto (tgt := 39) hx hb dX5_readsAs_35 (by decide) ?_
        exact g_retRZ hx hb hr (by decide +kernel) hlk hS h dX5_readsAs_39
def fX5_putInto_s34 (K132 : (Nat → Int32) → Option (Int32 × (Nat → Int32) × Int32)) (x5 : Int32) (p1 : Int32) (x17 : Int32) (rec34 : Int32 → (Nat → Int32) → Option (Int32 × (Nat → Int32) × Int32)) (x25 : Int32) (c26 : Nat → Int32) : Option (Int32 × (Nat → Int32) × Int32) :=
  k_if (16 ≤ x25)
  (
    K132 c26)
  (
    k_let (x5 >>> (x25 &&& 31)) fun (x27 : Int32) =>
    k_let (x27 &&& 1) fun (x28 : Int32) =>
    k_j1
    (fun (x29 : Int32) =>
      k_j1
      (fun (c30 : Nat → Int32) =>
        k_let (x25 + 1) fun (x31 : Int32) =>
        rec34 x31 c30)
      (fun K126 =>
      k_j0
      (
        k_if (x29 = 0)
        (
          K126 c26)
        (
          k_ck (0 : Int32) 327 <| k_let (c26 (0 : Int32).toNatClampNeg) fun (x32 : Int32) =>
          k_b1 (fX5_isThriceNow c26) fun (x33 : Int32) =>
          k_b1 (fX5_reads c26 p1 x25 x32 x33) fun (x34 : Int32) =>
          k_if (x34 = 0)
          (
            k_b1 (fX5_strength c26 p1 x25) fun (x35 : Int32) =>
            k_let (x35 + 1) fun (x36 : Int32) =>
            k_b1 (fX5_blowOne c26 p1 x25 x36) fun (c37 : Nat → Int32) =>
            K126 c37)
          (
            K126 c26)))
      (fun K85 =>
      k_if (x29 = 0)
      (
        K85)
      (
        k_if (x17 = 0)
        (
          k_ck (4 : Int32) 327 <| k_let (c26 (4 : Int32).toNatClampNeg) fun (x38 : Int32) =>
          k_b1 (fX5_blowOne c26 p1 x25 x38) fun (c39 : Nat → Int32) =>
          K126 c39)
        (
          K85)))))
    (fun K57 =>
    k_if (x28 = 1)
    (
      K57 1)
    (
      K57 0)))
def fX5_putInto_s26 (K166 : Int32 → (Nat → Int32) → Option (Int32 × (Nat → Int32) × Int32)) (p1 : Int32) (p2 : Int32) (p3 : Int32) (x5 : Int32) (rec26 : Int32 → Int32 → (Nat → Int32) → Option (Int32 × (Nat → Int32) × Int32)) (x17 : Int32) (x18 : Int32) (c19 : Nat → Int32) : Option (Int32 × (Nat → Int32) × Int32) :=
  k_if (x18 = 0)
  (
    K166 x17 c19)
  (
    k_j1
    (fun (c20 : Nat → Int32) =>
      k_let (x17 + 1) fun (x21 : Int32) =>
      k_ck (5 : Int32) 327 <| k_let (c20 (5 : Int32).toNatClampNeg) fun (x22 : Int32) =>
      k_j1
      (fun (x23 : Int32) =>
        rec26 x21 x23 c20)
      (fun K161 =>
      k_if (x22 ≤ x21)
      (
        K161 0)
      (
        k_b1 (fX5_readsAs c20 p1 p2 p3) fun (x24 : Int32) =>
        k_if (x24 = 0)
        (
          K161 1)
        (
          K161 0))))
    (fun K132 =>
    k_l2 (fX5_putInto_s34 K132 x5 p1 x17) 5000 0 c19))
def fX5_putInto (v_z : Nat → Int32) (v_marksBlown : Int32) (p1 : Int32) (p2 : Int32) (p3 : Int32) : Option (Int32 × (Nat → Int32) × Int32) :=
  k_let ((p3 : Int32) <<< (4 &&& 31)) fun (x1 : Int32) =>
  k_let (p2 ||| x1) fun (x2 : Int32) =>
  k_b1 (fX5_zerosIn x2) fun (x3 : Int32) =>
  k_let ((x3 : Int32) <<< (10 &&& 31)) fun (x4 : Int32) =>
  k_let (x2 ||| x4) fun (x5 : Int32) =>
  k_j2
  (fun (x6 : Int32) (c7 : Nat → Int32) =>
    k_ck (6 : Int32) 327 <| k_let (c7 (6 : Int32).toNatClampNeg) fun (x8 : Int32) =>
    k_j2
    (fun (x9 : Int32) (c10 : Nat → Int32) =>
      k_ck (2 : Int32) 327 <| k_let (c10 (2 : Int32).toNatClampNeg) fun (x11 : Int32) =>
      k_let (x11 + 1) fun (x12 : Int32) =>
      k_ck (2 : Int32) 327 <| k_let (upd c10 (2 : Int32).toNatClampNeg x12) fun (c13 : Nat → Int32) =>
      some (x6, c13, x9))
    (fun K194 =>
    k_if (x8 = 1)
    (
      k_ck (4 : Int32) 327 <| k_let (c7 (4 : Int32).toNatClampNeg) fun (x14 : Int32) =>
      k_b2 (fX5_markAll c7 p2 p1 x14) fun (x15 : Int32) (c16 : Nat → Int32) =>
      K194 x15 c16)
    (
      K194 0 c7)))
  (fun K166 =>
  k_l3 (fX5_putInto_s26 K166 p1 p2 p3 x5) 5000 0 1 v_z)
theorem hdX5_putInto : yX5_putInto.cls = RX5 ∧ yX5_putInto.cls ≠ "java/lang/invoke/MethodHandle" ∧ yX5_putInto.cls ≠ "java/lang/invoke/VarHandle" ∧ (parseMethodDescriptor yX5_putInto.desc).map (fun d => d.parameters.length) = some 3 := by decide +kernel
set_option maxRecDepth 100000 in
set_option maxHeartbeats 4000000 in
theorem mX5_putInto (l : Launch) (dC : Nat → ClassId) (dI : Nat → Nat → Nat) (cyI cyC cyO : ClassId) (ob a1 a2 a3 a4 a5 a6 a7 a8 : Nat) (v_thrown : Int32) (v_z : Nat → Int32) (v_saved : Nat → Int32) (v_savedMany : Int32) (v_spare : Nat → Int32) (v_buffer : Nat → Int32) (v_typed : Int32) (v_marksBlown : Int32) (v_rests : Nat → Int32) (v_begins : Nat → Int32) (v_orders : Nat → Int32) (v_orderMany : Int32) (v_spot : Int32) (v_wrong : Int32) (v_isShort : Int32) (v_before : Nat → Int32) (v_hash : Int64) (p1 : Int32) (p2 : Int32) (p3 : Int32) {r : Int32} {r_z : Nat → Int32} {r_marksBlown : Int32} (hf : fX5_putInto v_z v_marksBlown p1 p2 p3 = some (r, r_z, r_marksBlown)) : MetMI l yX5_putInto cX5_putInto 9 (some .int) 7 164 [.ref ob, .int p1, .int p2, .int p3] (dC, dI) (tyS cyI cyC cyO) (wX5 cyI cyC ob a1 a2 a3 a4 a5 a6 a7 a8 v_thrown v_z v_saved v_savedMany v_spare v_buffer v_typed v_marksBlown v_rests v_begins v_orders v_orderMany v_spot v_wrong v_isShort v_before v_hash) (wX5 cyI cyC ob a1 a2 a3 a4 a5 a6 a7 a8 v_thrown r_z v_saved v_savedMany v_spare v_buffer v_typed r_marksBlown v_rests v_begins v_orders v_orderMany v_spot v_wrong v_isShort v_before v_hash) r := by
  refine metMI_of (by decide) (Nat.le_of_ble_eq_true rfl) ?_
  intro p e s m below meth c ls hC hr hlk hP hK hD hl
  have hC : CallFix p m c cX5_putInto 9 s [.ref ob, .int p1, .int p2, .int p3].toArray wA RX5 := hC
  obtain ⟨hx, hb, hml, hown, hts⟩ := id hC
  have hS : va_S (k_A (wX5 cyI cyC ob a1 a2 a3 a4 a5 a6 a7 a8 v_thrown v_z v_saved v_savedMany v_spare v_buffer v_typed v_marksBlown v_rests v_begins v_orders v_orderMany v_spot v_wrong v_isShort v_before v_hash)) s.heap s.heap [] := va_S.rf
  have hl : lv_has ls 9 [(0, .ref ob), (1, .int p1), (2, .int p2), (3, .int p3)] := hl
  have h := hf
  unfold fX5_putInto at h
  obtain ⟨H, hH⟩ : ∃ H, H = s.heap := ⟨_, rfl⟩
  obtain ⟨locs, hlo⟩ : ∃ locs : List Loc, locs = [] := ⟨_, rfl⟩
  rw [← hH] at hP
  rw [← hlo] at hS
  have hS : va_S (k_A (wX5 cyI cyC ob a1 a2 a3 a4 a5 a6 a7 a8 v_thrown v_z v_saved v_savedMany v_spare v_buffer v_typed v_marksBlown v_rests v_begins v_orders v_orderMany v_spot v_wrong v_isShort v_before v_hash)) s.heap H locs := by rw [hH]; exact hS
  show W p l e (k_rm 7 164) s m [.ref ob, .int p1, .int p2, .int p3].toArray below meth c s.heap [] 0 0 _ _
  rw [← hlo, ← hH]
  refine lv_iload_n hx hb dX5_putInto_0 rfl (lv_at hl 2 rfl) ?_
  refine lv_iload_n hx hb dX5_putInto_1 rfl (lv_at hl 3 rfl) ?_
  refine lv_iconst (v := 4) hx hb dX5_putInto_2 (by decide) ?_
  refine g_ishl hx hb dX5_putInto_3 h (fun x1 h => ?_)
  refine g_ior hx hb dX5_putInto_4 h (fun x2 h => ?_)
  refine lv_istore (lv' := [(4, .int x2), (0, .ref ob), (1, .int p1), (2, .int p2), (3, .int p3)]) hx hb dX5_putInto_5 hl (by decide) rfl (fun ls hl => ?_)
  refine lv_iload hx hb dX5_putInto_7 (lv_at hl 0 rfl) ?_
  refine lv_iload hx hb dX5_putInto_9 (lv_at hl 0 rfl) ?_
  obtain ⟨x3, hc11, h⟩ := k_b1_e h
  refine g_callRI_S (As := [.int x2]) (rest := [.int x2]) hC (mX5_zerosIn l dC dI cyI cyC cyO x2 hc11) q797 q798 q75 q799 1 hdX5_zerosIn ⟨Nat.le_of_ble_eq_true rfl, Nat.le_of_ble_eq_true rfl⟩ ⟨Nat.le_of_ble_eq_true rfl, Nat.le_of_ble_eq_true rfl⟩ rfl rfl hl.1 (Nat.le_of_ble_eq_true rfl) va_P_nil hK hS dX5_putInto_11 (fun H locs hk hS => ?_)
  have hP := k_kept hP hk
  refine lv_bipush (v := 10) hx hb dX5_putInto_14 (by decide) ?_
  refine g_ishl hx hb dX5_putInto_16 h (fun x4 h => ?_)
  refine g_ior hx hb dX5_putInto_17 h (fun x5 h => ?_)
  refine lv_istore (lv' := [(4, .int x5), (0, .ref ob), (1, .int p1), (2, .int p2), (3, .int p3)]) hx hb dX5_putInto_18 hl (by decide) rfl (fun ls hl => ?_)
  refine lv_iconst (v := 0) hx hb dX5_putInto_20 (by decide) ?_
  refine lv_istore (lv' := [(5, .int 0), (4, .int x5), (0, .ref ob), (1, .int p1), (2, .int p2), (3, .int p3)]) hx hb dX5_putInto_21 hl (by decide) rfl (fun ls hl => ?_)
  refine lv_iconst (v := 1) hx hb dX5_putInto_23 (by decide) ?_
  refine lv_istore (lv' := [(6, .int 1), (5, .int 0), (4, .int x5), (0, .ref ob), (1, .int p1), (2, .int p2), (3, .int p3)]) hx hb dX5_putInto_24 hl (by decide) rfl (fun ls hl => ?_)
  obtain ⟨K166, hK166, h⟩ := k_j2_e h
  have J166 : ∀ (x6 : Int32) (c7 : Nat → Int32) (H : Heap) (locs : List Loc) (ls : Array Slot), K166 x6 c7 = some (r, r_z, r_marksBlown) → va_P (dC, dI) vwCl (wX5 cyI cyC ob a1 a2 a3 a4 a5 a6 a7 a8 v_thrown c7 v_saved v_savedMany v_spare v_buffer v_typed v_marksBlown v_rests v_begins v_orders v_orderMany v_spot v_wrong v_isShort v_before v_hash) H → va_S (k_A (wX5 cyI cyC ob a1 a2 a3 a4 a5 a6 a7 a8 v_thrown v_z v_saved v_savedMany v_spare v_buffer v_typed v_marksBlown v_rests v_begins v_orders v_orderMany v_spot v_wrong v_isShort v_before v_hash)) s.heap H locs → lv_has ls 9 [(0, .ref ob), (1, .int p1), (2, .int p2), (5, .int x6)] → W p l e (k_rm 7 164) s m [.ref ob, .int p1, .int p2, .int p3].toArray below meth c H locs 0 0 (MQ below (qMI r (dC, dI) (wX5 cyI cyC ob a1 a2 a3 a4 a5 a6 a7 a8 v_thrown v_z v_saved v_savedMany v_spare v_buffer v_typed v_marksBlown v_rests v_begins v_orders v_orderMany v_spot v_wrong v_isShort v_before v_hash) (wX5 cyI cyC ob a1 a2 a3 a4 a5 a6 a7 a8 v_thrown r_z v_saved v_savedMany v_spare v_buffer v_typed r_marksBlown v_rests v_begins v_orders v_orderMany v_spot v_wrong v_isShort v_before v_hash)) [.ref ob, .int p1, .int p2, .int p3].toArray s 0 0 (k_A (wX5 cyI cyC ob a1 a2 a3 a4 a5 a6 a7 a8 v_thrown v_z v_saved v_savedMany v_spare v_buffer v_typed v_marksBlown v_rests v_begins v_orders v_orderMany v_spot v_wrong v_isShort v_before v_hash))) (F0 m 166 ls []) := by
    intro x6 c7 H locs ls h hP hS hl
    have hD : va_D (k_A (wX5 cyI cyC ob a1 a2 a3 a4 a5 a6 a7 a8 v_thrown v_z v_saved v_savedMany v_spare v_buffer v_typed v_marksBlown v_rests v_begins v_orders v_orderMany v_spot v_wrong v_isShort v_before v_hash)) (wX5 cyI cyC ob a1 a2 a3 a4 a5 a6 a7 a8 v_thrown c7 v_saved v_savedMany v_spare v_buffer v_typed v_marksBlown v_rests v_begins v_orders v_orderMany v_spot v_wrong v_isShort v_before v_hash) := k_Dm hD rfl
    have h := k_a2 hK166 h
    refine lv_aload_n hx hb dX5_putInto_166 rfl (lv_at hl 0 rfl) ?_
    refine lv_aload_n hx hb dX5_putInto_167 rfl (lv_at hl 0 rfl) ?_
    refine va_get (D := (dC, dI)) (ci := 4) (v := .ref a1) (C := RX5) (T := TX5) (N := 17) hx hb hts iaX5 hown hK hP 0 rfl rfl 1 (by decide) (hts _ q717) (fun _ h9 => h9) rfl dX5_putInto_168 ?_
    refine lv_bipush (v := 6) hx hb dX5_putInto_171 (by decide) ?_
    refine g_iald hx hb hK hP 1 0 rfl rfl dX5_putInto_173 h (fun x8 h => ?_)
    refine lv_iconst (v := 1) hx hb dX5_putInto_174 (by decide) ?_
    obtain ⟨K194, hK194, h⟩ := k_j2_e h
    have J194 : ∀ (x9 : Int32) (c10 : Nat → Int32) (H : Heap) (locs : List Loc) (ls : Array Slot), K194 x9 c10 = some (r, r_z, r_marksBlown) → va_P (dC, dI) vwCl (wX5 cyI cyC ob a1 a2 a3 a4 a5 a6 a7 a8 v_thrown c10 v_saved v_savedMany v_spare v_buffer v_typed v_marksBlown v_rests v_begins v_orders v_orderMany v_spot v_wrong v_isShort v_before v_hash) H → va_S (k_A (wX5 cyI cyC ob a1 a2 a3 a4 a5 a6 a7 a8 v_thrown v_z v_saved v_savedMany v_spare v_buffer v_typed v_marksBlown v_rests v_begins v_orders v_orderMany v_spot v_wrong v_isShort v_before v_hash)) s.heap H locs → lv_has ls 9 [(0, .ref ob), (5, .int x6)] → W p l e (k_rm 7 164) s m [.ref ob, .int p1, .int p2, .int p3].toArray below meth c H locs 0 0 (MQ below (qMI r (dC, dI) (wX5 cyI cyC ob a1 a2 a3 a4 a5 a6 a7 a8 v_thrown v_z v_saved v_savedMany v_spare v_buffer v_typed v_marksBlown v_rests v_begins v_orders v_orderMany v_spot v_wrong v_isShort v_before v_hash) (wX5 cyI cyC ob a1 a2 a3 a4 a5 a6 a7 a8 v_thrown r_z v_saved v_savedMany v_spare v_buffer v_typed r_marksBlown v_rests v_begins v_orders v_orderMany v_spot v_wrong v_isShort v_before v_hash)) [.ref ob, .int p1, .int p2, .int p3].toArray s 0 0 (k_A (wX5 cyI cyC ob a1 a2 a3 a4 a5 a6 a7 a8 v_thrown v_z v_saved v_savedMany v_spare v_buffer v_typed v_marksBlown v_rests v_begins v_orders v_orderMany v_spot v_wrong v_isShort v_before v_hash))) (F0 m 194 ls [.int x9, .ref ob]) := by
      intro x9 c10 H locs ls h hP hS hl
      have hD : va_D (k_A (wX5 cyI cyC ob a1 a2 a3 a4 a5 a6 a7 a8 v_thrown v_z v_saved v_savedMany v_spare v_buffer v_typed v_marksBlown v_rests v_begins v_orders v_orderMany v_spot v_wrong v_isShort v_before v_hash)) (wX5 cyI cyC ob a1 a2 a3 a4 a5 a6 a7 a8 v_thrown c10 v_saved v_savedMany v_spare v_buffer v_typed v_marksBlown v_rests v_begins v_orders v_orderMany v_spot v_wrong v_isShort v_before v_hash) := k_Dm hD rfl
      have h := k_a2 hK194 h
      refine va_put (D := (dC, dI)) (ci := 4) (v := .int x9) (ty := .int) (C := RX5) (T := TX5) (N := 17) hx hb hts iaX5 tyX5 tyX5_ok nmX5 hown hK hP hD hS 0 rfl rfl 7 (by decide) (hts _ q723) (fun _ h9 => h9) rfl (by decide +kernel) rfl rfl (Nat.le_of_ble_eq_true rfl) dX5_putInto_194 (fun H locs hP _ hS => ?_)
      have hP : va_P (dC, dI) vwCl (wX5 cyI cyC ob a1 a2 a3 a4 a5 a6 a7 a8 v_thrown c10 v_saved v_savedMany v_spare v_buffer v_typed x9 v_rests v_begins v_orders v_orderMany v_spot v_wrong v_isShort v_before v_hash) H := hP
      have hD : va_D (k_A (wX5 cyI cyC ob a1 a2 a3 a4 a5 a6 a7 a8 v_thrown v_z v_saved v_savedMany v_spare v_buffer v_typed v_marksBlown v_rests v_begins v_orders v_orderMany v_spot v_wrong v_isShort v_before v_hash)) (wX5 cyI cyC ob a1 a2 a3 a4 a5 a6 a7 a8 v_thrown c10 v_saved v_savedMany v_spare v_buffer v_typed x9 v_rests v_begins v_orders v_orderMany v_spot v_wrong v_isShort v_before v_hash) := k_Dm hD rfl
      refine lv_aload_n hx hb dX5_putInto_197 rfl (lv_at hl 0 rfl) ?_
      refine va_get (D := (dC, dI)) (ci := 4) (v := .ref a1) (C := RX5) (T := TX5) (N := 17) hx hb hts iaX5 hown hK hP 0 rfl rfl 1 (by decide) (hts _ q717) (fun _ h9 => h9) rfl dX5_putInto_198 ?_
      refine lv_iconst (v := 2) hx hb dX5_putInto_201 (by decide) ?_
      refine lv_dup2_11 hx hb dX5_putInto_202 rfl rfl ?_
      refine g_iald hx hb hK hP 1 0 rfl rfl dX5_putInto_203 h (fun x11 h => ?_)
      refine lv_iconst (v := 1) hx hb dX5_putInto_204 (by decide) ?_
      refine g_iadd hx hb dX5_putInto_205 h (fun x12 h => ?_)
      refine g_iast hx hb hK hP hD hS 1 0 rfl rfl dX5_putInto_206 h (fun c13 H locs h hP hS => ?_)
      have hP : va_P (dC, dI) vwCl (wX5 cyI cyC ob a1 a2 a3 a4 a5 a6 a7 a8 v_thrown c13 v_saved v_savedMany v_spare v_buffer v_typed x9 v_rests v_begins v_orders v_orderMany v_spot v_wrong v_isShort v_before v_hash) H := hP
      have hD : va_D (k_A (wX5 cyI cyC ob a1 a2 a3 a4 a5 a6 a7 a8 v_thrown v_z v_saved v_savedMany v_spare v_buffer v_typed v_marksBlown v_rests v_begins v_orders v_orderMany v_spot v_wrong v_isShort v_before v_hash)) (wX5 cyI cyC ob a1 a2 a3 a4 a5 a6 a7 a8 v_thrown c13 v_saved v_savedMany v_spare v_buffer v_typed x9 v_rests v_begins v_orders v_orderMany v_spot v_wrong v_isShort v_before v_hash) := k_Dm hD rfl
      refine lv_iload hx hb dX5_putInto_207 (lv_at hl 1 rfl) ?_
      obtain ⟨e0, e1, e2⟩ := k_t3 h
      exact g_retMI hx hb hr hlk hS e0 (by rw [← e1, ← e2]; exact hP) dX5_putInto_209
    refine g_icmp_ne (tgt := 193) hx hb dX5_putInto_175 (by decide) h (fun h => ?_) (fun h => ?_)
    · refine lv_iconst (v := 0) hx hb dX5_putInto_193 (by decide) ?_
      exact J194 0 c7 _ _ _ h hP hS (lv_sub hl [0, 3] rfl)
    · refine lv_aload_n hx hb dX5_putInto_178 rfl (lv_at hl 0 rfl) ?_
      refine lv_iload_n hx hb dX5_putInto_179 rfl (lv_at hl 2 rfl) ?_
      refine lv_iload_n hx hb dX5_putInto_180 rfl (lv_at hl 1 rfl) ?_
      refine lv_aload_n hx hb dX5_putInto_181 rfl (lv_at hl 0 rfl) ?_
      refine va_get (D := (dC, dI)) (ci := 4) (v := .ref a1) (C := RX5) (T := TX5) (N := 17) hx hb hts iaX5 hown hK hP 0 rfl rfl 1 (by decide) (hts _ q717) (fun _ h9 => h9) rfl dX5_putInto_182 ?_
      refine lv_iconst (v := 4) hx hb dX5_putInto_185 (by decide) ?_
      refine g_iald hx hb hK hP 1 0 rfl rfl dX5_putInto_186 h (fun x14 h => ?_)
      obtain ⟨x15, c16, hc187, h⟩ := k_b2_e h
      refine g_callMI_V (As := [.int p2, .int p1, .int x14]) (rest := [.ref ob]) hC (mX5_markAll l dC dI cyI cyC cyO ob a1 a2 a3 a4 a5 a6 a7 a8 v_thrown c7 v_saved v_savedMany v_spare v_buffer v_typed v_marksBlown v_rests v_begins v_orders v_orderMany v_spot v_wrong v_isShort v_before v_hash p2 p1 x14 hc187) q815 q816 q28 q75 q817 3 hdX5_markAll ⟨Nat.le_of_ble_eq_true rfl, Nat.le_of_ble_eq_true rfl⟩ ⟨Nat.le_of_ble_eq_true rfl, Nat.le_of_ble_eq_true rfl⟩ rfl rfl hl.1 (Nat.le_of_ble_eq_true rfl) hP hK hD (va_recv hK hP (ci := 4) (q0 := 0) rfl rfl) hS dX5_putInto_187 (fun H locs hPn hk hS => ?_)
      have hP : va_P (dC, dI) vwCl (wX5 cyI cyC ob a1 a2 a3 a4 a5 a6 a7 a8 v_thrown c16 v_saved v_savedMany v_spare v_buffer v_typed v_marksBlown v_rests v_begins v_orders v_orderMany v_spot v_wrong v_isShort v_before v_hash) H := hPn
      have hD : va_D (k_A (wX5 cyI cyC ob a1 a2 a3 a4 a5 a6 a7 a8 v_thrown v_z v_saved v_savedMany v_spare v_buffer v_typed v_marksBlown v_rests v_begins v_orders v_orderMany v_spot v_wrong v_isShort v_before v_hash)) (wX5 cyI cyC ob a1 a2 a3 a4 a5 a6 a7 a8 v_thrown c16 v_saved v_savedMany v_spare v_buffer v_typed v_marksBlown v_rests v_begins v_orders v_orderMany v_spot v_wrong v_isShort v_before v_hash) := k_Dm hD rfl
      refine lv_goto (tgt := 194) hx hb dX5_putInto_190 (by decide) ?_
      exact J194 x15 c16 _ _ _ h hP hS (lv_sub hl [0, 3] rfl)
  obtain ⟨S26, hS26⟩ : ∃ z, z = (fX5_putInto_s26 K166 p1 p2 p3 x5) := ⟨_, rfl⟩
  rw [← hS26] at h
  have L26 : ∀ (n : Nat) (x17 : Int32) (x18 : Int32) (c19 : Nat → Int32) (H : Heap) (locs : List Loc) (ls : Array Slot), k_l3 S26 n x17 x18 c19 = some (r, r_z, r_marksBlown) → va_P (dC, dI) vwCl (wX5 cyI cyC ob a1 a2 a3 a4 a5 a6 a7 a8 v_thrown c19 v_saved v_savedMany v_spare v_buffer v_typed v_marksBlown v_rests v_begins v_orders v_orderMany v_spot v_wrong v_isShort v_before v_hash) H → va_S (k_A (wX5 cyI cyC ob a1 a2 a3 a4 a5 a6 a7 a8 v_thrown v_z v_saved v_savedMany v_spare v_buffer v_typed v_marksBlown v_rests v_begins v_orders v_orderMany v_spot v_wrong v_isShort v_before v_hash)) s.heap H locs → lv_has ls 9 [(0, .ref ob), (1, .int p1), (2, .int p2), (3, .int p3), (4, .int x5), (5, .int x17), (6, .int x18)] → W p l e (k_rm 7 164) s m [.ref ob, .int p1, .int p2, .int p3].toArray below meth c H locs 0 0 (MQ below (qMI r (dC, dI) (wX5 cyI cyC ob a1 a2 a3 a4 a5 a6 a7 a8 v_thrown v_z v_saved v_savedMany v_spare v_buffer v_typed v_marksBlown v_rests v_begins v_orders v_orderMany v_spot v_wrong v_isShort v_before v_hash) (wX5 cyI cyC ob a1 a2 a3 a4 a5 a6 a7 a8 v_thrown r_z v_saved v_savedMany v_spare v_buffer v_typed r_marksBlown v_rests v_begins v_orders v_orderMany v_spot v_wrong v_isShort v_before v_hash)) [.ref ob, .int p1, .int p2, .int p3].toArray s 0 0 (k_A (wX5 cyI cyC ob a1 a2 a3 a4 a5 a6 a7 a8 v_thrown v_z v_saved v_savedMany v_spare v_buffer v_typed v_marksBlown v_rests v_begins v_orders v_orderMany v_spot v_wrong v_isShort v_before v_hash))) (F0 m 26 ls []) := by
    intro n
    induction n with
    | zero =>
      intro x17 x18 c19 H locs ls h
      exact (k_l3_0 h).elim
    | succ n ih26 =>
      intro x17 x18 c19 H locs ls h hP hS hl
      have hD : va_D (k_A (wX5 cyI cyC ob a1 a2 a3 a4 a5 a6 a7 a8 v_thrown v_z v_saved v_savedMany v_spare v_buffer v_typed v_marksBlown v_rests v_begins v_orders v_orderMany v_spot v_wrong v_isShort v_before v_hash)) (wX5 cyI cyC ob a1 a2 a3 a4 a5 a6 a7 a8 v_thrown c19 v_saved v_savedMany v_spare v_buffer v_typed v_marksBlown v_rests v_begins v_orders v_orderMany v_spot v_wrong v_isShort v_before v_hash) := k_Dm hD rfl
      have h := k_l3_s h
      have h := k_a4 hS26 h
      unfold fX5_putInto_s26 at h
      refine lv_iload hx hb dX5_putInto_26 (lv_at hl 6 rfl) ?_
      refine g_if_eq (tgt := 166) hx hb dX5_putInto_28 (by decide) h (fun h => ?_) (fun h => ?_)
      · exact J166 x17 c19 _ _ _ h hP hS (lv_sub hl [0, 1, 2, 5] rfl)
      · refine lv_iconst (v := 0) hx hb dX5_putInto_31 (by decide) ?_
        refine lv_istore (lv' := [(7, .int 0), (0, .ref ob), (1, .int p1), (2, .int p2), (3, .int p3), (4, .int x5), (5, .int x17), (6, .int x18)]) hx hb dX5_putInto_32 hl (by decide) rfl (fun ls hl => ?_)
        obtain ⟨K132, hK132, h⟩ := k_j1_e h
        have J132 : ∀ (c20 : Nat → Int32) (H : Heap) (locs : List Loc) (ls : Array Slot), K132 c20 = some (r, r_z, r_marksBlown) → va_P (dC, dI) vwCl (wX5 cyI cyC ob a1 a2 a3 a4 a5 a6 a7 a8 v_thrown c20 v_saved v_savedMany v_spare v_buffer v_typed v_marksBlown v_rests v_begins v_orders v_orderMany v_spot v_wrong v_isShort v_before v_hash) H → va_S (k_A (wX5 cyI cyC ob a1 a2 a3 a4 a5 a6 a7 a8 v_thrown v_z v_saved v_savedMany v_spare v_buffer v_typed v_marksBlown v_rests v_begins v_orders v_orderMany v_spot v_wrong v_isShort v_before v_hash)) s.heap H locs → lv_has ls 9 [(0, .ref ob), (1, .int p1), (2, .int p2), (3, .int p3), (4, .int x5), (5, .int x17)] → W p l e (k_rm 7 164) s m [.ref ob, .int p1, .int p2, .int p3].toArray below meth c H locs 0 0 (MQ below (qMI r (dC, dI) (wX5 cyI cyC ob a1 a2 a3 a4 a5 a6 a7 a8 v_thrown v_z v_saved v_savedMany v_spare v_buffer v_typed v_marksBlown v_rests v_begins v_orders v_orderMany v_spot v_wrong v_isShort v_before v_hash) (wX5 cyI cyC ob a1 a2 a3 a4 a5 a6 a7 a8 v_thrown r_z v_saved v_savedMany v_spare v_buffer v_typed r_marksBlown v_rests v_begins v_orders v_orderMany v_spot v_wrong v_isShort v_before v_hash)) [.ref ob, .int p1, .int p2, .int p3].toArray s 0 0 (k_A (wX5 cyI cyC ob a1 a2 a3 a4 a5 a6 a7 a8 v_thrown v_z v_saved v_savedMany v_spare v_buffer v_typed v_marksBlown v_rests v_begins v_orders v_orderMany v_spot v_wrong v_isShort v_before v_hash))) (F0 m 132 ls []) := by
          intro c20 H locs ls h hP hS hl
          have hD : va_D (k_A (wX5 cyI cyC ob a1 a2 a3 a4 a5 a6 a7 a8 v_thrown v_z v_saved v_savedMany v_spare v_buffer v_typed v_marksBlown v_rests v_begins v_orders v_orderMany v_spot v_wrong v_isShort v_before v_hash)) (wX5 cyI cyC ob a1 a2 a3 a4 a5 a6 a7 a8 v_thrown c20 v_saved v_savedMany v_spare v_buffer v_typed v_marksBlown v_rests v_begins v_orders v_orderMany v_spot v_wrong v_isShort v_before v_hash) := k_Dm hD rfl
          have h := k_a1 hK132 h
          refine g_iinc (dv := 1) hx hb dX5_putInto_132 hl (j := 5) rfl (by decide) (by decide) h (fun x21 ls h hl => ?_)
          have hl : lv_has ls 9 [(5, .int x21), (0, .ref ob), (1, .int p1), (2, .int p2), (3, .int p3), (4, .int x5)] := hl
          refine lv_iload hx hb dX5_putInto_135 (lv_at hl 0 rfl) ?_
          refine lv_aload_n hx hb dX5_putInto_137 rfl (lv_at hl 1 rfl) ?_
          refine va_get (D := (dC, dI)) (ci := 4) (v := .ref a1) (C := RX5) (T := TX5) (N := 17) hx hb hts iaX5 hown hK hP 0 rfl rfl 1 (by decide) (hts _ q717) (fun _ h9 => h9) rfl dX5_putInto_138 ?_
          refine lv_iconst (v := 5) hx hb dX5_putInto_141 (by decide) ?_
          refine g_iald hx hb hK hP 1 0 rfl rfl dX5_putInto_142 h (fun x22 h => ?_)
          obtain ⟨K161, hK161, h⟩ := k_j1_e h
          have J161 : ∀ (x23 : Int32) (H : Heap) (locs : List Loc) (ls : Array Slot), K161 x23 = some (r, r_z, r_marksBlown) → va_P (dC, dI) vwCl (wX5 cyI cyC ob a1 a2 a3 a4 a5 a6 a7 a8 v_thrown c20 v_saved v_savedMany v_spare v_buffer v_typed v_marksBlown v_rests v_begins v_orders v_orderMany v_spot v_wrong v_isShort v_before v_hash) H → va_S (k_A (wX5 cyI cyC ob a1 a2 a3 a4 a5 a6 a7 a8 v_thrown v_z v_saved v_savedMany v_spare v_buffer v_typed v_marksBlown v_rests v_begins v_orders v_orderMany v_spot v_wrong v_isShort v_before v_hash)) s.heap H locs → lv_has ls 9 [(0, .ref ob), (1, .int p1), (2, .int p2), (3, .int p3), (4, .int x5), (5, .int x21)] → W p l e (k_rm 7 164) s m [.ref ob, .int p1, .int p2, .int p3].toArray below meth c H locs 0 0 (MQ below (qMI r (dC, dI) (wX5 cyI cyC ob a1 a2 a3 a4 a5 a6 a7 a8 v_thrown v_z v_saved v_savedMany v_spare v_buffer v_typed v_marksBlown v_rests v_begins v_orders v_orderMany v_spot v_wrong v_isShort v_before v_hash) (wX5 cyI cyC ob a1 a2 a3 a4 a5 a6 a7 a8 v_thrown r_z v_saved v_savedMany v_spare v_buffer v_typed r_marksBlown v_rests v_begins v_orders v_orderMany v_spot v_wrong v_isShort v_before v_hash)) [.ref ob, .int p1, .int p2, .int p3].toArray s 0 0 (k_A (wX5 cyI cyC ob a1 a2 a3 a4 a5 a6 a7 a8 v_thrown v_z v_saved v_savedMany v_spare v_buffer v_typed v_marksBlown v_rests v_begins v_orders v_orderMany v_spot v_wrong v_isShort v_before v_hash))) (F0 m 161 ls [.int x23]) := by
            intro x23 H locs ls h hP hS hl
            have h := k_a1 hK161 h
            refine lv_istore (lv' := [(6, .int x23), (0, .ref ob), (1, .int p1), (2, .int p2), (3, .int p3), (4, .int x5), (5, .int x21)]) hx hb dX5_putInto_161 hl (by decide) rfl (fun ls hl => ?_)
            refine lv_goto (tgt := 26) hx hb dX5_putInto_163 (by decide) ?_
            exact ih26 x21 x23 c20 _ _ _ h hP hS (lv_sub hl [1, 2, 3, 4, 5, 6, 0] rfl)
          refine g_icmp_ge (tgt := 160) hx hb dX5_putInto_143 (by decide) h (fun h => ?_) (fun h => ?_)
          · refine lv_iconst (v := 0) hx hb dX5_putInto_160 (by decide) ?_
            exact J161 0 _ _ _ h hP hS (lv_sub hl [1, 2, 3, 4, 5, 0] rfl)
          · refine lv_aload_n hx hb dX5_putInto_146 rfl (lv_at hl 1 rfl) ?_
            refine lv_iload_n hx hb dX5_putInto_147 rfl (lv_at hl 2 rfl) ?_
            refine lv_iload_n hx hb dX5_putInto_148 rfl (lv_at hl 3 rfl) ?_
            refine lv_iload_n hx hb dX5_putInto_149 rfl (lv_at hl 4 rfl) ?_
            obtain ⟨x24, hc150, h⟩ := k_b1_e h
            refine g_callRI_V (As := [.int p1, .int p2, .int p3]) (rest := []) hC (mX5_readsAs l dC dI cyI cyC cyO ob a1 a2 a3 a4 a5 a6 a7 a8 v_thrown c20 v_saved v_savedMany v_spare v_buffer v_typed v_marksBlown v_rests v_begins v_orders v_orderMany v_spot v_wrong v_isShort v_before v_hash p1 p2 p3 hc150) q803 q804 q27 q75 q805 3 hdX5_readsAs ⟨Nat.le_of_ble_eq_true rfl, Nat.le_of_ble_eq_true rfl⟩ ⟨Nat.le_of_ble_eq_true rfl, Nat.le_of_ble_eq_true rfl⟩ rfl rfl hl.1 (Nat.le_of_ble_eq_true rfl) hP hK (va_recv hK hP (ci := 4) (q0 := 0) rfl rfl) hS dX5_putInto_150 (fun H locs hk hS => ?_)
            have hP := k_kept hP hk
            refine g_if_ne (tgt := 160) hx hb dX5_putInto_153 (by decide) h (fun h => ?_) (fun h => ?_)
            · refine lv_iconst (v := 0) hx hb dX5_putInto_160 (by decide) ?_
              exact J161 0 _ _ _ h hP hS (lv_sub hl [1, 2, 3, 4, 5, 0] rfl)
            · refine lv_iconst (v := 1) hx hb dX5_putInto_156 (by decide) ?_
              refine lv_goto (tgt := 161) hx hb dX5_putInto_157 (by decide) ?_
              exact J161 1 _ _ _ h hP hS (lv_sub hl [1, 2, 3, 4, 5, 0] rfl)
        obtain ⟨S34, hS34⟩ : ∃ z, z = (fX5_putInto_s34 K132 x5 p1 x17) := ⟨_, rfl⟩
        rw [← hS34] at h
        have L34 : ∀ (n : Nat) (x25 : Int32) (c26 : Nat → Int32) (H : Heap) (locs : List Loc) (ls : Array Slot), k_l2 S34 n x25 c26 = some (r, r_z, r_marksBlown) → va_P (dC, dI) vwCl (wX5 cyI cyC ob a1 a2 a3 a4 a5 a6 a7 a8 v_thrown c26 v_saved v_savedMany v_spare v_buffer v_typed v_marksBlown v_rests v_begins v_orders v_orderMany v_spot v_wrong v_isShort v_before v_hash) H → va_S (k_A (wX5 cyI cyC ob a1 a2 a3 a4 a5 a6 a7 a8 v_thrown v_z v_saved v_savedMany v_spare v_buffer v_typed v_marksBlown v_rests v_begins v_orders v_orderMany v_spot v_wrong v_isShort v_before v_hash)) s.heap H locs → lv_has ls 9 [(0, .ref ob), (1, .int p1), (2, .int p2), (3, .int p3), (4, .int x5), (5, .int x17), (7, .int x25)] → W p l e (k_rm 7 164) s m [.ref ob, .int p1, .int p2, .int p3].toArray below meth c H locs 0 0 (MQ below (qMI r (dC, dI) (wX5 cyI cyC ob a1 a2 a3 a4 a5 a6 a7 a8 v_thrown v_z v_saved v_savedMany v_spare v_buffer v_typed v_marksBlown v_rests v_begins v_orders v_orderMany v_spot v_wrong v_isShort v_before v_hash) (wX5 cyI cyC ob a1 a2 a3 a4 a5 a6 a7 a8 v_thrown r_z v_saved v_savedMany v_spare v_buffer v_typed r_marksBlown v_rests v_begins v_orders v_orderMany v_spot v_wrong v_isShort v_before v_hash)) [.ref ob, .int p1, .int p2, .int p3].toArray s 0 0 (k_A (wX5 cyI cyC ob a1 a2 a3 a4 a5 a6 a7 a8 v_thrown v_z v_saved v_savedMany v_spare v_buffer v_typed v_marksBlown v_rests v_begins v_orders v_orderMany v_spot v_wrong v_isShort v_before v_hash))) (F0 m 34 ls []) := by
          intro n
          induction n with
          | zero =>
            intro x25 c26 H locs ls h
            exact (k_l2_0 h).elim
          | succ n ih34 =>
            intro x25 c26 H locs ls h hP hS hl
            have hD : va_D (k_A (wX5 cyI cyC ob a1 a2 a3 a4 a5 a6 a7 a8 v_thrown v_z v_saved v_savedMany v_spare v_buffer v_typed v_marksBlown v_rests v_begins v_orders v_orderMany v_spot v_wrong v_isShort v_before v_hash)) (wX5 cyI cyC ob a1 a2 a3 a4 a5 a6 a7 a8 v_thrown c26 v_saved v_savedMany v_spare v_buffer v_typed v_marksBlown v_rests v_begins v_orders v_orderMany v_spot v_wrong v_isShort v_before v_hash) := k_Dm hD rfl
            have h := k_l2_s h
            have h := k_a3 hS34 h
            unfold fX5_putInto_s34 at h
            refine lv_iload hx hb dX5_putInto_34 (lv_at hl 6 rfl) ?_
            refine lv_bipush (v := 16) hx hb dX5_putInto_36 (by decide) ?_
            refine g_icmp_ge (tgt := 132) hx hb dX5_putInto_38 (by decide) h (fun h => ?_) (fun h => ?_)
            · exact J132 c26 _ _ _ h hP hS (lv_sub hl [0, 1, 2, 3, 4, 5] rfl)
            · refine lv_iload hx hb dX5_putInto_41 (lv_at hl 4 rfl) ?_
              refine lv_iload hx hb dX5_putInto_43 (lv_at hl 6 rfl) ?_
              refine g_ishr hx hb dX5_putInto_45 h (fun x27 h => ?_)
              refine lv_iconst (v := 1) hx hb dX5_putInto_46 (by decide) ?_
              refine g_iand hx hb dX5_putInto_47 h (fun x28 h => ?_)
              refine lv_iconst (v := 1) hx hb dX5_putInto_48 (by decide) ?_
              obtain ⟨K57, hK57, h⟩ := k_j1_e h
              have J57 : ∀ (x29 : Int32) (H : Heap) (locs : List Loc) (ls : Array Slot), K57 x29 = some (r, r_z, r_marksBlown) → va_P (dC, dI) vwCl (wX5 cyI cyC ob a1 a2 a3 a4 a5 a6 a7 a8 v_thrown c26 v_saved v_savedMany v_spare v_buffer v_typed v_marksBlown v_rests v_begins v_orders v_orderMany v_spot v_wrong v_isShort v_before v_hash) H → va_S (k_A (wX5 cyI cyC ob a1 a2 a3 a4 a5 a6 a7 a8 v_thrown v_z v_saved v_savedMany v_spare v_buffer v_typed v_marksBlown v_rests v_begins v_orders v_orderMany v_spot v_wrong v_isShort v_before v_hash)) s.heap H locs → lv_has ls 9 [(0, .ref ob), (1, .int p1), (2, .int p2), (3, .int p3), (4, .int x5), (5, .int x17), (7, .int x25)] → W p l e (k_rm 7 164) s m [.ref ob, .int p1, .int p2, .int p3].toArray below meth c H locs 0 0 (MQ below (qMI r (dC, dI) (wX5 cyI cyC ob a1 a2 a3 a4 a5 a6 a7 a8 v_thrown v_z v_saved v_savedMany v_spare v_buffer v_typed v_marksBlown v_rests v_begins v_orders v_orderMany v_spot v_wrong v_isShort v_before v_hash) (wX5 cyI cyC ob a1 a2 a3 a4 a5 a6 a7 a8 v_thrown r_z v_saved v_savedMany v_spare v_buffer v_typed r_marksBlown v_rests v_begins v_orders v_orderMany v_spot v_wrong v_isShort v_before v_hash)) [.ref ob, .int p1, .int p2, .int p3].toArray s 0 0 (k_A (wX5 cyI cyC ob a1 a2 a3 a4 a5 a6 a7 a8 v_thrown v_z v_saved v_savedMany v_spare v_buffer v_typed v_marksBlown v_rests v_begins v_orders v_orderMany v_spot v_wrong v_isShort v_before v_hash))) (F0 m 57 ls [.int x29]) := by
                intro x29 H locs ls h hP hS hl
                have h := k_a1 hK57 h
                refine lv_istore (lv' := [(8, .int x29), (0, .ref ob), (1, .int p1), (2, .int p2), (3, .int p3), (4, .int x5), (5, .int x17), (7, .int x25)]) hx hb dX5_putInto_57 hl (by decide) rfl (fun ls hl => ?_)
                refine lv_iload hx hb dX5_putInto_59 (lv_at hl 0 rfl) ?_
                obtain ⟨K126, hK126, h⟩ := k_j1_e h
                have J126 : ∀ (c30 : Nat → Int32) (H : Heap) (locs : List Loc) (ls : Array Slot), K126 c30 = some (r, r_z, r_marksBlown) → va_P (dC, dI) vwCl (wX5 cyI cyC ob a1 a2 a3 a4 a5 a6 a7 a8 v_thrown c30 v_saved v_savedMany v_spare v_buffer v_typed v_marksBlown v_rests v_begins v_orders v_orderMany v_spot v_wrong v_isShort v_before v_hash) H → va_S (k_A (wX5 cyI cyC ob a1 a2 a3 a4 a5 a6 a7 a8 v_thrown v_z v_saved v_savedMany v_spare v_buffer v_typed v_marksBlown v_rests v_begins v_orders v_orderMany v_spot v_wrong v_isShort v_before v_hash)) s.heap H locs → lv_has ls 9 [(0, .ref ob), (1, .int p1), (2, .int p2), (3, .int p3), (4, .int x5), (5, .int x17), (7, .int x25)] → W p l e (k_rm 7 164) s m [.ref ob, .int p1, .int p2, .int p3].toArray below meth c H locs 0 0 (MQ below (qMI r (dC, dI) (wX5 cyI cyC ob a1 a2 a3 a4 a5 a6 a7 a8 v_thrown v_z v_saved v_savedMany v_spare v_buffer v_typed v_marksBlown v_rests v_begins v_orders v_orderMany v_spot v_wrong v_isShort v_before v_hash) (wX5 cyI cyC ob a1 a2 a3 a4 a5 a6 a7 a8 v_thrown r_z v_saved v_savedMany v_spare v_buffer v_typed r_marksBlown v_rests v_begins v_orders v_orderMany v_spot v_wrong v_isShort v_before v_hash)) [.ref ob, .int p1, .int p2, .int p3].toArray s 0 0 (k_A (wX5 cyI cyC ob a1 a2 a3 a4 a5 a6 a7 a8 v_thrown v_z v_saved v_savedMany v_spare v_buffer v_typed v_marksBlown v_rests v_begins v_orders v_orderMany v_spot v_wrong v_isShort v_before v_hash))) (F0 m 126 ls []) := by
                  intro c30 H locs ls h hP hS hl
                  have hD : va_D (k_A (wX5 cyI cyC ob a1 a2 a3 a4 a5 a6 a7 a8 v_thrown v_z v_saved v_savedMany v_spare v_buffer v_typed v_marksBlown v_rests v_begins v_orders v_orderMany v_spot v_wrong v_isShort v_before v_hash)) (wX5 cyI cyC ob a1 a2 a3 a4 a5 a6 a7 a8 v_thrown c30 v_saved v_savedMany v_spare v_buffer v_typed v_marksBlown v_rests v_begins v_orders v_orderMany v_spot v_wrong v_isShort v_before v_hash) := k_Dm hD rfl
                  have h := k_a1 hK126 h
                  refine g_iinc (dv := 1) hx hb dX5_putInto_126 hl (j := 6) rfl (by decide) (by decide) h (fun x31 ls h hl => ?_)
                  have hl : lv_has ls 9 [(7, .int x31), (0, .ref ob), (1, .int p1), (2, .int p2), (3, .int p3), (4, .int x5), (5, .int x17)] := hl
                  refine lv_goto (tgt := 34) hx hb dX5_putInto_129 (by decide) ?_
                  exact ih34 x31 c30 _ _ _ h hP hS (lv_sub hl [1, 2, 3, 4, 5, 6, 0] rfl)
                obtain ⟨K85, hK85, h⟩ := k_j0_e h
                have J85 : ∀ (H : Heap) (locs : List Loc) (ls : Array Slot), K85 = some (r, r_z, r_marksBlown) → va_P (dC, dI) vwCl (wX5 cyI cyC ob a1 a2 a3 a4 a5 a6 a7 a8 v_thrown c26 v_saved v_savedMany v_spare v_buffer v_typed v_marksBlown v_rests v_begins v_orders v_orderMany v_spot v_wrong v_isShort v_before v_hash) H → va_S (k_A (wX5 cyI cyC ob a1 a2 a3 a4 a5 a6 a7 a8 v_thrown v_z v_saved v_savedMany v_spare v_buffer v_typed v_marksBlown v_rests v_begins v_orders v_orderMany v_spot v_wrong v_isShort v_before v_hash)) s.heap H locs → lv_has ls 9 [(0, .ref ob), (1, .int p1), (2, .int p2), (3, .int p3), (4, .int x5), (5, .int x17), (7, .int x25), (8, .int x29)] → W p l e (k_rm 7 164) s m [.ref ob, .int p1, .int p2, .int p3].toArray below meth c H locs 0 0 (MQ below (qMI r (dC, dI) (wX5 cyI cyC ob a1 a2 a3 a4 a5 a6 a7 a8 v_thrown v_z v_saved v_savedMany v_spare v_buffer v_typed v_marksBlown v_rests v_begins v_orders v_orderMany v_spot v_wrong v_isShort v_before v_hash) (wX5 cyI cyC ob a1 a2 a3 a4 a5 a6 a7 a8 v_thrown r_z v_saved v_savedMany v_spare v_buffer v_typed r_marksBlown v_rests v_begins v_orders v_orderMany v_spot v_wrong v_isShort v_before v_hash)) [.ref ob, .int p1, .int p2, .int p3].toArray s 0 0 (k_A (wX5 cyI cyC ob a1 a2 a3 a4 a5 a6 a7 a8 v_thrown v_z v_saved v_savedMany v_spare v_buffer v_typed v_marksBlown v_rests v_begins v_orders v_orderMany v_spot v_wrong v_isShort v_before v_hash))) (F0 m 85 ls []) := by
                  intro  H locs ls h hP hS hl
                  have h := k_a0 hK85 h
                  refine lv_iload hx hb dX5_putInto_85 (lv_at hl 7 rfl) ?_
                  refine g_if_eq (tgt := 126) hx hb dX5_putInto_87 (by decide) h (fun h => ?_) (fun h => ?_)
                  · exact J126 c26 _ _ _ h hP hS (lv_sub hl [0, 1, 2, 3, 4, 5, 6] rfl)
                  · refine lv_aload_n hx hb dX5_putInto_90 rfl (lv_at hl 0 rfl) ?_
                    refine lv_iload_n hx hb dX5_putInto_91 rfl (lv_at hl 1 rfl) ?_
                    refine lv_iload hx hb dX5_putInto_92 (lv_at hl 6 rfl) ?_
                    refine lv_aload_n hx hb dX5_putInto_94 rfl (lv_at hl 0 rfl) ?_
                    refine va_get (D := (dC, dI)) (ci := 4) (v := .ref a1) (C := RX5) (T := TX5) (N := 17) hx hb hts iaX5 hown hK hP 0 rfl rfl 1 (by decide) (hts _ q717) (fun _ h9 => h9) rfl dX5_putInto_95 ?_
                    refine lv_iconst (v := 0) hx hb dX5_putInto_98 (by decide) ?_
                    refine g_iald hx hb hK hP 1 0 rfl rfl dX5_putInto_99 h (fun x32 h => ?_)
                    refine lv_aload_n hx hb dX5_putInto_100 rfl (lv_at hl 0 rfl) ?_
                    obtain ⟨x33, hc101, h⟩ := k_b1_e h
                    refine g_callRI_V (As := []) (rest := [.int x32, .int x25, .int p1, .ref ob]) hC (mX5_isThriceNow l dC dI cyI cyC cyO ob a1 a2 a3 a4 a5 a6 a7 a8 v_thrown c26 v_saved v_savedMany v_spare v_buffer v_typed v_marksBlown v_rests v_begins v_orders v_orderMany v_spot v_wrong v_isShort v_before v_hash hc101) q785 q786 q23 q75 q787 0 hdX5_isThriceNow ⟨Nat.le_of_ble_eq_true rfl, Nat.le_of_ble_eq_true rfl⟩ ⟨Nat.le_of_ble_eq_true rfl, Nat.le_of_ble_eq_true rfl⟩ rfl rfl hl.1 (Nat.le_of_ble_eq_true rfl) hP hK (va_recv hK hP (ci := 4) (q0 := 0) rfl rfl) hS dX5_putInto_101 (fun H locs hk hS => ?_)
                    have hP := k_kept hP hk
                    obtain ⟨x34, hc104, h⟩ := k_b1_e h
                    refine g_callRI_V (As := [.int p1, .int x25, .int x32, .int x33]) (rest := []) hC (mX5_reads l dC dI cyI cyC cyO ob a1 a2 a3 a4 a5 a6 a7 a8 v_thrown c26 v_saved v_savedMany v_spare v_buffer v_typed v_marksBlown v_rests v_begins v_orders v_orderMany v_spot v_wrong v_isShort v_before v_hash p1 x25 x32 x33 hc104) q791 q792 q25 q75 q793 4 hdX5_reads ⟨Nat.le_of_ble_eq_true rfl, Nat.le_of_ble_eq_true rfl⟩ ⟨Nat.le_of_ble_eq_true rfl, Nat.le_of_ble_eq_true rfl⟩ rfl rfl hl.1 (Nat.le_of_ble_eq_true rfl) hP hK (va_recv hK hP (ci := 4) (q0 := 0) rfl rfl) hS dX5_putInto_104 (fun H locs hk hS => ?_)
                    have hP := k_kept hP hk
                    refine g_if_ne (tgt := 126) hx hb dX5_putInto_107 (by decide) h (fun h => ?_) (fun h => ?_)
                    · exact J126 c26 _ _ _ h hP hS (lv_sub hl [0, 1, 2, 3, 4, 5, 6] rfl)
                    · refine lv_aload_n hx hb dX5_putInto_110 rfl (lv_at hl 0 rfl) ?_
                      refine lv_iload_n hx hb dX5_putInto_111 rfl (lv_at hl 1 rfl) ?_
                      refine lv_iload hx hb dX5_putInto_112 (lv_at hl 6 rfl) ?_
                      refine lv_aload_n hx hb dX5_putInto_114 rfl (lv_at hl 0 rfl) ?_
                      refine lv_iload_n hx hb dX5_putInto_115 rfl (lv_at hl 1 rfl) ?_
                      refine lv_iload hx hb dX5_putInto_116 (lv_at hl 6 rfl) ?_
                      obtain ⟨x35, hc118, h⟩ := k_b1_e h
                      refine g_callRI_V (As := [.int p1, .int x25]) (rest := [.int x25, .int p1, .ref ob]) hC (mX5_strength l dC dI cyI cyC cyO ob a1 a2 a3 a4 a5 a6 a7 a8 v_thrown c26 v_saved v_savedMany v_spare v_buffer v_typed v_marksBlown v_rests v_begins v_orders v_orderMany v_spot v_wrong v_isShort v_before v_hash p1 x25 hc118) q760 q761 q17 q75 q762 2 hdX5_strength ⟨Nat.le_of_ble_eq_true rfl, Nat.le_of_ble_eq_true rfl⟩ ⟨Nat.le_of_ble_eq_true rfl, Nat.le_of_ble_eq_true rfl⟩ rfl rfl hl.1 (Nat.le_of_ble_eq_true rfl) hP hK (va_recv hK hP (ci := 4) (q0 := 0) rfl rfl) hS dX5_putInto_118 (fun H locs hk hS => ?_)
                      have hP := k_kept hP hk
                      refine lv_iconst (v := 1) hx hb dX5_putInto_121 (by decide) ?_
                      refine g_iadd hx hb dX5_putInto_122 h (fun x36 h => ?_)
                      obtain ⟨c37, hc123, h⟩ := k_b1_e h
                      refine g_callMV_V (As := [.int p1, .int x25, .int x36]) (rest := []) hC (mX5_blowOne l dC dI cyI cyC cyO ob a1 a2 a3 a4 a5 a6 a7 a8 v_thrown c26 v_saved v_savedMany v_spare v_buffer v_typed v_marksBlown v_rests v_begins v_orders v_orderMany v_spot v_wrong v_isShort v_before v_hash p1 x25 x36 hc123) q766 q767 q19 q75 q768 3 hdX5_blowOne ⟨Nat.le_of_ble_eq_true rfl, Nat.le_of_ble_eq_true rfl⟩ ⟨Nat.le_of_ble_eq_true rfl, Nat.le_of_ble_eq_true rfl⟩ rfl rfl hl.1 (Nat.le_of_ble_eq_true rfl) hP hK hD (va_recv hK hP (ci := 4) (q0 := 0) rfl rfl) hS dX5_putInto_123 (fun H locs hPn hk hS => ?_)
                      have hP : va_P (dC, dI) vwCl (wX5 cyI cyC ob a1 a2 a3 a4 a5 a6 a7 a8 v_thrown c37 v_saved v_savedMany v_spare v_buffer v_typed v_marksBlown v_rests v_begins v_orders v_orderMany v_spot v_wrong v_isShort v_before v_hash) H := hPn
                      have hD : va_D (k_A (wX5 cyI cyC ob a1 a2 a3 a4 a5 a6 a7 a8 v_thrown v_z v_saved v_savedMany v_spare v_buffer v_typed v_marksBlown v_rests v_begins v_orders v_orderMany v_spot v_wrong v_isShort v_before v_hash)) (wX5 cyI cyC ob a1 a2 a3 a4 a5 a6 a7 a8 v_thrown c37 v_saved v_savedMany v_spare v_buffer v_typed v_marksBlown v_rests v_begins v_orders v_orderMany v_spot v_wrong v_isShort v_before v_hash) := k_Dm hD rfl
                      exact J126 c37 _ _ _ h hP hS (lv_sub hl [0, 1, 2, 3, 4, 5, 6] rfl)
                refine g_if_eq (tgt := 85) hx hb dX5_putInto_61 (by decide) h (fun h => ?_) (fun h => ?_)
                · exact J85  _ _ _ h hP hS (lv_sub hl [1, 2, 3, 4, 5, 6, 7, 0] rfl)
                · refine lv_iload hx hb dX5_putInto_64 (lv_at hl 6 rfl) ?_
                  refine g_if_ne (tgt := 85) hx hb dX5_putInto_66 (by decide) h (fun h => ?_) (fun h => ?_)
                  · exact J85  _ _ _ h hP hS (lv_sub hl [1, 2, 3, 4, 5, 6, 7, 0] rfl)
                  · refine lv_aload_n hx hb dX5_putInto_69 rfl (lv_at hl 1 rfl) ?_
                    refine lv_iload_n hx hb dX5_putInto_70 rfl (lv_at hl 2 rfl) ?_
                    refine lv_iload hx hb dX5_putInto_71 (lv_at hl 7 rfl) ?_
                    refine lv_aload_n hx hb dX5_putInto_73 rfl (lv_at hl 1 rfl) ?_
                    refine va_get (D := (dC, dI)) (ci := 4) (v := .ref a1) (C := RX5) (T := TX5) (N := 17) hx hb hts iaX5 hown hK hP 0 rfl rfl 1 (by decide) (hts _ q717) (fun _ h9 => h9) rfl dX5_putInto_74 ?_
                    refine lv_iconst (v := 4) hx hb dX5_putInto_77 (by decide) ?_
                    refine g_iald hx hb hK hP 1 0 rfl rfl dX5_putInto_78 h (fun x38 h => ?_)
                    obtain ⟨c39, hc79, h⟩ := k_b1_e h
                    refine g_callMV_V (As := [.int p1, .int x25, .int x38]) (rest := []) hC (mX5_blowOne l dC dI cyI cyC cyO ob a1 a2 a3 a4 a5 a6 a7 a8 v_thrown c26 v_saved v_savedMany v_spare v_buffer v_typed v_marksBlown v_rests v_begins v_orders v_orderMany v_spot v_wrong v_isShort v_before v_hash p1 x25 x38 hc79) q766 q767 q19 q75 q768 3 hdX5_blowOne ⟨Nat.le_of_ble_eq_true rfl, Nat.le_of_ble_eq_true rfl⟩ ⟨Nat.le_of_ble_eq_true rfl, Nat.le_of_ble_eq_true rfl⟩ rfl rfl hl.1 (Nat.le_of_ble_eq_true rfl) hP hK hD (va_recv hK hP (ci := 4) (q0 := 0) rfl rfl) hS dX5_putInto_79 (fun H locs hPn hk hS => ?_)
                    have hP : va_P (dC, dI) vwCl (wX5 cyI cyC ob a1 a2 a3 a4 a5 a6 a7 a8 v_thrown c39 v_saved v_savedMany v_spare v_buffer v_typed v_marksBlown v_rests v_begins v_orders v_orderMany v_spot v_wrong v_isShort v_before v_hash) H := hPn
                    have hD : va_D (k_A (wX5 cyI cyC ob a1 a2 a3 a4 a5 a6 a7 a8 v_thrown v_z v_saved v_savedMany v_spare v_buffer v_typed v_marksBlown v_rests v_begins v_orders v_orderMany v_spot v_wrong v_isShort v_before v_hash)) (wX5 cyI cyC ob a1 a2 a3 a4 a5 a6 a7 a8 v_thrown c39 v_saved v_savedMany v_spare v_buffer v_typed v_marksBlown v_rests v_begins v_orders v_orderMany v_spot v_wrong v_isShort v_before v_hash) := k_Dm hD rfl
                    refine lv_goto (tgt := 126) hx hb dX5_putInto_82 (by decide) ?_
                    exact J126 c39 _ _ _ h hP hS (lv_sub hl [1, 2, 3, 4, 5, 6, 7] rfl)
              refine g_icmp_ne (tgt := 56) hx hb dX5_putInto_49 (by decide) h (fun h => ?_) (fun h => ?_)
              · refine lv_iconst (v := 0) hx hb dX5_putInto_56 (by decide) ?_
                exact J57 0 _ _ _ h hP hS (lv_sub hl [0, 1, 2, 3, 4, 5, 6] rfl)
              · refine lv_iconst (v := 1) hx hb dX5_putInto_52 (by decide) ?_
                refine lv_goto (tgt := 57) hx hb dX5_putInto_53 (by decide) ?_
                exact J57 1 _ _ _ h hP hS (lv_sub hl [0, 1, 2, 3, 4, 5, 6] rfl)
        exact L34 5000 0 c19 _ _ _ h hP hS (lv_sub hl [1, 2, 3, 4, 5, 6, 0] rfl)
  exact L26 5000 0 1 v_z _ _ _ h hP hS (lv_sub hl [3, 4, 5, 6, 2, 1, 0] rfl)
