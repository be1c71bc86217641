/-! the law's helpers -/
abbrev MetX (l : Launch) (y : MethodName) (c : ByteArray) (n : Nat) (rt : Option FieldType) (f L : Nat) (As : List Value) (b sL : Nat) (xs : Nat → Int32) (r : Int32) : Prop := Met l y (wM y c n rt) (k_rm f L) (va_Pc As (fun U => va_X b sL xs U U.heap)) (qRI r) 0 0 kF
theorem va_X_lt {b sL : Nat} {xs : Nat → Int32} {U : State} {H : Heap} (h : va_X b sL xs U H) : b < H.size := (Array.getElem?_eq_some_iff.mp h.choose_spec.1).1
theorem metX_of {l : Launch} {y : MethodName} {cc : ByteArray} {n : Nat} {rt : Option FieldType} {f L : Nat} {As : List Value} {b sL : Nat} {xs : Nat → Int32} {r : Int32} (hy : plainName y.cls = true) (hn : (lg_sl As).length ≤ n)
    (body : ∀ (p : Program) (e : Env) (s : State) (m : MethodId) (below : List Frame) (meth : Method) (c : Code) (ls : Array Slot), CallFix p m c cc n s As.toArray wA y.cls → meth.sig.returnType = rt → meth.locks = false → va_X b sL xs s s.heap → lv_has ls n (lv_args 0 As) →
      W p l e (k_rm f L) s m As.toArray below meth c s.heap [] 0 0 (MQ below (qRI r) As.toArray s 0 0 kF) (F0 m 0 ls [])) : MetX l y cc n rt f L As b sL xs r := by
  refine Met.ofW (cc := cc) (maxL := n) (ret := rt) hy rfl ?_
  intro p e s m args below meth c s₁ B hml hv
  obtain ⟨rfl, hv⟩ := hv
  have hts := atoms_spec (ws := wM y cc n rt) B.pre
  have hown : s.vm.findClass y.cls = some m.cls := findClass_of_methodNamed B.named
  rw [lg_entry_eq]
  exact body p e s m below meth c _ ⟨B.exec, B.bytes, hml, hown, fun w h => hts w (List.mem_cons_of_mem _ h)⟩ B.returns B.notSynchronized hv (lv_entry As hn)
theorem k_01 (h : some (0 : Int32) = some 1) : False := by cases h
section KX
variable {p : Program} {l : Launch} {e : Env} {R : Room} {s : State} {m : MethodId} {args : Array Value} {below : List Frame} {meth : Method} {c : Code} {H : Heap} {locs : List Loc} {cells slots : Nat} {Q : State → Prop}
variable {cc : ByteArray} {pc nL : Nat} {ls : Array Slot} {rest st0 As : List Value} {own C : String} {index maxL f L b sL : Nat} {xs : Nat → Int32} {y : MethodName} {bytes : ByteArray} {ret : Option FieldType} {A0 A : Nat → Prop} {β : Type}
theorem g_sld (hx : p.tables.exec = Jvm.exec) (hb : c.code = cc) {H0 : Heap} (hX : va_X b sL xs s H0) (hbl : b < H0.size) (hbA : ¬ A b) (hS : va_S A H0 H locs) {i : Int32} (d : decode cc pc = .ok (.iaload, 1)) {F : Int32 → Option β} {r : β} (h : k_ck i sL (k_let (xs i.toNatClampNeg) F) = some r) (k : ∀ z : Int32, F z = some r → W p l e R s m args below meth c H locs cells slots Q (F0 m (pc + 1) ls (.int z :: rest))) : W p l e R s m args below meth c H locs cells slots Q (F0 m pc ls (.int i :: .ref b :: rest)) := va_sld hx hb hX hbl hbA hS (k_ck_e h).1 d (k _ (k_ck_e h).2)
theorem g_callX_S {r0 : Int32} (hC : CallFix p m c cc nL s args wA own) (hM : MetX l y bytes maxL ret f L As b sL xs r0) (q1 : (.methodLink own index y : Cond) ∈ wA) (q2 : (.static y : Cond) ∈ wA) (q4 : (.initialized y.cls : Cond) ∈ wA) (q5 : (.code y bytes maxL ret : Cond) ∈ wA) (n : Nat) (hd : y.cls ≠ "java/lang/invoke/MethodHandle" ∧ y.cls ≠ "java/lang/invoke/VarHandle" ∧ (parseMethodDescriptor y.desc).map (fun d => d.parameters.length) = some n) (hR : f + 1 ≤ R.frames ∧ 8 + (maxL + 11) + L ≤ R.locals) (hcs : cells + 0 ≤ R.cells ∧ slots + 0 ≤ R.slots) (hn : As.length = n) (hst : st0 = As.reverse ++ rest) (hlen : ls.size = nL) (hcat : (rest.map fun v => v.category).sum ≤ 8) (hX : va_X b sL xs s s.heap) (hbl : b < s.heap.size) (hbA : ¬ A0 b) (hS : va_S A0 s.heap H locs) (d : decode cc pc = .ok (.invokestatic index, 3))
    (kk : ∀ (H1 : Heap) (locs1 : List Loc), (∀ q : Nat, q < H.size → H1[q]? = H[q]?) → va_S A0 s.heap H1 locs1 → W p l e R s m args below meth c H1 locs1 cells slots Q (F0 m (pc + 3) ls (.int r0 :: rest))) : W p l e R s m args below meth c H locs cells slots Q (F0 m pc ls st0) :=
  va_calli (va_runS (As := As) (rest := rest) hC hM (va_cwS n hC.2.2.2.2 (wM_S q1 q2 q4 q5) rfl rfl rfl hd hR) ⟨fun a U g mk q => ⟨q.1, va_X.moved (u := U) (U := U.calling g mk a) (Vm.Alike.refl U.vm) q.2⟩, fun U hU hW => ⟨rfl, by show va_X b sL xs U U.heap; rw [hU]; exact va_X.moved hW.alike (va_X.kept hX (hS.2.1 b hbl hbA))⟩⟩ rfl hn (hlen : (F0 m pc ls st0).locals.size = nL) hst (lv_room hcat) d hcs) hS (fun q _ h => h.elim) (fun q h => h.elim) (fun r u t H1 locs1 ht hvm hw hB hz1 hk1 hS => by cases hw; exact kk H1 locs1 (fun q h => hk1 q h id) hS)
end KX
def fL_cell (sL : Nat) (xs : Nat → Int32) (k : Int32) : Option Int32 :=
  k_if (Int32.ofNat sL ≤ k)
  (k_let ((32452867 : Int32) * k) fun (z1 : Int32) =>
   k_let (z1 + 49979687) fun (z2 : Int32) =>
   some z2)
  (k_ck k sL <| k_let (xs k.toNatClampNeg) fun (z1 : Int32) =>
   some z1)
theorem hdL_cell : yL_cell.cls ≠ "java/lang/invoke/MethodHandle" ∧ yL_cell.cls ≠ "java/lang/invoke/VarHandle" ∧ (parseMethodDescriptor yL_cell.desc).map (fun d => d.parameters.length) = some 2 := by decide +kernel
set_option maxRecDepth 100000 in
theorem mL_cell (l : Launch) (b sL : Nat) (xs : Nat → Int32) (k : Int32) {r : Int32} (hf : fL_cell sL xs k = some r) : MetX l yL_cell cL_cell 2 (some .int) 0 0 [.ref b, .int k] b sL xs r := by
  refine metX_of (by decide) (Nat.le_of_ble_eq_true rfl) ?_
  intro p e s m below meth c ls hC hr hlk hX hl
  have hC : CallFix p m c cL_cell 2 s [.ref b, .int k].toArray wA RL := hC
  obtain ⟨hx, hb, hml, hown, hts⟩ := id hC
  have hS : va_S kF s.heap s.heap [] := va_S.rf
  have hl : lv_has ls 2 [(0, .ref b), (1, .int k)] := hl
  have hbl := va_X_lt hX
  have h := hf
  unfold fL_cell at h
  refine lv_iload_n hx hb dL_cell_0 rfl (lv_at hl 1 rfl) ?_
  refine lv_aload_n hx hb dL_cell_1 rfl (lv_at hl 0 rfl) ?_
  refine va_slen hx hb hX hbl (fun h => h) hS dL_cell_2 ?_
  refine g_icmp_ge (tgt := 12) hx hb dL_cell_3 (by decide) h (fun h => ?_) (fun h => ?_)
  · refine lv_ldc hx hb hown (hts _ q385) dL_cell_12 ?_
    refine lv_iload_n hx hb dL_cell_14 rfl (lv_at hl 1 rfl) ?_
    refine g_imul hx hb dL_cell_15 h (fun z1 h => ?_)
    refine lv_ldc hx hb hown (hts _ q386) dL_cell_16 ?_
    refine g_iadd hx hb dL_cell_18 h (fun z2 h => ?_)
    exact g_retRI hx hb hr hlk hS h dL_cell_19
  · refine lv_aload_n hx hb dL_cell_6 rfl (lv_at hl 0 rfl) ?_
    refine lv_iload_n hx hb dL_cell_7 rfl (lv_at hl 1 rfl) ?_
    refine g_sld hx hb hX hbl (fun h => h) hS dL_cell_8 h (fun z1 h => ?_)
    refine lv_goto (tgt := 19) hx hb dL_cell_9 (by decide) ?_
    exact g_retRI hx hb hr hlk hS h dL_cell_19
def fL_low (p0 : Int32) (p1 : Int32) : Option (Int32) :=
  k_let (p0 &&& 2147483647) fun (z1 : Int32) =>
  k_if (p1 = 0) none <|
  k_let (z1 - z1 / p1 * p1) fun (z2 : Int32) =>
  some z2
theorem hdL_low : yL_low.cls ≠ "java/lang/invoke/MethodHandle" ∧ yL_low.cls ≠ "java/lang/invoke/VarHandle" ∧ (parseMethodDescriptor yL_low.desc).map (fun d => d.parameters.length) = some 2 := by decide +kernel
set_option maxRecDepth 100000 in
set_option maxHeartbeats 4000000 in
theorem mL_low (l : Launch) (dC : Nat → ClassId) (dI : Nat → Nat → Nat) (cyI cyC cyO : ClassId)  (p0 : Int32) (p1 : Int32) {r : Int32} (hf : fL_low p0 p1 = some r) : MetRI l yL_low cL_low 2 (some .int) 0 0 [.int p0, .int p1] (dC, dI) (tyS cyI cyC cyO) [] r := by
  refine metRI_of (by decide) (Nat.le_of_ble_eq_true rfl) ?_
  intro p e s m below meth c ls hC hr hlk hP hK hl
  have hC : CallFix p m c cL_low 2 s [.int p0, .int p1].toArray wA RL := hC
  obtain ⟨hx, hb, hml, hown, hts⟩ := id hC
  have hS : va_S kF s.heap s.heap [] := va_S.rf
  have hl : lv_has ls 2 [(0, .int p0), (1, .int p1)] := hl
  have h := hf
  unfold fL_low at h
  obtain ⟨H, hH⟩ : ∃ H, H = s.heap := ⟨_, rfl⟩
  obtain ⟨locs, hlo⟩ : ∃ locs : List Loc, locs = [] := ⟨_, rfl⟩
  rw [← hH] at hP
  rw [← hlo] at hS
  have hS : va_S kF s.heap H locs := by rw [hH]; exact hS
  show W p l e (k_rm 0 0) s m [.int p0, .int p1].toArray below meth c s.heap [] 0 0 _ _
  rw [← hlo, ← hH]
  refine lv_iload_n hx hb dL_low_0 rfl (lv_at hl 0 rfl) ?_
  refine lv_ldc hx hb hown (hts _ q390) dL_low_1 ?_
  refine g_iand hx hb dL_low_3 h (fun z1 h => ?_)
  refine lv_iload_n hx hb dL_low_4 rfl (lv_at hl 1 rfl) ?_
  obtain ⟨hv, h⟩ := k_req_e h
  refine g_irem hx hb dL_low_5 hv h (fun z2 h => ?_)
  exact g_retRI hx hb hr hlk hS h dL_low_6
def fL_heat_s109 (K135 : Int32 → Option (Int32 × (Nat → Int32) × (Nat → Int32) × (Nat → Int32) × (Nat → Int32) × (Nat → Int32) × Int32 × Int32 × Int32 × (Nat → SV) × Int32 × Int32)) (c25 : Nat → Int32) (c26 : Nat → Int32) (n_settings : Nat → Int32) (n_tick : Int32) (rec109 : Int32 → Int32 → Option (Int32 × (Nat → Int32) × (Nat → Int32) × (Nat → Int32) × (Nat → Int32) × (Nat → Int32) × Int32 × Int32 × Int32 × (Nat → SV) × Int32 × Int32)) (z32 : Int32) (z33 : Int32) : Option (Int32 × (Nat → Int32) × (Nat → Int32) × (Nat → Int32) × (Nat → Int32) × (Nat → Int32) × Int32 × Int32 × Int32 × (Nat → SV) × Int32 × Int32) :=
  k_if (20 ≤ z33)
  (
    K135 z32)
  (
    k_b1 (fX4_row c25 c26 n_settings n_tick z33 8) fun (z34 : Int32) =>
    k_let (z32 - z34) fun (z35 : Int32) =>
    k_let (z33 + 1) fun (z36 : Int32) =>
    rec109 z35 z36)
def fL_heat_s36 (K62 : Int32 → Option (Int32 × (Nat → Int32) × (Nat → Int32) × (Nat → Int32) × (Nat → Int32) × (Nat → Int32) × Int32 × Int32 × Int32 × (Nat → SV) × Int32 × Int32)) (n_ones : Nat → Int32) (n_twos : Nat → Int32) (n_settings : Nat → Int32) (n_tick : Int32) (rec36 : Int32 → Int32 → Option (Int32 × (Nat → Int32) × (Nat → Int32) × (Nat → Int32) × (Nat → Int32) × (Nat → Int32) × Int32 × Int32 × Int32 × (Nat → SV) × Int32 × Int32)) (z37 : Int32) (z38 : Int32) : Option (Int32 × (Nat → Int32) × (Nat → Int32) × (Nat → Int32) × (Nat → Int32) × (Nat → Int32) × Int32 × Int32 × Int32 × (Nat → SV) × Int32 × Int32) :=
  k_if (20 ≤ z38)
  (
    K62 z37)
  (
    k_b1 (fX4_row n_ones n_twos n_settings n_tick z38 8) fun (z39 : Int32) =>
    k_let (z37 + z39) fun (z40 : Int32) =>
    k_let (z38 + 1) fun (z41 : Int32) =>
    rec36 z40 z41)
def fL_heat (n_ones : Nat → Int32) (n_twos : Nat → Int32) (n_settings : Nat → Int32) (n_tick : Int32) (n_energy : Int32) (n_valuesPut : Int32) (t_ones : Nat → Int32) (t_twos : Nat → Int32) (t_settings : Nat → Int32) (t_tick : Int32) (t_energy : Int32) (t_valuesPut : Int32) (s_ring : Nat → SV) (s_oldest : Int32) (s_count : Int32) (p1 : Int32) : Option (Int32 × (Nat → Int32) × (Nat → Int32) × (Nat → Int32) × (Nat → Int32) × (Nat → Int32) × Int32 × Int32 × Int32 × (Nat → SV) × Int32 × Int32) :=
  k_b7 (fX4_ifHeated n_ones n_twos n_settings n_tick n_energy n_valuesPut t_ones t_twos t_settings t_tick t_energy t_valuesPut p1 0) fun (z1 : Int32) (c2 : Nat → Int32) (c3 : Nat → Int32) (c4 : Nat → Int32) (c5 : Int32) (c6 : Int32) (c7 : Int32) =>
  k_b7 (fX4_ifHeated n_ones n_twos n_settings n_tick n_energy n_valuesPut c2 c3 c4 c5 c6 c7 p1 1) fun (z8 : Int32) (c9 : Nat → Int32) (c10 : Nat → Int32) (c11 : Nat → Int32) (c12 : Int32) (c13 : Int32) (c14 : Int32) =>
  k_b7 (fX4_ifHeated n_ones n_twos n_settings n_tick n_energy n_valuesPut c9 c10 c11 c12 c13 c14 p1 2) fun (z15 : Int32) (c16 : Nat → Int32) (c17 : Nat → Int32) (c18 : Nat → Int32) (c19 : Int32) (c20 : Int32) (c21 : Int32) =>
  k_b1 (fX4_count n_ones n_twos n_settings n_tick n_energy n_valuesPut s_count 7) fun (z22 : Int32) =>
  k_j1
  (fun (z23 : Int32) =>
    k_b6 (fX4_heat n_ones n_twos n_settings n_tick n_energy n_valuesPut s_ring s_oldest s_count p1) fun (z24 : Int32) (c25 : Nat → Int32) (c26 : Nat → Int32) (c27 : Nat → SV) (c28 : Int32) (c29 : Int32) =>
    k_j1
    (fun (z30 : Int32) =>
      k_j1
      (fun (z31 : Int32) =>
        k_if (z30 = 0)
        (
          some (0, c25, c26, c16, c17, c18, c19, c20, c21, c27, c28, c29))
        (
          k_if (z31 = z1)
          (
            k_if (p1 < 6)
            (
              some (1, c25, c26, c16, c17, c18, c19, c20, c21, c27, c28, c29))
            (
              k_if (z1 = z22)
              (
                some (1, c25, c26, c16, c17, c18, c19, c20, c21, c27, c28, c29))
              (
                some (0, c25, c26, c16, c17, c18, c19, c20, c21, c27, c28, c29))))
          (
            some (0, c25, c26, c16, c17, c18, c19, c20, c21, c27, c28, c29))))
      (fun K135 =>
      k_l2 (fL_heat_s109 K135 c25 c26 n_settings n_tick) 5000 z23 0))
    (fun K104 =>
    k_if (z24 = z1)
    (
      k_if (z22 < z1)
      (
        K104 0)
      (
        k_j0
        (
          k_if (20 < z8)
          (
            K104 0)
          (
            k_if (16 < z15)
            (
              K104 0)
            (
              K104 1)))
        (fun K86 =>
        k_if (3 ≤ p1)
        (
          K86)
        (
          k_if (z1 = 0)
          (
            K86)
          (
            K104 0)))))
    (
      K104 0)))
  (fun K62 =>
  k_l2 (fL_heat_s36 K62 n_ones n_twos n_settings n_tick) 5000 0 0)
theorem hdL_heat : yL_heat.cls ≠ "java/lang/invoke/MethodHandle" ∧ yL_heat.cls ≠ "java/lang/invoke/VarHandle" ∧ (parseMethodDescriptor yL_heat.desc).map (fun d => d.parameters.length) = some 2 := by decide +kernel
set_option maxRecDepth 100000 in
set_option maxHeartbeats 4000000 in
theorem mL_heat (l : Launch) (dC : Nat → ClassId) (dI : Nat → Nat → Nat) (cyI cyC cyO : ClassId) (ob : Nat) (n0 : Nat) (n1 : Nat) (n2 : Nat) (n3 : Nat) (t0 : Nat) (t1 : Nat) (t2 : Nat) (t3 : Nat) (s0 : Nat) (aR : Nat) (ro : Nat → Nat) (r1 : Nat → Nat) (r2 : Nat → Nat) (r3 : Nat → Nat) (x0 : Nat) (x1 : Nat) (x2 : Nat) (x3 : Nat) (x4 : Nat) (n_ones : Nat → Int32) (n_twos : Nat → Int32) (n_settings : Nat → Int32) (n_tick : Int32) (n_energy : Int32) (n_valuesPut : Int32) (t_ones : Nat → Int32) (t_twos : Nat → Int32) (t_settings : Nat → Int32) (t_tick : Int32) (t_energy : Int32) (t_valuesPut : Int32) (s_ring : Nat → SV) (s_oldest : Int32) (s_count : Int32) (x_signs : Nat → Int32) (x_length : Int32) (x_position : Int32) (x_complete : Int32) (x_orders : Int32) (x_kinds : Nat → Int32) (x_numbers : Nat → Int32) (x_values : Nat → Int32) (p1 : Int32) {r : Int32} {r_n_ones : Nat → Int32} {r_n_twos : Nat → Int32} {r_t_ones : Nat → Int32} {r_t_twos : Nat → Int32} {r_t_settings : Nat → Int32} {r_t_tick : Int32} {r_t_energy : Int32} {r_t_valuesPut : Int32} {r_s_ring : Nat → SV} {r_s_oldest : Int32} {r_s_count : Int32} (hf : fL_heat n_ones n_twos n_settings n_tick n_energy n_valuesPut t_ones t_twos t_settings t_tick t_energy t_valuesPut s_ring s_oldest s_count p1 = some (r, r_n_ones, r_n_twos, r_t_ones, r_t_twos, r_t_settings, r_t_tick, r_t_energy, r_t_valuesPut, r_s_ring, r_s_oldest, r_s_count)) : MetMI l yL_heat cL_heat 9 (some .boolean) 7 158 [.ref ob, .int p1] (dC, dI) (tyS cyI cyC cyO) (wAll cyI cyC cyO ob n0 n1 n2 n3 t0 t1 t2 t3 s0 aR ro r1 r2 r3 x0 x1 x2 x3 x4 n_ones n_twos n_settings n_tick n_energy n_valuesPut t_ones t_twos t_settings t_tick t_energy t_valuesPut s_ring s_oldest s_count x_signs x_length x_position x_complete x_orders x_kinds x_numbers x_values) (wAll cyI cyC cyO ob n0 n1 n2 n3 t0 t1 t2 t3 s0 aR ro r1 r2 r3 x0 x1 x2 x3 x4 r_n_ones r_n_twos n_settings n_tick n_energy n_valuesPut r_t_ones r_t_twos r_t_settings r_t_tick r_t_energy r_t_valuesPut r_s_ring r_s_oldest r_s_count x_signs x_length x_position x_complete x_orders x_kinds x_numbers x_values) r := by
  refine metMI_of (by decide) (Nat.le_of_ble_eq_true rfl) ?_
  intro p e s m below meth c ls hC hr hlk hP hK hD hl
  have hC : CallFix p m c cL_heat 9 s [.ref ob, .int p1].toArray wA RL := hC
  obtain ⟨hx, hb, hml, hown, hts⟩ := id hC
  have hS : va_S (k_A (wAll cyI cyC cyO ob n0 n1 n2 n3 t0 t1 t2 t3 s0 aR ro r1 r2 r3 x0 x1 x2 x3 x4 n_ones n_twos n_settings n_tick n_energy n_valuesPut t_ones t_twos t_settings t_tick t_energy t_valuesPut s_ring s_oldest s_count x_signs x_length x_position x_complete x_orders x_kinds x_numbers x_values)) s.heap s.heap [] := va_S.rf
  have hl : lv_has ls 9 [(0, .ref ob), (1, .int p1)] := hl
  have h := hf
  unfold fL_heat at h
  obtain ⟨H, hH⟩ : ∃ H, H = s.heap := ⟨_, rfl⟩
  obtain ⟨locs, hlo⟩ : ∃ locs : List Loc, locs = [] := ⟨_, rfl⟩
  rw [← hH] at hP
  rw [← hlo] at hS
  have hS : va_S (k_A (wAll cyI cyC cyO ob n0 n1 n2 n3 t0 t1 t2 t3 s0 aR ro r1 r2 r3 x0 x1 x2 x3 x4 n_ones n_twos n_settings n_tick n_energy n_valuesPut t_ones t_twos t_settings t_tick t_energy t_valuesPut s_ring s_oldest s_count x_signs x_length x_position x_complete x_orders x_kinds x_numbers x_values)) s.heap H locs := by rw [hH]; exact hS
  show W p l e (k_rm 7 158) s m [.ref ob, .int p1].toArray below meth c s.heap [] 0 0 _ _
  rw [← hlo, ← hH]
  refine lv_aload_n hx hb dL_heat_0 rfl (lv_at hl 0 rfl) ?_
  refine lv_iload_n hx hb dL_heat_1 rfl (lv_at hl 1 rfl) ?_
  refine lv_iconst (v := 0) hx hb dL_heat_2 (by decide) ?_
  obtain ⟨z1, c2, c3, c4, c5, c6, c7, hc3, h⟩ := k_b7_e h
  refine g_callMI_V (As := [.int p1, .int 0]) (rest := []) hC (mX4_ifHeated l dC dI cyI cyC cyO ob n0 n1 n2 n3 t0 t1 t2 t3 s0 aR ro r1 r2 r3 x0 x1 x2 x3 x4 n_ones n_twos n_settings n_tick n_energy n_valuesPut t_ones t_twos t_settings t_tick t_energy t_valuesPut s_ring s_oldest s_count x_signs x_length x_position x_complete x_orders x_kinds x_numbers x_values p1 0 hc3) q424 q425 q426 q8 q427 2 hdX4_ifHeated ⟨Nat.le_of_ble_eq_true rfl, Nat.le_of_ble_eq_true rfl⟩ ⟨Nat.le_of_ble_eq_true rfl, Nat.le_of_ble_eq_true rfl⟩ rfl rfl hl.1 (Nat.le_of_ble_eq_true rfl) hP hK hD (va_recv hK hP (ci := 3) (q0 := 0) rfl rfl) hS dL_heat_3 (fun H locs hPn hk hS => ?_)
  have hP : va_P (dC, dI) vwCl (wAll cyI cyC cyO ob n0 n1 n2 n3 t0 t1 t2 t3 s0 aR ro r1 r2 r3 x0 x1 x2 x3 x4 n_ones n_twos n_settings n_tick n_energy n_valuesPut c2 c3 c4 c5 c6 c7 s_ring s_oldest s_count x_signs x_length x_position x_complete x_orders x_kinds x_numbers x_values) H := hPn
  have hD : va_D (k_A (wAll cyI cyC cyO ob n0 n1 n2 n3 t0 t1 t2 t3 s0 aR ro r1 r2 r3 x0 x1 x2 x3 x4 n_ones n_twos n_settings n_tick n_energy n_valuesPut t_ones t_twos t_settings t_tick t_energy t_valuesPut s_ring s_oldest s_count x_signs x_length x_position x_complete x_orders x_kinds x_numbers x_values)) (wAll cyI cyC cyO ob n0 n1 n2 n3 t0 t1 t2 t3 s0 aR ro r1 r2 r3 x0 x1 x2 x3 x4 n_ones n_twos n_settings n_tick n_energy n_valuesPut c2 c3 c4 c5 c6 c7 s_ring s_oldest s_count x_signs x_length x_position x_complete x_orders x_kinds x_numbers x_values) := k_Dm hD rfl
  refine lv_istore_n (lv' := [(2, .int z1), (0, .ref ob), (1, .int p1)]) hx hb dL_heat_6 rfl hl (by decide) rfl (fun ls hl => ?_)
  refine lv_aload_n hx hb dL_heat_7 rfl (lv_at hl 1 rfl) ?_
  refine lv_iload_n hx hb dL_heat_8 rfl (lv_at hl 2 rfl) ?_
  refine lv_iconst (v := 1) hx hb dL_heat_9 (by decide) ?_
  obtain ⟨z8, c9, c10, c11, c12, c13, c14, hc10, h⟩ := k_b7_e h
  refine g_callMI_V (As := [.int p1, .int 1]) (rest := []) hC (mX4_ifHeated l dC dI cyI cyC cyO ob n0 n1 n2 n3 t0 t1 t2 t3 s0 aR ro r1 r2 r3 x0 x1 x2 x3 x4 n_ones n_twos n_settings n_tick n_energy n_valuesPut c2 c3 c4 c5 c6 c7 s_ring s_oldest s_count x_signs x_length x_position x_complete x_orders x_kinds x_numbers x_values p1 1 hc10) q424 q425 q426 q8 q427 2 hdX4_ifHeated ⟨Nat.le_of_ble_eq_true rfl, Nat.le_of_ble_eq_true rfl⟩ ⟨Nat.le_of_ble_eq_true rfl, Nat.le_of_ble_eq_true rfl⟩ rfl rfl hl.1 (Nat.le_of_ble_eq_true rfl) hP hK hD (va_recv hK hP (ci := 3) (q0 := 0) rfl rfl) hS dL_heat_10 (fun H locs hPn hk hS => ?_)
  have hP : va_P (dC, dI) vwCl (wAll cyI cyC cyO ob n0 n1 n2 n3 t0 t1 t2 t3 s0 aR ro r1 r2 r3 x0 x1 x2 x3 x4 n_ones n_twos n_settings n_tick n_energy n_valuesPut c9 c10 c11 c12 c13 c14 s_ring s_oldest s_count x_signs x_length x_position x_complete x_orders x_kinds x_numbers x_values) H := hPn
  have hD : va_D (k_A (wAll cyI cyC cyO ob n0 n1 n2 n3 t0 t1 t2 t3 s0 aR ro r1 r2 r3 x0 x1 x2 x3 x4 n_ones n_twos n_settings n_tick n_energy n_valuesPut t_ones t_twos t_settings t_tick t_energy t_valuesPut s_ring s_oldest s_count x_signs x_length x_position x_complete x_orders x_kinds x_numbers x_values)) (wAll cyI cyC cyO ob n0 n1 n2 n3 t0 t1 t2 t3 s0 aR ro r1 r2 r3 x0 x1 x2 x3 x4 n_ones n_twos n_settings n_tick n_energy n_valuesPut c9 c10 c11 c12 c13 c14 s_ring s_oldest s_count x_signs x_length x_position x_complete x_orders x_kinds x_numbers x_values) := k_Dm hD rfl
  refine lv_istore_n (lv' := [(3, .int z8), (2, .int z1), (0, .ref ob), (1, .int p1)]) hx hb dL_heat_13 rfl hl (by decide) rfl (fun ls hl => ?_)
  refine lv_aload_n hx hb dL_heat_14 rfl (lv_at hl 2 rfl) ?_
  refine lv_iload_n hx hb dL_heat_15 rfl (lv_at hl 3 rfl) ?_
  refine lv_iconst (v := 2) hx hb dL_heat_16 (by decide) ?_
  obtain ⟨z15, c16, c17, c18, c19, c20, c21, hc17, h⟩ := k_b7_e h
  refine g_callMI_V (As := [.int p1, .int 2]) (rest := []) hC (mX4_ifHeated l dC dI cyI cyC cyO ob n0 n1 n2 n3 t0 t1 t2 t3 s0 aR ro r1 r2 r3 x0 x1 x2 x3 x4 n_ones n_twos n_settings n_tick n_energy n_valuesPut c9 c10 c11 c12 c13 c14 s_ring s_oldest s_count x_signs x_length x_position x_complete x_orders x_kinds x_numbers x_values p1 2 hc17) q424 q425 q426 q8 q427 2 hdX4_ifHeated ⟨Nat.le_of_ble_eq_true rfl, Nat.le_of_ble_eq_true rfl⟩ ⟨Nat.le_of_ble_eq_true rfl, Nat.le_of_ble_eq_true rfl⟩ rfl rfl hl.1 (Nat.le_of_ble_eq_true rfl) hP hK hD (va_recv hK hP (ci := 3) (q0 := 0) rfl rfl) hS dL_heat_17 (fun H locs hPn hk hS => ?_)
  have hP : va_P (dC, dI) vwCl (wAll cyI cyC cyO ob n0 n1 n2 n3 t0 t1 t2 t3 s0 aR ro r1 r2 r3 x0 x1 x2 x3 x4 n_ones n_twos n_settings n_tick n_energy n_valuesPut c16 c17 c18 c19 c20 c21 s_ring s_oldest s_count x_signs x_length x_position x_complete x_orders x_kinds x_numbers x_values) H := hPn
  have hD : va_D (k_A (wAll cyI cyC cyO ob n0 n1 n2 n3 t0 t1 t2 t3 s0 aR ro r1 r2 r3 x0 x1 x2 x3 x4 n_ones n_twos n_settings n_tick n_energy n_valuesPut t_ones t_twos t_settings t_tick t_energy t_valuesPut s_ring s_oldest s_count x_signs x_length x_position x_complete x_orders x_kinds x_numbers x_values)) (wAll cyI cyC cyO ob n0 n1 n2 n3 t0 t1 t2 t3 s0 aR ro r1 r2 r3 x0 x1 x2 x3 x4 n_ones n_twos n_settings n_tick n_energy n_valuesPut c16 c17 c18 c19 c20 c21 s_ring s_oldest s_count x_signs x_length x_position x_complete x_orders x_kinds x_numbers x_values) := k_Dm hD rfl
  refine lv_istore (lv' := [(4, .int z15), (3, .int z8), (2, .int z1), (0, .ref ob), (1, .int p1)]) hx hb dL_heat_20 hl (by decide) rfl (fun ls hl => ?_)
  refine lv_aload_n hx hb dL_heat_22 rfl (lv_at hl 3 rfl) ?_
  refine lv_bipush (v := 7) hx hb dL_heat_23 (by decide) ?_
  obtain ⟨z22, hc25, h⟩ := k_b1_e h
  refine g_callRI_V (As := [.int 7]) (rest := []) hC (mX4_count l dC dI cyI cyC cyO ob n0 n1 n2 n3 t0 t1 t2 t3 s0 aR ro r1 r2 r3 x0 x1 x2 x3 x4 n_ones n_twos n_settings n_tick n_energy n_valuesPut c16 c17 c18 c19 c20 c21 s_ring s_oldest s_count x_signs x_length x_position x_complete x_orders x_kinds x_numbers x_values 7 hc25) q299 q300 q301 q8 q302 1 hdX4_count ⟨Nat.le_of_ble_eq_true rfl, Nat.le_of_ble_eq_true rfl⟩ ⟨Nat.le_of_ble_eq_true rfl, Nat.le_of_ble_eq_true rfl⟩ rfl rfl hl.1 (Nat.le_of_ble_eq_true rfl) hP hK (va_recv hK hP (ci := 3) (q0 := 0) rfl rfl) hS dL_heat_25 (fun H locs hk hS => ?_)
  have hP := k_kept hP hk
  refine lv_istore (lv' := [(5, .int z22), (4, .int z15), (3, .int z8), (2, .int z1), (0, .ref ob), (1, .int p1)]) hx hb dL_heat_28 hl (by decide) rfl (fun ls hl => ?_)
  refine lv_iconst (v := 0) hx hb dL_heat_30 (by decide) ?_
  refine lv_istore (lv' := [(6, .int 0), (5, .int z22), (4, .int z15), (3, .int z8), (2, .int z1), (0, .ref ob), (1, .int p1)]) hx hb dL_heat_31 hl (by decide) rfl (fun ls hl => ?_)
  refine lv_iconst (v := 0) hx hb dL_heat_33 (by decide) ?_
  refine lv_istore (lv' := [(7, .int 0), (6, .int 0), (5, .int z22), (4, .int z15), (3, .int z8), (2, .int z1), (0, .ref ob), (1, .int p1)]) hx hb dL_heat_34 hl (by decide) rfl (fun ls hl => ?_)
  obtain ⟨K62, hK62, h⟩ := k_j1_e h
  have J62 : ∀ (z23 : Int32) (H : Heap) (locs : List Loc) (ls : Array Slot), K62 z23 = some (r, r_n_ones, r_n_twos, r_t_ones, r_t_twos, r_t_settings, r_t_tick, r_t_energy, r_t_valuesPut, r_s_ring, r_s_oldest, r_s_count) → va_P (dC, dI) vwCl (wAll cyI cyC cyO ob n0 n1 n2 n3 t0 t1 t2 t3 s0 aR ro r1 r2 r3 x0 x1 x2 x3 x4 n_ones n_twos n_settings n_tick n_energy n_valuesPut c16 c17 c18 c19 c20 c21 s_ring s_oldest s_count x_signs x_length x_position x_complete x_orders x_kinds x_numbers x_values) H → va_S (k_A (wAll cyI cyC cyO ob n0 n1 n2 n3 t0 t1 t2 t3 s0 aR ro r1 r2 r3 x0 x1 x2 x3 x4 n_ones n_twos n_settings n_tick n_energy n_valuesPut t_ones t_twos t_settings t_tick t_energy t_valuesPut s_ring s_oldest s_count x_signs x_length x_position x_complete x_orders x_kinds x_numbers x_values)) s.heap H locs → lv_has ls 9 [(0, .ref ob), (1, .int p1), (2, .int z1), (3, .int z8), (4, .int z15), (5, .int z22), (6, .int z23)] → W p l e (k_rm 7 158) s m [.ref ob, .int p1].toArray below meth c H locs 0 0 (MQ below (qMI r (dC, dI) (wAll cyI cyC cyO ob n0 n1 n2 n3 t0 t1 t2 t3 s0 aR ro r1 r2 r3 x0 x1 x2 x3 x4 n_ones n_twos n_settings n_tick n_energy n_valuesPut t_ones t_twos t_settings t_tick t_energy t_valuesPut s_ring s_oldest s_count x_signs x_length x_position x_complete x_orders x_kinds x_numbers x_values) (wAll cyI cyC cyO ob n0 n1 n2 n3 t0 t1 t2 t3 s0 aR ro r1 r2 r3 x0 x1 x2 x3 x4 r_n_ones r_n_twos n_settings n_tick n_energy n_valuesPut r_t_ones r_t_twos r_t_settings r_t_tick r_t_energy r_t_valuesPut r_s_ring r_s_oldest r_s_count x_signs x_length x_position x_complete x_orders x_kinds x_numbers x_values)) [.ref ob, .int p1].toArray s 0 0 (k_A (wAll cyI cyC cyO ob n0 n1 n2 n3 t0 t1 t2 t3 s0 aR ro r1 r2 r3 x0 x1 x2 x3 x4 n_ones n_twos n_settings n_tick n_energy n_valuesPut t_ones t_twos t_settings t_tick t_energy t_valuesPut s_ring s_oldest s_count x_signs x_length x_position x_complete x_orders x_kinds x_numbers x_values))) (F0 m 62 ls []) := by
    intro z23 H locs ls h hP hS hl
    have h := k_a1 hK62 h
    refine lv_aload_n hx hb dL_heat_62 rfl (lv_at hl 0 rfl) ?_
    refine lv_iload_n hx hb dL_heat_63 rfl (lv_at hl 1 rfl) ?_
    obtain ⟨z24, c25, c26, c27, c28, c29, hc64, h⟩ := k_b6_e h
    refine g_callMI_V (As := [.int p1]) (rest := []) hC (mX4_heat l dC dI cyI cyC cyO ob n0 n1 n2 n3 t0 t1 t2 t3 s0 aR ro r1 r2 r3 x0 x1 x2 x3 x4 n_ones n_twos n_settings n_tick n_energy n_valuesPut c16 c17 c18 c19 c20 c21 s_ring s_oldest s_count x_signs x_length x_position x_complete x_orders x_kinds x_numbers x_values p1 hc64) q435 q436 q437 q8 q438 1 hdX4_heat ⟨Nat.le_of_ble_eq_true rfl, Nat.le_of_ble_eq_true rfl⟩ ⟨Nat.le_of_ble_eq_true rfl, Nat.le_of_ble_eq_true rfl⟩ rfl rfl hl.1 (Nat.le_of_ble_eq_true rfl) hP hK hD (va_recv hK hP (ci := 3) (q0 := 0) rfl rfl) hS dL_heat_64 (fun H locs hPn hk hS => ?_)
    have hP : va_P (dC, dI) vwCl (wAll cyI cyC cyO ob n0 n1 n2 n3 t0 t1 t2 t3 s0 aR ro r1 r2 r3 x0 x1 x2 x3 x4 c25 c26 n_settings n_tick n_energy n_valuesPut c16 c17 c18 c19 c20 c21 c27 c28 c29 x_signs x_length x_position x_complete x_orders x_kinds x_numbers x_values) H := hPn
    have hD : va_D (k_A (wAll cyI cyC cyO ob n0 n1 n2 n3 t0 t1 t2 t3 s0 aR ro r1 r2 r3 x0 x1 x2 x3 x4 n_ones n_twos n_settings n_tick n_energy n_valuesPut t_ones t_twos t_settings t_tick t_energy t_valuesPut s_ring s_oldest s_count x_signs x_length x_position x_complete x_orders x_kinds x_numbers x_values)) (wAll cyI cyC cyO ob n0 n1 n2 n3 t0 t1 t2 t3 s0 aR ro r1 r2 r3 x0 x1 x2 x3 x4 c25 c26 n_settings n_tick n_energy n_valuesPut c16 c17 c18 c19 c20 c21 c27 c28 c29 x_signs x_length x_position x_complete x_orders x_kinds x_numbers x_values) := k_Dm hD rfl
    refine lv_iload_n hx hb dL_heat_67 rfl (lv_at hl 2 rfl) ?_
    obtain ⟨K104, hK104, h⟩ := k_j1_e h
    have J104 : ∀ (z30 : Int32) (H : Heap) (locs : List Loc) (ls : Array Slot), K104 z30 = some (r, r_n_ones, r_n_twos, r_t_ones, r_t_twos, r_t_settings, r_t_tick, r_t_energy, r_t_valuesPut, r_s_ring, r_s_oldest, r_s_count) → va_P (dC, dI) vwCl (wAll cyI cyC cyO ob n0 n1 n2 n3 t0 t1 t2 t3 s0 aR ro r1 r2 r3 x0 x1 x2 x3 x4 c25 c26 n_settings n_tick n_energy n_valuesPut c16 c17 c18 c19 c20 c21 c27 c28 c29 x_signs x_length x_position x_complete x_orders x_kinds x_numbers x_values) H → va_S (k_A (wAll cyI cyC cyO ob n0 n1 n2 n3 t0 t1 t2 t3 s0 aR ro r1 r2 r3 x0 x1 x2 x3 x4 n_ones n_twos n_settings n_tick n_energy n_valuesPut t_ones t_twos t_settings t_tick t_energy t_valuesPut s_ring s_oldest s_count x_signs x_length x_position x_complete x_orders x_kinds x_numbers x_values)) s.heap H locs → lv_has ls 9 [(0, .ref ob), (1, .int p1), (2, .int z1), (5, .int z22), (6, .int z23)] → W p l e (k_rm 7 158) s m [.ref ob, .int p1].toArray below meth c H locs 0 0 (MQ below (qMI r (dC, dI) (wAll cyI cyC cyO ob n0 n1 n2 n3 t0 t1 t2 t3 s0 aR ro r1 r2 r3 x0 x1 x2 x3 x4 n_ones n_twos n_settings n_tick n_energy n_valuesPut t_ones t_twos t_settings t_tick t_energy t_valuesPut s_ring s_oldest s_count x_signs x_length x_position x_complete x_orders x_kinds x_numbers x_values) (wAll cyI cyC cyO ob n0 n1 n2 n3 t0 t1 t2 t3 s0 aR ro r1 r2 r3 x0 x1 x2 x3 x4 r_n_ones r_n_twos n_settings n_tick n_energy n_valuesPut r_t_ones r_t_twos r_t_settings r_t_tick r_t_energy r_t_valuesPut r_s_ring r_s_oldest r_s_count x_signs x_length x_position x_complete x_orders x_kinds x_numbers x_values)) [.ref ob, .int p1].toArray s 0 0 (k_A (wAll cyI cyC cyO ob n0 n1 n2 n3 t0 t1 t2 t3 s0 aR ro r1 r2 r3 x0 x1 x2 x3 x4 n_ones n_twos n_settings n_tick n_energy n_valuesPut t_ones t_twos t_settings t_tick t_energy t_valuesPut s_ring s_oldest s_count x_signs x_length x_position x_complete x_orders x_kinds x_numbers x_values))) (F0 m 104 ls [.int z30]) := by
      intro z30 H locs ls h hP hS hl
      have h := k_a1 hK104 h
      refine lv_istore (lv' := [(7, .int z30), (0, .ref ob), (1, .int p1), (2, .int z1), (5, .int z22), (6, .int z23)]) hx hb dL_heat_104 hl (by decide) rfl (fun ls hl => ?_)
      refine lv_iconst (v := 0) hx hb dL_heat_106 (by decide) ?_
      refine lv_istore (lv' := [(8, .int 0), (7, .int z30), (0, .ref ob), (1, .int p1), (2, .int z1), (5, .int z22), (6, .int z23)]) hx hb dL_heat_107 hl (by decide) rfl (fun ls hl => ?_)
      obtain ⟨K135, hK135, h⟩ := k_j1_e h
      have J135 : ∀ (z31 : Int32) (H : Heap) (locs : List Loc) (ls : Array Slot), K135 z31 = some (r, r_n_ones, r_n_twos, r_t_ones, r_t_twos, r_t_settings, r_t_tick, r_t_energy, r_t_valuesPut, r_s_ring, r_s_oldest, r_s_count) → va_P (dC, dI) vwCl (wAll cyI cyC cyO ob n0 n1 n2 n3 t0 t1 t2 t3 s0 aR ro r1 r2 r3 x0 x1 x2 x3 x4 c25 c26 n_settings n_tick n_energy n_valuesPut c16 c17 c18 c19 c20 c21 c27 c28 c29 x_signs x_length x_position x_complete x_orders x_kinds x_numbers x_values) H → va_S (k_A (wAll cyI cyC cyO ob n0 n1 n2 n3 t0 t1 t2 t3 s0 aR ro r1 r2 r3 x0 x1 x2 x3 x4 n_ones n_twos n_settings n_tick n_energy n_valuesPut t_ones t_twos t_settings t_tick t_energy t_valuesPut s_ring s_oldest s_count x_signs x_length x_position x_complete x_orders x_kinds x_numbers x_values)) s.heap H locs → lv_has ls 9 [(1, .int p1), (2, .int z1), (5, .int z22), (6, .int z31), (7, .int z30)] → W p l e (k_rm 7 158) s m [.ref ob, .int p1].toArray below meth c H locs 0 0 (MQ below (qMI r (dC, dI) (wAll cyI cyC cyO ob n0 n1 n2 n3 t0 t1 t2 t3 s0 aR ro r1 r2 r3 x0 x1 x2 x3 x4 n_ones n_twos n_settings n_tick n_energy n_valuesPut t_ones t_twos t_settings t_tick t_energy t_valuesPut s_ring s_oldest s_count x_signs x_length x_position x_complete x_orders x_kinds x_numbers x_values) (wAll cyI cyC cyO ob n0 n1 n2 n3 t0 t1 t2 t3 s0 aR ro r1 r2 r3 x0 x1 x2 x3 x4 r_n_ones r_n_twos n_settings n_tick n_energy n_valuesPut r_t_ones r_t_twos r_t_settings r_t_tick r_t_energy r_t_valuesPut r_s_ring r_s_oldest r_s_count x_signs x_length x_position x_complete x_orders x_kinds x_numbers x_values)) [.ref ob, .int p1].toArray s 0 0 (k_A (wAll cyI cyC cyO ob n0 n1 n2 n3 t0 t1 t2 t3 s0 aR ro r1 r2 r3 x0 x1 x2 x3 x4 n_ones n_twos n_settings n_tick n_energy n_valuesPut t_ones t_twos t_settings t_tick t_energy t_valuesPut s_ring s_oldest s_count x_signs x_length x_position x_complete x_orders x_kinds x_numbers x_values))) (F0 m 135 ls []) := by
        intro z31 H locs ls h hP hS hl
        have h := k_a1 hK135 h
        refine lv_iload hx hb dL_heat_135 (lv_at hl 4 rfl) ?_
        refine g_if_eq (tgt := 162) hx hb dL_heat_137 (by decide) h (fun h => ?_) (fun h => ?_)
        · refine lv_iconst (v := 0) hx hb dL_heat_162 (by decide) ?_
          obtain ⟨e0, e1, e2, e3, e4, e5, e6, e7, e8, e9, e10, e11⟩ := k_t12 h
          exact g_retMZ hx hb hr (by decide +kernel) hlk hS e0 (by rw [← e1, ← e2, ← e3, ← e4, ← e5, ← e6, ← e7, ← e8, ← e9, ← e10, ← e11]; exact hP) dL_heat_163
        · refine lv_iload hx hb dL_heat_140 (lv_at hl 3 rfl) ?_
          refine lv_iload_n hx hb dL_heat_142 rfl (lv_at hl 1 rfl) ?_
          refine g_icmp_ne (tgt := 162) hx hb dL_heat_143 (by decide) h (fun h => ?_) (fun h => ?_)
          · refine lv_iconst (v := 0) hx hb dL_heat_162 (by decide) ?_
            obtain ⟨e0, e1, e2, e3, e4, e5, e6, e7, e8, e9, e10, e11⟩ := k_t12 h
            exact g_retMZ hx hb hr (by decide +kernel) hlk hS e0 (by rw [← e1, ← e2, ← e3, ← e4, ← e5, ← e6, ← e7, ← e8, ← e9, ← e10, ← e11]; exact hP) dL_heat_163
          · refine lv_iload_n hx hb dL_heat_146 rfl (lv_at hl 0 rfl) ?_
            refine lv_bipush (v := 6) hx hb dL_heat_147 (by decide) ?_
            refine g_icmp_lt (tgt := 158) hx hb dL_heat_149 (by decide) h (fun h => ?_) (fun h => ?_)
            · refine lv_iconst (v := 1) hx hb dL_heat_158 (by decide) ?_
              refine lv_goto (tgt := 163) hx hb dL_heat_159 (by decide) ?_
              obtain ⟨e0, e1, e2, e3, e4, e5, e6, e7, e8, e9, e10, e11⟩ := k_t12 h
              exact g_retMZ hx hb hr (by decide +kernel) hlk hS e0 (by rw [← e1, ← e2, ← e3, ← e4, ← e5, ← e6, ← e7, ← e8, ← e9, ← e10, ← e11]; exact hP) dL_heat_163
            · refine lv_iload_n hx hb dL_heat_152 rfl (lv_at hl 1 rfl) ?_
              refine lv_iload hx hb dL_heat_153 (lv_at hl 2 rfl) ?_
              refine g_icmp_ne (tgt := 162) hx hb dL_heat_155 (by decide) h (fun h => ?_) (fun h => ?_)
              · refine lv_iconst (v := 0) hx hb dL_heat_162 (by decide) ?_
                obtain ⟨e0, e1, e2, e3, e4, e5, e6, e7, e8, e9, e10, e11⟩ := k_t12 h
                exact g_retMZ hx hb hr (by decide +kernel) hlk hS e0 (by rw [← e1, ← e2, ← e3, ← e4, ← e5, ← e6, ← e7, ← e8, ← e9, ← e10, ← e11]; exact hP) dL_heat_163
              · refine lv_iconst (v := 1) hx hb dL_heat_158 (by decide) ?_
                refine lv_goto (tgt := 163) hx hb dL_heat_159 (by decide) ?_
                obtain ⟨e0, e1, e2, e3, e4, e5, e6, e7, e8, e9, e10, e11⟩ := k_t12 h
                exact g_retMZ hx hb hr (by decide +kernel) hlk hS e0 (by rw [← e1, ← e2, ← e3, ← e4, ← e5, ← e6, ← e7, ← e8, ← e9, ← e10, ← e11]; exact hP) dL_heat_163
      obtain ⟨S109, hS109⟩ : ∃ z, z = (fL_heat_s109 K135 c25 c26 n_settings n_tick) := ⟨_, rfl⟩
      rw [← hS109] at h
      have L109 : ∀ (n : Nat) (z32 : Int32) (z33 : Int32) (H : Heap) (locs : List Loc) (ls : Array Slot), k_l2 S109 n z32 z33 = some (r, r_n_ones, r_n_twos, r_t_ones, r_t_twos, r_t_settings, r_t_tick, r_t_energy, r_t_valuesPut, r_s_ring, r_s_oldest, r_s_count) → va_P (dC, dI) vwCl (wAll cyI cyC cyO ob n0 n1 n2 n3 t0 t1 t2 t3 s0 aR ro r1 r2 r3 x0 x1 x2 x3 x4 c25 c26 n_settings n_tick n_energy n_valuesPut c16 c17 c18 c19 c20 c21 c27 c28 c29 x_signs x_length x_position x_complete x_orders x_kinds x_numbers x_values) H → va_S (k_A (wAll cyI cyC cyO ob n0 n1 n2 n3 t0 t1 t2 t3 s0 aR ro r1 r2 r3 x0 x1 x2 x3 x4 n_ones n_twos n_settings n_tick n_energy n_valuesPut t_ones t_twos t_settings t_tick t_energy t_valuesPut s_ring s_oldest s_count x_signs x_length x_position x_complete x_orders x_kinds x_numbers x_values)) s.heap H locs → lv_has ls 9 [(0, .ref ob), (1, .int p1), (2, .int z1), (5, .int z22), (6, .int z32), (7, .int z30), (8, .int z33)] → W p l e (k_rm 7 158) s m [.ref ob, .int p1].toArray below meth c H locs 0 0 (MQ below (qMI r (dC, dI) (wAll cyI cyC cyO ob n0 n1 n2 n3 t0 t1 t2 t3 s0 aR ro r1 r2 r3 x0 x1 x2 x3 x4 n_ones n_twos n_settings n_tick n_energy n_valuesPut t_ones t_twos t_settings t_tick t_energy t_valuesPut s_ring s_oldest s_count x_signs x_length x_position x_complete x_orders x_kinds x_numbers x_values) (wAll cyI cyC cyO ob n0 n1 n2 n3 t0 t1 t2 t3 s0 aR ro r1 r2 r3 x0 x1 x2 x3 x4 r_n_ones r_n_twos n_settings n_tick n_energy n_valuesPut r_t_ones r_t_twos r_t_settings r_t_tick r_t_energy r_t_valuesPut r_s_ring r_s_oldest r_s_count x_signs x_length x_position x_complete x_orders x_kinds x_numbers x_values)) [.ref ob, .int p1].toArray s 0 0 (k_A (wAll cyI cyC cyO ob n0 n1 n2 n3 t0 t1 t2 t3 s0 aR ro r1 r2 r3 x0 x1 x2 x3 x4 n_ones n_twos n_settings n_tick n_energy n_valuesPut t_ones t_twos t_settings t_tick t_energy t_valuesPut s_ring s_oldest s_count x_signs x_length x_position x_complete x_orders x_kinds x_numbers x_values))) (F0 m 109 ls []) := by
        intro n
        induction n with
        | zero =>
          intro z32 z33 H locs ls h
          exact (k_l2_0 h).elim
        | succ n ih109 =>
          intro z32 z33 H locs ls h hP hS hl
          have h := k_l2_s h
          have h := k_a3 hS109 h
          unfold fL_heat_s109 at h
          refine lv_iload hx hb dL_heat_109 (lv_at hl 6 rfl) ?_
          refine lv_bipush (v := 20) hx hb dL_heat_111 (by decide) ?_
          refine g_icmp_ge (tgt := 135) hx hb dL_heat_113 (by decide) h (fun h => ?_) (fun h => ?_)
          · exact J135 z32 _ _ _ h hP hS (lv_sub hl [1, 2, 3, 4, 5] rfl)
          · refine lv_iload hx hb dL_heat_116 (lv_at hl 4 rfl) ?_
            refine lv_aload_n hx hb dL_heat_118 rfl (lv_at hl 0 rfl) ?_
            refine lv_iload hx hb dL_heat_119 (lv_at hl 6 rfl) ?_
            refine lv_bipush (v := 8) hx hb dL_heat_121 (by decide) ?_
            obtain ⟨z34, hc123, h⟩ := k_b1_e h
            refine g_callRI_V (As := [.int z33, .int 8]) (rest := [.int z32]) hC (mX4_row l dC dI cyI cyC cyO ob n0 n1 n2 n3 t0 t1 t2 t3 s0 aR ro r1 r2 r3 x0 x1 x2 x3 x4 c25 c26 n_settings n_tick n_energy n_valuesPut c16 c17 c18 c19 c20 c21 c27 c28 c29 x_signs x_length x_position x_complete x_orders x_kinds x_numbers x_values z33 8 hc123) q231 q232 q233 q8 q234 2 hdX4_row ⟨Nat.le_of_ble_eq_true rfl, Nat.le_of_ble_eq_true rfl⟩ ⟨Nat.le_of_ble_eq_true rfl, Nat.le_of_ble_eq_true rfl⟩ rfl rfl hl.1 (Nat.le_of_ble_eq_true rfl) hP hK (va_recv hK hP (ci := 3) (q0 := 0) rfl rfl) hS dL_heat_123 (fun H locs hk hS => ?_)
            have hP := k_kept hP hk
            refine g_isub hx hb dL_heat_126 h (fun z35 h => ?_)
            refine lv_istore (lv' := [(6, .int z35), (0, .ref ob), (1, .int p1), (2, .int z1), (5, .int z22), (7, .int z30), (8, .int z33)]) hx hb dL_heat_127 hl (by decide) rfl (fun ls hl => ?_)
            refine g_iinc (dv := 1) hx hb dL_heat_129 hl (j := 6) rfl (by decide) (by decide) h (fun z36 ls h hl => ?_)
            have hl : lv_has ls 9 [(8, .int z36), (6, .int z35), (0, .ref ob), (1, .int p1), (2, .int z1), (5, .int z22), (7, .int z30)] := hl
            refine lv_goto (tgt := 109) hx hb dL_heat_132 (by decide) ?_
            exact ih109 z35 z36 _ _ _ h hP hS (lv_sub hl [2, 3, 4, 5, 1, 6, 0] rfl)
      exact L109 5000 z23 0 _ _ _ h hP hS (lv_sub hl [2, 3, 4, 5, 6, 1, 0] rfl)
    refine g_icmp_ne (tgt := 103) hx hb dL_heat_68 (by decide) h (fun h => ?_) (fun h => ?_)
    · refine lv_iconst (v := 0) hx hb dL_heat_103 (by decide) ?_
      exact J104 0 _ _ _ h hP hS (lv_sub hl [0, 1, 2, 5, 6] rfl)
    · refine lv_iload_n hx hb dL_heat_71 rfl (lv_at hl 2 rfl) ?_
      refine lv_iload hx hb dL_heat_72 (lv_at hl 5 rfl) ?_
      refine g_icmp_gt (tgt := 103) hx hb dL_heat_74 (by decide) h (fun h => ?_) (fun h => ?_)
      · refine lv_iconst (v := 0) hx hb dL_heat_103 (by decide) ?_
        exact J104 0 _ _ _ h hP hS (lv_sub hl [0, 1, 2, 5, 6] rfl)
      · refine lv_iload_n hx hb dL_heat_77 rfl (lv_at hl 1 rfl) ?_
        refine lv_iconst (v := 3) hx hb dL_heat_78 (by decide) ?_
        obtain ⟨K86, hK86, h⟩ := k_j0_e h
        have J86 : ∀ (H : Heap) (locs : List Loc) (ls : Array Slot), K86 = some (r, r_n_ones, r_n_twos, r_t_ones, r_t_twos, r_t_settings, r_t_tick, r_t_energy, r_t_valuesPut, r_s_ring, r_s_oldest, r_s_count) → va_P (dC, dI) vwCl (wAll cyI cyC cyO ob n0 n1 n2 n3 t0 t1 t2 t3 s0 aR ro r1 r2 r3 x0 x1 x2 x3 x4 c25 c26 n_settings n_tick n_energy n_valuesPut c16 c17 c18 c19 c20 c21 c27 c28 c29 x_signs x_length x_position x_complete x_orders x_kinds x_numbers x_values) H → va_S (k_A (wAll cyI cyC cyO ob n0 n1 n2 n3 t0 t1 t2 t3 s0 aR ro r1 r2 r3 x0 x1 x2 x3 x4 n_ones n_twos n_settings n_tick n_energy n_valuesPut t_ones t_twos t_settings t_tick t_energy t_valuesPut s_ring s_oldest s_count x_signs x_length x_position x_complete x_orders x_kinds x_numbers x_values)) s.heap H locs → lv_has ls 9 [(0, .ref ob), (1, .int p1), (2, .int z1), (3, .int z8), (4, .int z15), (5, .int z22), (6, .int z23)] → W p l e (k_rm 7 158) s m [.ref ob, .int p1].toArray below meth c H locs 0 0 (MQ below (qMI r (dC, dI) (wAll cyI cyC cyO ob n0 n1 n2 n3 t0 t1 t2 t3 s0 aR ro r1 r2 r3 x0 x1 x2 x3 x4 n_ones n_twos n_settings n_tick n_energy n_valuesPut t_ones t_twos t_settings t_tick t_energy t_valuesPut s_ring s_oldest s_count x_signs x_length x_position x_complete x_orders x_kinds x_numbers x_values) (wAll cyI cyC cyO ob n0 n1 n2 n3 t0 t1 t2 t3 s0 aR ro r1 r2 r3 x0 x1 x2 x3 x4 r_n_ones r_n_twos n_settings n_tick n_energy n_valuesPut r_t_ones r_t_twos r_t_settings r_t_tick r_t_energy r_t_valuesPut r_s_ring r_s_oldest r_s_count x_signs x_length x_position x_complete x_orders x_kinds x_numbers x_values)) [.ref ob, .int p1].toArray s 0 0 (k_A (wAll cyI cyC cyO ob n0 n1 n2 n3 t0 t1 t2 t3 s0 aR ro r1 r2 r3 x0 x1 x2 x3 x4 n_ones n_twos n_settings n_tick n_energy n_valuesPut t_ones t_twos t_settings t_tick t_energy t_valuesPut s_ring s_oldest s_count x_signs x_length x_position x_complete x_orders x_kinds x_numbers x_values))) (F0 m 86 ls []) := by
          intro  H locs ls h hP hS hl
          have h := k_a0 hK86 h
          refine lv_iload_n hx hb dL_heat_86 rfl (lv_at hl 3 rfl) ?_
          refine lv_bipush (v := 20) hx hb dL_heat_87 (by decide) ?_
          refine g_icmp_gt (tgt := 103) hx hb dL_heat_89 (by decide) h (fun h => ?_) (fun h => ?_)
          · refine lv_iconst (v := 0) hx hb dL_heat_103 (by decide) ?_
            exact J104 0 _ _ _ h hP hS (lv_sub hl [0, 1, 2, 5, 6] rfl)
          · refine lv_iload hx hb dL_heat_92 (lv_at hl 4 rfl) ?_
            refine lv_bipush (v := 16) hx hb dL_heat_94 (by decide) ?_
            refine g_icmp_gt (tgt := 103) hx hb dL_heat_96 (by decide) h (fun h => ?_) (fun h => ?_)
            · refine lv_iconst (v := 0) hx hb dL_heat_103 (by decide) ?_
              exact J104 0 _ _ _ h hP hS (lv_sub hl [0, 1, 2, 5, 6] rfl)
            · refine lv_iconst (v := 1) hx hb dL_heat_99 (by decide) ?_
              refine lv_goto (tgt := 104) hx hb dL_heat_100 (by decide) ?_
              exact J104 1 _ _ _ h hP hS (lv_sub hl [0, 1, 2, 5, 6] rfl)
        refine g_icmp_ge (tgt := 86) hx hb dL_heat_79 (by decide) h (fun h => ?_) (fun h => ?_)
        · exact J86  _ _ _ h hP hS (lv_sub hl [0, 1, 2, 3, 4, 5, 6] rfl)
        · refine lv_iload_n hx hb dL_heat_82 rfl (lv_at hl 2 rfl) ?_
          refine g_if_ne (tgt := 103) hx hb dL_heat_83 (by decide) h (fun h => ?_) (fun h => ?_)
          · refine lv_iconst (v := 0) hx hb dL_heat_103 (by decide) ?_
            exact J104 0 _ _ _ h hP hS (lv_sub hl [0, 1, 2, 5, 6] rfl)
          · exact J86  _ _ _ h hP hS (lv_sub hl [0, 1, 2, 3, 4, 5, 6] rfl)
  obtain ⟨S36, hS36⟩ : ∃ z, z = (fL_heat_s36 K62 n_ones n_twos n_settings n_tick) := ⟨_, rfl⟩
  rw [← hS36] at h
  have L36 : ∀ (n : Nat) (z37 : Int32) (z38 : Int32) (H : Heap) (locs : List Loc) (ls : Array Slot), k_l2 S36 n z37 z38 = some (r, r_n_ones, r_n_twos, r_t_ones, r_t_twos, r_t_settings, r_t_tick, r_t_energy, r_t_valuesPut, r_s_ring, r_s_oldest, r_s_count) → va_P (dC, dI) vwCl (wAll cyI cyC cyO ob n0 n1 n2 n3 t0 t1 t2 t3 s0 aR ro r1 r2 r3 x0 x1 x2 x3 x4 n_ones n_twos n_settings n_tick n_energy n_valuesPut c16 c17 c18 c19 c20 c21 s_ring s_oldest s_count x_signs x_length x_position x_complete x_orders x_kinds x_numbers x_values) H → va_S (k_A (wAll cyI cyC cyO ob n0 n1 n2 n3 t0 t1 t2 t3 s0 aR ro r1 r2 r3 x0 x1 x2 x3 x4 n_ones n_twos n_settings n_tick n_energy n_valuesPut t_ones t_twos t_settings t_tick t_energy t_valuesPut s_ring s_oldest s_count x_signs x_length x_position x_complete x_orders x_kinds x_numbers x_values)) s.heap H locs → lv_has ls 9 [(0, .ref ob), (1, .int p1), (2, .int z1), (3, .int z8), (4, .int z15), (5, .int z22), (6, .int z37), (7, .int z38)] → W p l e (k_rm 7 158) s m [.ref ob, .int p1].toArray below meth c H locs 0 0 (MQ below (qMI r (dC, dI) (wAll cyI cyC cyO ob n0 n1 n2 n3 t0 t1 t2 t3 s0 aR ro r1 r2 r3 x0 x1 x2 x3 x4 n_ones n_twos n_settings n_tick n_energy n_valuesPut t_ones t_twos t_settings t_tick t_energy t_valuesPut s_ring s_oldest s_count x_signs x_length x_position x_complete x_orders x_kinds x_numbers x_values) (wAll cyI cyC cyO ob n0 n1 n2 n3 t0 t1 t2 t3 s0 aR ro r1 r2 r3 x0 x1 x2 x3 x4 r_n_ones r_n_twos n_settings n_tick n_energy n_valuesPut r_t_ones r_t_twos r_t_settings r_t_tick r_t_energy r_t_valuesPut r_s_ring r_s_oldest r_s_count x_signs x_length x_position x_complete x_orders x_kinds x_numbers x_values)) [.ref ob, .int p1].toArray s 0 0 (k_A (wAll cyI cyC cyO ob n0 n1 n2 n3 t0 t1 t2 t3 s0 aR ro r1 r2 r3 x0 x1 x2 x3 x4 n_ones n_twos n_settings n_tick n_energy n_valuesPut t_ones t_twos t_settings t_tick t_energy t_valuesPut s_ring s_oldest s_count x_signs x_length x_position x_complete x_orders x_kinds x_numbers x_values))) (F0 m 36 ls []) := by
    intro n
    induction n with
    | zero =>
      intro z37 z38 H locs ls h
      exact (k_l2_0 h).elim
    | succ n ih36 =>
      intro z37 z38 H locs ls h hP hS hl
      have h := k_l2_s h
      have h := k_a3 hS36 h
      unfold fL_heat_s36 at h
      refine lv_iload hx hb dL_heat_36 (lv_at hl 7 rfl) ?_
      refine lv_bipush (v := 20) hx hb dL_heat_38 (by decide) ?_
      refine g_icmp_ge (tgt := 62) hx hb dL_heat_40 (by decide) h (fun h => ?_) (fun h => ?_)
      · exact J62 z37 _ _ _ h hP hS (lv_sub hl [0, 1, 2, 3, 4, 5, 6] rfl)
      · refine lv_iload hx hb dL_heat_43 (lv_at hl 6 rfl) ?_
        refine lv_aload_n hx hb dL_heat_45 rfl (lv_at hl 0 rfl) ?_
        refine lv_iload hx hb dL_heat_46 (lv_at hl 7 rfl) ?_
        refine lv_bipush (v := 8) hx hb dL_heat_48 (by decide) ?_
        obtain ⟨z39, hc50, h⟩ := k_b1_e h
        refine g_callRI_V (As := [.int z38, .int 8]) (rest := [.int z37]) hC (mX4_row l dC dI cyI cyC cyO ob n0 n1 n2 n3 t0 t1 t2 t3 s0 aR ro r1 r2 r3 x0 x1 x2 x3 x4 n_ones n_twos n_settings n_tick n_energy n_valuesPut c16 c17 c18 c19 c20 c21 s_ring s_oldest s_count x_signs x_length x_position x_complete x_orders x_kinds x_numbers x_values z38 8 hc50) q231 q232 q233 q8 q234 2 hdX4_row ⟨Nat.le_of_ble_eq_true rfl, Nat.le_of_ble_eq_true rfl⟩ ⟨Nat.le_of_ble_eq_true rfl, Nat.le_of_ble_eq_true rfl⟩ rfl rfl hl.1 (Nat.le_of_ble_eq_true rfl) hP hK (va_recv hK hP (ci := 3) (q0 := 0) rfl rfl) hS dL_heat_50 (fun H locs hk hS => ?_)
        have hP := k_kept hP hk
        refine g_iadd hx hb dL_heat_53 h (fun z40 h => ?_)
        refine lv_istore (lv' := [(6, .int z40), (0, .ref ob), (1, .int p1), (2, .int z1), (3, .int z8), (4, .int z15), (5, .int z22), (7, .int z38)]) hx hb dL_heat_54 hl (by decide) rfl (fun ls hl => ?_)
        refine g_iinc (dv := 1) hx hb dL_heat_56 hl (j := 7) rfl (by decide) (by decide) h (fun z41 ls h hl => ?_)
        have hl : lv_has ls 9 [(7, .int z41), (6, .int z40), (0, .ref ob), (1, .int p1), (2, .int z1), (3, .int z8), (4, .int z15), (5, .int z22)] := hl
        refine lv_goto (tgt := 36) hx hb dL_heat_59 (by decide) ?_
        exact ih36 z40 z41 _ _ _ h hP hS (lv_sub hl [2, 3, 4, 5, 6, 7, 1, 0] rfl)
  exact L36 5000 0 0 _ _ _ h hP hS (lv_sub hl [6, 7, 5, 4, 3, 2, 1, 0] rfl)
def fL_refresh_s104 (K180 : Int32 → Option (Int32 × (Nat → Int32) × (Nat → Int32) × Int32 × (Nat → SV) × Int32 × Int32)) (c5 : Nat → Int32) (c6 : Nat → Int32) (n_tick : Int32) (p1 : Int32) (rec104 : Int32 → Int32 → Option (Int32 × (Nat → Int32) × (Nat → Int32) × Int32 × (Nat → SV) × Int32 × Int32)) (z20 : Int32) (z21 : Int32) : Option (Int32 × (Nat → Int32) × (Nat → Int32) × Int32 × (Nat → SV) × Int32 × Int32) :=
  k_if (16 ≤ z21)
  (
    K180 z20)
  (
    k_j1
    (fun (z22 : Int32) =>
      k_let (z21 + 1) fun (z23 : Int32) =>
      rec104 z22 z23)
    (fun K172 =>
    k_if (z20 = 0)
    (
      K172 0)
    (
      k_b1 (fX4_fuse c5 c6 n_tick p1 z21 2) fun (z24 : Int32) =>
      k_b1 (fX4_fuse c5 c6 n_tick p1 z21 0) fun (z25 : Int32) =>
      k_j1
      (fun (z26 : Int32) =>
        k_if (z24 = z26)
        (
          k_b1 (fX4_fuse c5 c6 n_tick p1 z21 2) fun (z27 : Int32) =>
          k_if (z27 = 0)
          (
            K172 1)
          (
            k_b1 (fX4_fuse c5 c6 n_tick p1 z21 0) fun (z28 : Int32) =>
            k_if (z28 = 3)
            (
              K172 1)
            (
              K172 0)))
        (
          K172 0))
      (fun K141 =>
      k_if (z25 ≤ 1)
      (
        K141 0)
      (
        K141 1)))))
def fL_refresh_s21 (K47 : Int32 → Option (Int32 × (Nat → Int32) × (Nat → Int32) × Int32 × (Nat → SV) × Int32 × Int32)) (n_ones : Nat → Int32) (n_twos : Nat → Int32) (n_tick : Int32) (p1 : Int32) (rec21 : Int32 → Int32 → Option (Int32 × (Nat → Int32) × (Nat → Int32) × Int32 × (Nat → SV) × Int32 × Int32)) (z34 : Int32) (z35 : Int32) : Option (Int32 × (Nat → Int32) × (Nat → Int32) × Int32 × (Nat → SV) × Int32 × Int32) :=
  k_if (16 ≤ z35)
  (
    K47 z34)
  (
    k_b1 (fX4_fuse n_ones n_twos n_tick p1 z35 2) fun (z36 : Int32) =>
    k_let (z34 + z36) fun (z37 : Int32) =>
    k_let (z35 + 1) fun (z38 : Int32) =>
    rec21 z37 z38)
def fL_refresh (n_ones : Nat → Int32) (n_twos : Nat → Int32) (n_settings : Nat → Int32) (n_tick : Int32) (n_energy : Int32) (n_valuesPut : Int32) (s_ring : Nat → SV) (s_oldest : Int32) (s_count : Int32) (p1 : Int32) : Option (Int32 × (Nat → Int32) × (Nat → Int32) × Int32 × (Nat → SV) × Int32 × Int32) :=
  k_b1 (fX4_row n_ones n_twos n_settings n_tick p1 6) fun (z1 : Int32) =>
  k_b1 (fX4_count n_ones n_twos n_settings n_tick n_energy n_valuesPut s_count 8) fun (z2 : Int32) =>
  k_j1
  (fun (z3 : Int32) =>
    k_b7 (fX4_refresh n_ones n_twos n_settings n_tick n_energy n_valuesPut s_ring s_oldest s_count p1) fun (z4 : Int32) (c5 : Nat → Int32) (c6 : Nat → Int32) (c7 : Int32) (c8 : Nat → SV) (c9 : Int32) (c10 : Int32) =>
    k_j1
    (fun (z11 : Int32) =>
      k_j1
      (fun (z12 : Int32) =>
        k_if (z12 = 0)
        (
          some (0, c5, c6, c7, c8, c9, c10))
        (
          k_b7 (fX4_refresh c5 c6 n_settings n_tick c7 n_valuesPut c8 c9 c10 p1) fun (z13 : Int32) (c14 : Nat → Int32) (c15 : Nat → Int32) (c16 : Int32) (c17 : Nat → SV) (c18 : Int32) (c19 : Int32) =>
          k_if (z13 = 0)
          (
            some (1, c14, c15, c16, c17, c18, c19))
          (
            some (0, c14, c15, c16, c17, c18, c19))))
      (fun K180 =>
      k_l2 (fL_refresh_s104 K180 c5 c6 n_tick p1) 5000 z11 0))
    (fun K99 =>
    k_if (z4 < 0)
    (
      K99 0)
    (
      k_if (z1 < z4)
      (
        K99 0)
      (
        k_b1 (fX4_count c5 c6 n_settings n_tick c7 n_valuesPut c10 8) fun (z29 : Int32) =>
        k_let (3 * z3) fun (z30 : Int32) =>
        k_let (z2 + z30) fun (z31 : Int32) =>
        k_if (z29 = z31)
        (
          k_b1 (fX4_row c5 c6 n_settings n_tick p1 6) fun (z32 : Int32) =>
          k_let (z1 - z4) fun (z33 : Int32) =>
          k_if (z32 = z33)
          (
            K99 1)
          (
            K99 0))
        (
          K99 0)))))
  (fun K47 =>
  k_l2 (fL_refresh_s21 K47 n_ones n_twos n_tick p1) 5000 0 0)
theorem hdL_refresh : yL_refresh.cls ≠ "java/lang/invoke/MethodHandle" ∧ yL_refresh.cls ≠ "java/lang/invoke/VarHandle" ∧ (parseMethodDescriptor yL_refresh.desc).map (fun d => d.parameters.length) = some 2 := by decide +kernel
set_option maxRecDepth 100000 in
set_option maxHeartbeats 4000000 in
theorem mL_refresh (l : Launch) (dC : Nat → ClassId) (dI : Nat → Nat → Nat) (cyI cyC cyO : ClassId) (ob : Nat) (n0 : Nat) (n1 : Nat) (n2 : Nat) (n3 : Nat) (t0 : Nat) (t1 : Nat) (t2 : Nat) (t3 : Nat) (s0 : Nat) (aR : Nat) (ro : Nat → Nat) (r1 : Nat → Nat) (r2 : Nat → Nat) (r3 : Nat → Nat) (x0 : Nat) (x1 : Nat) (x2 : Nat) (x3 : Nat) (x4 : Nat) (n_ones : Nat → Int32) (n_twos : Nat → Int32) (n_settings : Nat → Int32) (n_tick : Int32) (n_energy : Int32) (n_valuesPut : Int32) (t_ones : Nat → Int32) (t_twos : Nat → Int32) (t_settings : Nat → Int32) (t_tick : Int32) (t_energy : Int32) (t_valuesPut : Int32) (s_ring : Nat → SV) (s_oldest : Int32) (s_count : Int32) (x_signs : Nat → Int32) (x_length : Int32) (x_position : Int32) (x_complete : Int32) (x_orders : Int32) (x_kinds : Nat → Int32) (x_numbers : Nat → Int32) (x_values : Nat → Int32) (p1 : Int32) {r : Int32} {r_n_ones : Nat → Int32} {r_n_twos : Nat → Int32} {r_n_energy : Int32} {r_s_ring : Nat → SV} {r_s_oldest : Int32} {r_s_count : Int32} (hf : fL_refresh n_ones n_twos n_settings n_tick n_energy n_valuesPut s_ring s_oldest s_count p1 = some (r, r_n_ones, r_n_twos, r_n_energy, r_s_ring, r_s_oldest, r_s_count)) : MetMI l yL_refresh cL_refresh 8 (some .boolean) 6 134 [.ref ob, .int p1] (dC, dI) (tyS cyI cyC cyO) (wAll cyI cyC cyO ob n0 n1 n2 n3 t0 t1 t2 t3 s0 aR ro r1 r2 r3 x0 x1 x2 x3 x4 n_ones n_twos n_settings n_tick n_energy n_valuesPut t_ones t_twos t_settings t_tick t_energy t_valuesPut s_ring s_oldest s_count x_signs x_length x_position x_complete x_orders x_kinds x_numbers x_values) (wAll cyI cyC cyO ob n0 n1 n2 n3 t0 t1 t2 t3 s0 aR ro r1 r2 r3 x0 x1 x2 x3 x4 r_n_ones r_n_twos n_settings n_tick r_n_energy n_valuesPut t_ones t_twos t_settings t_tick t_energy t_valuesPut r_s_ring r_s_oldest r_s_count x_signs x_length x_position x_complete x_orders x_kinds x_numbers x_values) r := by
  refine metMI_of (by decide) (Nat.le_of_ble_eq_true rfl) ?_
  intro p e s m below meth c ls hC hr hlk hP hK hD hl
  have hC : CallFix p m c cL_refresh 8 s [.ref ob, .int p1].toArray wA RL := hC
  obtain ⟨hx, hb, hml, hown, hts⟩ := id hC
  have hS : va_S (k_A (wAll cyI cyC cyO ob n0 n1 n2 n3 t0 t1 t2 t3 s0 aR ro r1 r2 r3 x0 x1 x2 x3 x4 n_ones n_twos n_settings n_tick n_energy n_valuesPut t_ones t_twos t_settings t_tick t_energy t_valuesPut s_ring s_oldest s_count x_signs x_length x_position x_complete x_orders x_kinds x_numbers x_values)) s.heap s.heap [] := va_S.rf
  have hl : lv_has ls 8 [(0, .ref ob), (1, .int p1)] := hl
  have h := hf
  unfold fL_refresh at h
  obtain ⟨H, hH⟩ : ∃ H, H = s.heap := ⟨_, rfl⟩
  obtain ⟨locs, hlo⟩ : ∃ locs : List Loc, locs = [] := ⟨_, rfl⟩
  rw [← hH] at hP
  rw [← hlo] at hS
  have hS : va_S (k_A (wAll cyI cyC cyO ob n0 n1 n2 n3 t0 t1 t2 t3 s0 aR ro r1 r2 r3 x0 x1 x2 x3 x4 n_ones n_twos n_settings n_tick n_energy n_valuesPut t_ones t_twos t_settings t_tick t_energy t_valuesPut s_ring s_oldest s_count x_signs x_length x_position x_complete x_orders x_kinds x_numbers x_values)) s.heap H locs := by rw [hH]; exact hS
  show W p l e (k_rm 6 134) s m [.ref ob, .int p1].toArray below meth c s.heap [] 0 0 _ _
  rw [← hlo, ← hH]
  refine lv_aload_n hx hb dL_refresh_0 rfl (lv_at hl 0 rfl) ?_
  refine lv_iload_n hx hb dL_refresh_1 rfl (lv_at hl 1 rfl) ?_
  refine lv_bipush (v := 6) hx hb dL_refresh_2 (by decide) ?_
  obtain ⟨z1, hc4, h⟩ := k_b1_e h
  refine g_callRI_V (As := [.int p1, .int 6]) (rest := []) hC (mX4_row l dC dI cyI cyC cyO ob n0 n1 n2 n3 t0 t1 t2 t3 s0 aR ro r1 r2 r3 x0 x1 x2 x3 x4 n_ones n_twos n_settings n_tick n_energy n_valuesPut t_ones t_twos t_settings t_tick t_energy t_valuesPut s_ring s_oldest s_count x_signs x_length x_position x_complete x_orders x_kinds x_numbers x_values p1 6 hc4) q231 q232 q233 q8 q234 2 hdX4_row ⟨Nat.le_of_ble_eq_true rfl, Nat.le_of_ble_eq_true rfl⟩ ⟨Nat.le_of_ble_eq_true rfl, Nat.le_of_ble_eq_true rfl⟩ rfl rfl hl.1 (Nat.le_of_ble_eq_true rfl) hP hK (va_recv hK hP (ci := 3) (q0 := 0) rfl rfl) hS dL_refresh_4 (fun H locs hk hS => ?_)
  have hP := k_kept hP hk
  refine lv_istore_n (lv' := [(2, .int z1), (0, .ref ob), (1, .int p1)]) hx hb dL_refresh_7 rfl hl (by decide) rfl (fun ls hl => ?_)
  refine lv_aload_n hx hb dL_refresh_8 rfl (lv_at hl 1 rfl) ?_
  refine lv_bipush (v := 8) hx hb dL_refresh_9 (by decide) ?_
  obtain ⟨z2, hc11, h⟩ := k_b1_e h
  refine g_callRI_V (As := [.int 8]) (rest := []) hC (mX4_count l dC dI cyI cyC cyO ob n0 n1 n2 n3 t0 t1 t2 t3 s0 aR ro r1 r2 r3 x0 x1 x2 x3 x4 n_ones n_twos n_settings n_tick n_energy n_valuesPut t_ones t_twos t_settings t_tick t_energy t_valuesPut s_ring s_oldest s_count x_signs x_length x_position x_complete x_orders x_kinds x_numbers x_values 8 hc11) q299 q300 q301 q8 q302 1 hdX4_count ⟨Nat.le_of_ble_eq_true rfl, Nat.le_of_ble_eq_true rfl⟩ ⟨Nat.le_of_ble_eq_true rfl, Nat.le_of_ble_eq_true rfl⟩ rfl rfl hl.1 (Nat.le_of_ble_eq_true rfl) hP hK (va_recv hK hP (ci := 3) (q0 := 0) rfl rfl) hS dL_refresh_11 (fun H locs hk hS => ?_)
  have hP := k_kept hP hk
  refine lv_istore_n (lv' := [(3, .int z2), (2, .int z1), (0, .ref ob), (1, .int p1)]) hx hb dL_refresh_14 rfl hl (by decide) rfl (fun ls hl => ?_)
  refine lv_iconst (v := 0) hx hb dL_refresh_15 (by decide) ?_
  refine lv_istore (lv' := [(4, .int 0), (3, .int z2), (2, .int z1), (0, .ref ob), (1, .int p1)]) hx hb dL_refresh_16 hl (by decide) rfl (fun ls hl => ?_)
  refine lv_iconst (v := 0) hx hb dL_refresh_18 (by decide) ?_
  refine lv_istore (lv' := [(5, .int 0), (4, .int 0), (3, .int z2), (2, .int z1), (0, .ref ob), (1, .int p1)]) hx hb dL_refresh_19 hl (by decide) rfl (fun ls hl => ?_)
  obtain ⟨K47, hK47, h⟩ := k_j1_e h
  have J47 : ∀ (z3 : Int32) (H : Heap) (locs : List Loc) (ls : Array Slot), K47 z3 = some (r, r_n_ones, r_n_twos, r_n_energy, r_s_ring, r_s_oldest, r_s_count) → va_P (dC, dI) vwCl (wAll cyI cyC cyO ob n0 n1 n2 n3 t0 t1 t2 t3 s0 aR ro r1 r2 r3 x0 x1 x2 x3 x4 n_ones n_twos n_settings n_tick n_energy n_valuesPut t_ones t_twos t_settings t_tick t_energy t_valuesPut s_ring s_oldest s_count x_signs x_length x_position x_complete x_orders x_kinds x_numbers x_values) H → va_S (k_A (wAll cyI cyC cyO ob n0 n1 n2 n3 t0 t1 t2 t3 s0 aR ro r1 r2 r3 x0 x1 x2 x3 x4 n_ones n_twos n_settings n_tick n_energy n_valuesPut t_ones t_twos t_settings t_tick t_energy t_valuesPut s_ring s_oldest s_count x_signs x_length x_position x_complete x_orders x_kinds x_numbers x_values)) s.heap H locs → lv_has ls 8 [(0, .ref ob), (1, .int p1), (2, .int z1), (3, .int z2), (4, .int z3)] → W p l e (k_rm 6 134) s m [.ref ob, .int p1].toArray below meth c H locs 0 0 (MQ below (qMI r (dC, dI) (wAll cyI cyC cyO ob n0 n1 n2 n3 t0 t1 t2 t3 s0 aR ro r1 r2 r3 x0 x1 x2 x3 x4 n_ones n_twos n_settings n_tick n_energy n_valuesPut t_ones t_twos t_settings t_tick t_energy t_valuesPut s_ring s_oldest s_count x_signs x_length x_position x_complete x_orders x_kinds x_numbers x_values) (wAll cyI cyC cyO ob n0 n1 n2 n3 t0 t1 t2 t3 s0 aR ro r1 r2 r3 x0 x1 x2 x3 x4 r_n_ones r_n_twos n_settings n_tick r_n_energy n_valuesPut t_ones t_twos t_settings t_tick t_energy t_valuesPut r_s_ring r_s_oldest r_s_count x_signs x_length x_position x_complete x_orders x_kinds x_numbers x_values)) [.ref ob, .int p1].toArray s 0 0 (k_A (wAll cyI cyC cyO ob n0 n1 n2 n3 t0 t1 t2 t3 s0 aR ro r1 r2 r3 x0 x1 x2 x3 x4 n_ones n_twos n_settings n_tick n_energy n_valuesPut t_ones t_twos t_settings t_tick t_energy t_valuesPut s_ring s_oldest s_count x_signs x_length x_position x_complete x_orders x_kinds x_numbers x_values))) (F0 m 47 ls []) := by
    intro z3 H locs ls h hP hS hl
    have h := k_a1 hK47 h
    refine lv_aload_n hx hb dL_refresh_47 rfl (lv_at hl 0 rfl) ?_
    refine lv_iload_n hx hb dL_refresh_48 rfl (lv_at hl 1 rfl) ?_
    obtain ⟨z4, c5, c6, c7, c8, c9, c10, hc49, h⟩ := k_b7_e h
    refine g_callMI_V (As := [.int p1]) (rest := []) hC (mX4_refresh l dC dI cyI cyC cyO ob n0 n1 n2 n3 t0 t1 t2 t3 s0 aR ro r1 r2 r3 x0 x1 x2 x3 x4 n_ones n_twos n_settings n_tick n_energy n_valuesPut t_ones t_twos t_settings t_tick t_energy t_valuesPut s_ring s_oldest s_count x_signs x_length x_position x_complete x_orders x_kinds x_numbers x_values p1 hc49) q447 q448 q449 q8 q450 1 hdX4_refresh ⟨Nat.le_of_ble_eq_true rfl, Nat.le_of_ble_eq_true rfl⟩ ⟨Nat.le_of_ble_eq_true rfl, Nat.le_of_ble_eq_true rfl⟩ rfl rfl hl.1 (Nat.le_of_ble_eq_true rfl) hP hK hD (va_recv hK hP (ci := 3) (q0 := 0) rfl rfl) hS dL_refresh_49 (fun H locs hPn hk hS => ?_)
    have hP : va_P (dC, dI) vwCl (wAll cyI cyC cyO ob n0 n1 n2 n3 t0 t1 t2 t3 s0 aR ro r1 r2 r3 x0 x1 x2 x3 x4 c5 c6 n_settings n_tick c7 n_valuesPut t_ones t_twos t_settings t_tick t_energy t_valuesPut c8 c9 c10 x_signs x_length x_position x_complete x_orders x_kinds x_numbers x_values) H := hPn
    have hD : va_D (k_A (wAll cyI cyC cyO ob n0 n1 n2 n3 t0 t1 t2 t3 s0 aR ro r1 r2 r3 x0 x1 x2 x3 x4 n_ones n_twos n_settings n_tick n_energy n_valuesPut t_ones t_twos t_settings t_tick t_energy t_valuesPut s_ring s_oldest s_count x_signs x_length x_position x_complete x_orders x_kinds x_numbers x_values)) (wAll cyI cyC cyO ob n0 n1 n2 n3 t0 t1 t2 t3 s0 aR ro r1 r2 r3 x0 x1 x2 x3 x4 c5 c6 n_settings n_tick c7 n_valuesPut t_ones t_twos t_settings t_tick t_energy t_valuesPut c8 c9 c10 x_signs x_length x_position x_complete x_orders x_kinds x_numbers x_values) := k_Dm hD rfl
    refine lv_istore (lv' := [(5, .int z4), (0, .ref ob), (1, .int p1), (2, .int z1), (3, .int z2), (4, .int z3)]) hx hb dL_refresh_52 hl (by decide) rfl (fun ls hl => ?_)
    refine lv_iload hx hb dL_refresh_54 (lv_at hl 0 rfl) ?_
    obtain ⟨K99, hK99, h⟩ := k_j1_e h
    have J99 : ∀ (z11 : Int32) (H : Heap) (locs : List Loc) (ls : Array Slot), K99 z11 = some (r, r_n_ones, r_n_twos, r_n_energy, r_s_ring, r_s_oldest, r_s_count) → va_P (dC, dI) vwCl (wAll cyI cyC cyO ob n0 n1 n2 n3 t0 t1 t2 t3 s0 aR ro r1 r2 r3 x0 x1 x2 x3 x4 c5 c6 n_settings n_tick c7 n_valuesPut t_ones t_twos t_settings t_tick t_energy t_valuesPut c8 c9 c10 x_signs x_length x_position x_complete x_orders x_kinds x_numbers x_values) H → va_S (k_A (wAll cyI cyC cyO ob n0 n1 n2 n3 t0 t1 t2 t3 s0 aR ro r1 r2 r3 x0 x1 x2 x3 x4 n_ones n_twos n_settings n_tick n_energy n_valuesPut t_ones t_twos t_settings t_tick t_energy t_valuesPut s_ring s_oldest s_count x_signs x_length x_position x_complete x_orders x_kinds x_numbers x_values)) s.heap H locs → lv_has ls 8 [(0, .ref ob), (1, .int p1)] → W p l e (k_rm 6 134) s m [.ref ob, .int p1].toArray below meth c H locs 0 0 (MQ below (qMI r (dC, dI) (wAll cyI cyC cyO ob n0 n1 n2 n3 t0 t1 t2 t3 s0 aR ro r1 r2 r3 x0 x1 x2 x3 x4 n_ones n_twos n_settings n_tick n_energy n_valuesPut t_ones t_twos t_settings t_tick t_energy t_valuesPut s_ring s_oldest s_count x_signs x_length x_position x_complete x_orders x_kinds x_numbers x_values) (wAll cyI cyC cyO ob n0 n1 n2 n3 t0 t1 t2 t3 s0 aR ro r1 r2 r3 x0 x1 x2 x3 x4 r_n_ones r_n_twos n_settings n_tick r_n_energy n_valuesPut t_ones t_twos t_settings t_tick t_energy t_valuesPut r_s_ring r_s_oldest r_s_count x_signs x_length x_position x_complete x_orders x_kinds x_numbers x_values)) [.ref ob, .int p1].toArray s 0 0 (k_A (wAll cyI cyC cyO ob n0 n1 n2 n3 t0 t1 t2 t3 s0 aR ro r1 r2 r3 x0 x1 x2 x3 x4 n_ones n_twos n_settings n_tick n_energy n_valuesPut t_ones t_twos t_settings t_tick t_energy t_valuesPut s_ring s_oldest s_count x_signs x_length x_position x_complete x_orders x_kinds x_numbers x_values))) (F0 m 99 ls [.int z11]) := by
      intro z11 H locs ls h hP hS hl
      have h := k_a1 hK99 h
      refine lv_istore (lv' := [(6, .int z11), (0, .ref ob), (1, .int p1)]) hx hb dL_refresh_99 hl (by decide) rfl (fun ls hl => ?_)
      refine lv_iconst (v := 0) hx hb dL_refresh_101 (by decide) ?_
      refine lv_istore (lv' := [(7, .int 0), (6, .int z11), (0, .ref ob), (1, .int p1)]) hx hb dL_refresh_102 hl (by decide) rfl (fun ls hl => ?_)
      obtain ⟨K180, hK180, h⟩ := k_j1_e h
      have J180 : ∀ (z12 : Int32) (H : Heap) (locs : List Loc) (ls : Array Slot), K180 z12 = some (r, r_n_ones, r_n_twos, r_n_energy, r_s_ring, r_s_oldest, r_s_count) → va_P (dC, dI) vwCl (wAll cyI cyC cyO ob n0 n1 n2 n3 t0 t1 t2 t3 s0 aR ro r1 r2 r3 x0 x1 x2 x3 x4 c5 c6 n_settings n_tick c7 n_valuesPut t_ones t_twos t_settings t_tick t_energy t_valuesPut c8 c9 c10 x_signs x_length x_position x_complete x_orders x_kinds x_numbers x_values) H → va_S (k_A (wAll cyI cyC cyO ob n0 n1 n2 n3 t0 t1 t2 t3 s0 aR ro r1 r2 r3 x0 x1 x2 x3 x4 n_ones n_twos n_settings n_tick n_energy n_valuesPut t_ones t_twos t_settings t_tick t_energy t_valuesPut s_ring s_oldest s_count x_signs x_length x_position x_complete x_orders x_kinds x_numbers x_values)) s.heap H locs → lv_has ls 8 [(0, .ref ob), (1, .int p1), (6, .int z12)] → W p l e (k_rm 6 134) s m [.ref ob, .int p1].toArray below meth c H locs 0 0 (MQ below (qMI r (dC, dI) (wAll cyI cyC cyO ob n0 n1 n2 n3 t0 t1 t2 t3 s0 aR ro r1 r2 r3 x0 x1 x2 x3 x4 n_ones n_twos n_settings n_tick n_energy n_valuesPut t_ones t_twos t_settings t_tick t_energy t_valuesPut s_ring s_oldest s_count x_signs x_length x_position x_complete x_orders x_kinds x_numbers x_values) (wAll cyI cyC cyO ob n0 n1 n2 n3 t0 t1 t2 t3 s0 aR ro r1 r2 r3 x0 x1 x2 x3 x4 r_n_ones r_n_twos n_settings n_tick r_n_energy n_valuesPut t_ones t_twos t_settings t_tick t_energy t_valuesPut r_s_ring r_s_oldest r_s_count x_signs x_length x_position x_complete x_orders x_kinds x_numbers x_values)) [.ref ob, .int p1].toArray s 0 0 (k_A (wAll cyI cyC cyO ob n0 n1 n2 n3 t0 t1 t2 t3 s0 aR ro r1 r2 r3 x0 x1 x2 x3 x4 n_ones n_twos n_settings n_tick n_energy n_valuesPut t_ones t_twos t_settings t_tick t_energy t_valuesPut s_ring s_oldest s_count x_signs x_length x_position x_complete x_orders x_kinds x_numbers x_values))) (F0 m 180 ls []) := by
        intro z12 H locs ls h hP hS hl
        have h := k_a1 hK180 h
        refine lv_iload hx hb dL_refresh_180 (lv_at hl 2 rfl) ?_
        refine g_if_eq (tgt := 197) hx hb dL_refresh_182 (by decide) h (fun h => ?_) (fun h => ?_)
        · refine lv_iconst (v := 0) hx hb dL_refresh_197 (by decide) ?_
          obtain ⟨e0, e1, e2, e3, e4, e5, e6⟩ := k_t7 h
          exact g_retMZ hx hb hr (by decide +kernel) hlk hS e0 (by rw [← e1, ← e2, ← e3, ← e4, ← e5, ← e6]; exact hP) dL_refresh_198
        · refine lv_aload_n hx hb dL_refresh_185 rfl (lv_at hl 0 rfl) ?_
          refine lv_iload_n hx hb dL_refresh_186 rfl (lv_at hl 1 rfl) ?_
          obtain ⟨z13, c14, c15, c16, c17, c18, c19, hc187, h⟩ := k_b7_e h
          refine g_callMI_V (As := [.int p1]) (rest := []) hC (mX4_refresh l dC dI cyI cyC cyO ob n0 n1 n2 n3 t0 t1 t2 t3 s0 aR ro r1 r2 r3 x0 x1 x2 x3 x4 c5 c6 n_settings n_tick c7 n_valuesPut t_ones t_twos t_settings t_tick t_energy t_valuesPut c8 c9 c10 x_signs x_length x_position x_complete x_orders x_kinds x_numbers x_values p1 hc187) q447 q448 q449 q8 q450 1 hdX4_refresh ⟨Nat.le_of_ble_eq_true rfl, Nat.le_of_ble_eq_true rfl⟩ ⟨Nat.le_of_ble_eq_true rfl, Nat.le_of_ble_eq_true rfl⟩ rfl rfl hl.1 (Nat.le_of_ble_eq_true rfl) hP hK hD (va_recv hK hP (ci := 3) (q0 := 0) rfl rfl) hS dL_refresh_187 (fun H locs hPn hk hS => ?_)
          have hP : va_P (dC, dI) vwCl (wAll cyI cyC cyO ob n0 n1 n2 n3 t0 t1 t2 t3 s0 aR ro r1 r2 r3 x0 x1 x2 x3 x4 c14 c15 n_settings n_tick c16 n_valuesPut t_ones t_twos t_settings t_tick t_energy t_valuesPut c17 c18 c19 x_signs x_length x_position x_complete x_orders x_kinds x_numbers x_values) H := hPn
          have hD : va_D (k_A (wAll cyI cyC cyO ob n0 n1 n2 n3 t0 t1 t2 t3 s0 aR ro r1 r2 r3 x0 x1 x2 x3 x4 n_ones n_twos n_settings n_tick n_energy n_valuesPut t_ones t_twos t_settings t_tick t_energy t_valuesPut s_ring s_oldest s_count x_signs x_length x_position x_complete x_orders x_kinds x_numbers x_values)) (wAll cyI cyC cyO ob n0 n1 n2 n3 t0 t1 t2 t3 s0 aR ro r1 r2 r3 x0 x1 x2 x3 x4 c14 c15 n_settings n_tick c16 n_valuesPut t_ones t_twos t_settings t_tick t_energy t_valuesPut c17 c18 c19 x_signs x_length x_position x_complete x_orders x_kinds x_numbers x_values) := k_Dm hD rfl
          refine g_if_ne (tgt := 197) hx hb dL_refresh_190 (by decide) h (fun h => ?_) (fun h => ?_)
          · refine lv_iconst (v := 0) hx hb dL_refresh_197 (by decide) ?_
            obtain ⟨e0, e1, e2, e3, e4, e5, e6⟩ := k_t7 h
            exact g_retMZ hx hb hr (by decide +kernel) hlk hS e0 (by rw [← e1, ← e2, ← e3, ← e4, ← e5, ← e6]; exact hP) dL_refresh_198
          · refine lv_iconst (v := 1) hx hb dL_refresh_193 (by decide) ?_
            refine lv_goto (tgt := 198) hx hb dL_refresh_194 (by decide) ?_
            obtain ⟨e0, e1, e2, e3, e4, e5, e6⟩ := k_t7 h
            exact g_retMZ hx hb hr (by decide +kernel) hlk hS e0 (by rw [← e1, ← e2, ← e3, ← e4, ← e5, ← e6]; exact hP) dL_refresh_198
      obtain ⟨S104, hS104⟩ : ∃ z, z = (fL_refresh_s104 K180 c5 c6 n_tick p1) := ⟨_, rfl⟩
      rw [← hS104] at h
      have L104 : ∀ (n : Nat) (z20 : Int32) (z21 : Int32) (H : Heap) (locs : List Loc) (ls : Array Slot), k_l2 S104 n z20 z21 = some (r, r_n_ones, r_n_twos, r_n_energy, r_s_ring, r_s_oldest, r_s_count) → va_P (dC, dI) vwCl (wAll cyI cyC cyO ob n0 n1 n2 n3 t0 t1 t2 t3 s0 aR ro r1 r2 r3 x0 x1 x2 x3 x4 c5 c6 n_settings n_tick c7 n_valuesPut t_ones t_twos t_settings t_tick t_energy t_valuesPut c8 c9 c10 x_signs x_length x_position x_complete x_orders x_kinds x_numbers x_values) H → va_S (k_A (wAll cyI cyC cyO ob n0 n1 n2 n3 t0 t1 t2 t3 s0 aR ro r1 r2 r3 x0 x1 x2 x3 x4 n_ones n_twos n_settings n_tick n_energy n_valuesPut t_ones t_twos t_settings t_tick t_energy t_valuesPut s_ring s_oldest s_count x_signs x_length x_position x_complete x_orders x_kinds x_numbers x_values)) s.heap H locs → lv_has ls 8 [(0, .ref ob), (1, .int p1), (6, .int z20), (7, .int z21)] → W p l e (k_rm 6 134) s m [.ref ob, .int p1].toArray below meth c H locs 0 0 (MQ below (qMI r (dC, dI) (wAll cyI cyC cyO ob n0 n1 n2 n3 t0 t1 t2 t3 s0 aR ro r1 r2 r3 x0 x1 x2 x3 x4 n_ones n_twos n_settings n_tick n_energy n_valuesPut t_ones t_twos t_settings t_tick t_energy t_valuesPut s_ring s_oldest s_count x_signs x_length x_position x_complete x_orders x_kinds x_numbers x_values) (wAll cyI cyC cyO ob n0 n1 n2 n3 t0 t1 t2 t3 s0 aR ro r1 r2 r3 x0 x1 x2 x3 x4 r_n_ones r_n_twos n_settings n_tick r_n_energy n_valuesPut t_ones t_twos t_settings t_tick t_energy t_valuesPut r_s_ring r_s_oldest r_s_count x_signs x_length x_position x_complete x_orders x_kinds x_numbers x_values)) [.ref ob, .int p1].toArray s 0 0 (k_A (wAll cyI cyC cyO ob n0 n1 n2 n3 t0 t1 t2 t3 s0 aR ro r1 r2 r3 x0 x1 x2 x3 x4 n_ones n_twos n_settings n_tick n_energy n_valuesPut t_ones t_twos t_settings t_tick t_energy t_valuesPut s_ring s_oldest s_count x_signs x_length x_position x_complete x_orders x_kinds x_numbers x_values))) (F0 m 104 ls []) := by
        intro n
        induction n with
        | zero =>
          intro z20 z21 H locs ls h
          exact (k_l2_0 h).elim
        | succ n ih104 =>
          intro z20 z21 H locs ls h hP hS hl
          have h := k_l2_s h
          have h := k_a3 hS104 h
          unfold fL_refresh_s104 at h
          refine lv_iload hx hb dL_refresh_104 (lv_at hl 3 rfl) ?_
          refine lv_bipush (v := 16) hx hb dL_refresh_106 (by decide) ?_
          refine g_icmp_ge (tgt := 180) hx hb dL_refresh_108 (by decide) h (fun h => ?_) (fun h => ?_)
          · exact J180 z20 _ _ _ h hP hS (lv_sub hl [0, 1, 2] rfl)
          · refine lv_iload hx hb dL_refresh_111 (lv_at hl 2 rfl) ?_
            obtain ⟨K172, hK172, h⟩ := k_j1_e h
            have J172 : ∀ (z22 : Int32) (H : Heap) (locs : List Loc) (ls : Array Slot), K172 z22 = some (r, r_n_ones, r_n_twos, r_n_energy, r_s_ring, r_s_oldest, r_s_count) → va_P (dC, dI) vwCl (wAll cyI cyC cyO ob n0 n1 n2 n3 t0 t1 t2 t3 s0 aR ro r1 r2 r3 x0 x1 x2 x3 x4 c5 c6 n_settings n_tick c7 n_valuesPut t_ones t_twos t_settings t_tick t_energy t_valuesPut c8 c9 c10 x_signs x_length x_position x_complete x_orders x_kinds x_numbers x_values) H → va_S (k_A (wAll cyI cyC cyO ob n0 n1 n2 n3 t0 t1 t2 t3 s0 aR ro r1 r2 r3 x0 x1 x2 x3 x4 n_ones n_twos n_settings n_tick n_energy n_valuesPut t_ones t_twos t_settings t_tick t_energy t_valuesPut s_ring s_oldest s_count x_signs x_length x_position x_complete x_orders x_kinds x_numbers x_values)) s.heap H locs → lv_has ls 8 [(0, .ref ob), (1, .int p1), (7, .int z21)] → W p l e (k_rm 6 134) s m [.ref ob, .int p1].toArray below meth c H locs 0 0 (MQ below (qMI r (dC, dI) (wAll cyI cyC cyO ob n0 n1 n2 n3 t0 t1 t2 t3 s0 aR ro r1 r2 r3 x0 x1 x2 x3 x4 n_ones n_twos n_settings n_tick n_energy n_valuesPut t_ones t_twos t_settings t_tick t_energy t_valuesPut s_ring s_oldest s_count x_signs x_length x_position x_complete x_orders x_kinds x_numbers x_values) (wAll cyI cyC cyO ob n0 n1 n2 n3 t0 t1 t2 t3 s0 aR ro r1 r2 r3 x0 x1 x2 x3 x4 r_n_ones r_n_twos n_settings n_tick r_n_energy n_valuesPut t_ones t_twos t_settings t_tick t_energy t_valuesPut r_s_ring r_s_oldest r_s_count x_signs x_length x_position x_complete x_orders x_kinds x_numbers x_values)) [.ref ob, .int p1].toArray s 0 0 (k_A (wAll cyI cyC cyO ob n0 n1 n2 n3 t0 t1 t2 t3 s0 aR ro r1 r2 r3 x0 x1 x2 x3 x4 n_ones n_twos n_settings n_tick n_energy n_valuesPut t_ones t_twos t_settings t_tick t_energy t_valuesPut s_ring s_oldest s_count x_signs x_length x_position x_complete x_orders x_kinds x_numbers x_values))) (F0 m 172 ls [.int z22]) := by
              intro z22 H locs ls h hP hS hl
              have h := k_a1 hK172 h
              refine lv_istore (lv' := [(6, .int z22), (0, .ref ob), (1, .int p1), (7, .int z21)]) hx hb dL_refresh_172 hl (by decide) rfl (fun ls hl => ?_)
              refine g_iinc (dv := 1) hx hb dL_refresh_174 hl (j := 3) rfl (by decide) (by decide) h (fun z23 ls h hl => ?_)
              have hl : lv_has ls 8 [(7, .int z23), (6, .int z22), (0, .ref ob), (1, .int p1)] := hl
              refine lv_goto (tgt := 104) hx hb dL_refresh_177 (by decide) ?_
              exact ih104 z22 z23 _ _ _ h hP hS (lv_sub hl [2, 3, 1, 0] rfl)
            refine g_if_eq (tgt := 171) hx hb dL_refresh_113 (by decide) h (fun h => ?_) (fun h => ?_)
            · refine lv_iconst (v := 0) hx hb dL_refresh_171 (by decide) ?_
              exact J172 0 _ _ _ h hP hS (lv_sub hl [0, 1, 3] rfl)
            · refine lv_aload_n hx hb dL_refresh_116 rfl (lv_at hl 0 rfl) ?_
              refine lv_iload_n hx hb dL_refresh_117 rfl (lv_at hl 1 rfl) ?_
              refine lv_iload hx hb dL_refresh_118 (lv_at hl 3 rfl) ?_
              refine lv_iconst (v := 2) hx hb dL_refresh_120 (by decide) ?_
              obtain ⟨z24, hc121, h⟩ := k_b1_e h
              refine g_callRI_V (As := [.int p1, .int z21, .int 2]) (rest := []) hC (mX4_fuse l dC dI cyI cyC cyO ob n0 n1 n2 n3 t0 t1 t2 t3 s0 aR ro r1 r2 r3 x0 x1 x2 x3 x4 c5 c6 n_settings n_tick c7 n_valuesPut t_ones t_twos t_settings t_tick t_energy t_valuesPut c8 c9 c10 x_signs x_length x_position x_complete x_orders x_kinds x_numbers x_values p1 z21 2 hc121) q442 q443 q444 q8 q445 3 hdX4_fuse ⟨Nat.le_of_ble_eq_true rfl, Nat.le_of_ble_eq_true rfl⟩ ⟨Nat.le_of_ble_eq_true rfl, Nat.le_of_ble_eq_true rfl⟩ rfl rfl hl.1 (Nat.le_of_ble_eq_true rfl) hP hK (va_recv hK hP (ci := 3) (q0 := 0) rfl rfl) hS dL_refresh_121 (fun H locs hk hS => ?_)
              have hP := k_kept hP hk
              refine lv_aload_n hx hb dL_refresh_124 rfl (lv_at hl 0 rfl) ?_
              refine lv_iload_n hx hb dL_refresh_125 rfl (lv_at hl 1 rfl) ?_
              refine lv_iload hx hb dL_refresh_126 (lv_at hl 3 rfl) ?_
              refine lv_iconst (v := 0) hx hb dL_refresh_128 (by decide) ?_
              obtain ⟨z25, hc129, h⟩ := k_b1_e h
              refine g_callRI_V (As := [.int p1, .int z21, .int 0]) (rest := [.int z24]) hC (mX4_fuse l dC dI cyI cyC cyO ob n0 n1 n2 n3 t0 t1 t2 t3 s0 aR ro r1 r2 r3 x0 x1 x2 x3 x4 c5 c6 n_settings n_tick c7 n_valuesPut t_ones t_twos t_settings t_tick t_energy t_valuesPut c8 c9 c10 x_signs x_length x_position x_complete x_orders x_kinds x_numbers x_values p1 z21 0 hc129) q442 q443 q444 q8 q445 3 hdX4_fuse ⟨Nat.le_of_ble_eq_true rfl, Nat.le_of_ble_eq_true rfl⟩ ⟨Nat.le_of_ble_eq_true rfl, Nat.le_of_ble_eq_true rfl⟩ rfl rfl hl.1 (Nat.le_of_ble_eq_true rfl) hP hK (va_recv hK hP (ci := 3) (q0 := 0) rfl rfl) hS dL_refresh_129 (fun H locs hk hS => ?_)
              have hP := k_kept hP hk
              refine lv_iconst (v := 1) hx hb dL_refresh_132 (by decide) ?_
              obtain ⟨K141, hK141, h⟩ := k_j1_e h
              have J141 : ∀ (z26 : Int32) (H : Heap) (locs : List Loc) (ls : Array Slot), K141 z26 = some (r, r_n_ones, r_n_twos, r_n_energy, r_s_ring, r_s_oldest, r_s_count) → va_P (dC, dI) vwCl (wAll cyI cyC cyO ob n0 n1 n2 n3 t0 t1 t2 t3 s0 aR ro r1 r2 r3 x0 x1 x2 x3 x4 c5 c6 n_settings n_tick c7 n_valuesPut t_ones t_twos t_settings t_tick t_energy t_valuesPut c8 c9 c10 x_signs x_length x_position x_complete x_orders x_kinds x_numbers x_values) H → va_S (k_A (wAll cyI cyC cyO ob n0 n1 n2 n3 t0 t1 t2 t3 s0 aR ro r1 r2 r3 x0 x1 x2 x3 x4 n_ones n_twos n_settings n_tick n_energy n_valuesPut t_ones t_twos t_settings t_tick t_energy t_valuesPut s_ring s_oldest s_count x_signs x_length x_position x_complete x_orders x_kinds x_numbers x_values)) s.heap H locs → lv_has ls 8 [(0, .ref ob), (1, .int p1), (7, .int z21)] → W p l e (k_rm 6 134) s m [.ref ob, .int p1].toArray below meth c H locs 0 0 (MQ below (qMI r (dC, dI) (wAll cyI cyC cyO ob n0 n1 n2 n3 t0 t1 t2 t3 s0 aR ro r1 r2 r3 x0 x1 x2 x3 x4 n_ones n_twos n_settings n_tick n_energy n_valuesPut t_ones t_twos t_settings t_tick t_energy t_valuesPut s_ring s_oldest s_count x_signs x_length x_position x_complete x_orders x_kinds x_numbers x_values) (wAll cyI cyC cyO ob n0 n1 n2 n3 t0 t1 t2 t3 s0 aR ro r1 r2 r3 x0 x1 x2 x3 x4 r_n_ones r_n_twos n_settings n_tick r_n_energy n_valuesPut t_ones t_twos t_settings t_tick t_energy t_valuesPut r_s_ring r_s_oldest r_s_count x_signs x_length x_position x_complete x_orders x_kinds x_numbers x_values)) [.ref ob, .int p1].toArray s 0 0 (k_A (wAll cyI cyC cyO ob n0 n1 n2 n3 t0 t1 t2 t3 s0 aR ro r1 r2 r3 x0 x1 x2 x3 x4 n_ones n_twos n_settings n_tick n_energy n_valuesPut t_ones t_twos t_settings t_tick t_energy t_valuesPut s_ring s_oldest s_count x_signs x_length x_position x_complete x_orders x_kinds x_numbers x_values))) (F0 m 141 ls [.int z26, .int z24]) := by
                intro z26 H locs ls h hP hS hl
                have h := k_a1 hK141 h
                refine g_icmp_ne (tgt := 171) hx hb dL_refresh_141 (by decide) h (fun h => ?_) (fun h => ?_)
                · refine lv_iconst (v := 0) hx hb dL_refresh_171 (by decide) ?_
                  exact J172 0 _ _ _ h hP hS (lv_sub hl [0, 1, 2] rfl)
                · refine lv_aload_n hx hb dL_refresh_144 rfl (lv_at hl 0 rfl) ?_
                  refine lv_iload_n hx hb dL_refresh_145 rfl (lv_at hl 1 rfl) ?_
                  refine lv_iload hx hb dL_refresh_146 (lv_at hl 2 rfl) ?_
                  refine lv_iconst (v := 2) hx hb dL_refresh_148 (by decide) ?_
                  obtain ⟨z27, hc149, h⟩ := k_b1_e h
                  refine g_callRI_V (As := [.int p1, .int z21, .int 2]) (rest := []) hC (mX4_fuse l dC dI cyI cyC cyO ob n0 n1 n2 n3 t0 t1 t2 t3 s0 aR ro r1 r2 r3 x0 x1 x2 x3 x4 c5 c6 n_settings n_tick c7 n_valuesPut t_ones t_twos t_settings t_tick t_energy t_valuesPut c8 c9 c10 x_signs x_length x_position x_complete x_orders x_kinds x_numbers x_values p1 z21 2 hc149) q442 q443 q444 q8 q445 3 hdX4_fuse ⟨Nat.le_of_ble_eq_true rfl, Nat.le_of_ble_eq_true rfl⟩ ⟨Nat.le_of_ble_eq_true rfl, Nat.le_of_ble_eq_true rfl⟩ rfl rfl hl.1 (Nat.le_of_ble_eq_true rfl) hP hK (va_recv hK hP (ci := 3) (q0 := 0) rfl rfl) hS dL_refresh_149 (fun H locs hk hS => ?_)
                  have hP := k_kept hP hk
                  refine g_if_eq (tgt := 167) hx hb dL_refresh_152 (by decide) h (fun h => ?_) (fun h => ?_)
                  · refine lv_iconst (v := 1) hx hb dL_refresh_167 (by decide) ?_
                    refine lv_goto (tgt := 172) hx hb dL_refresh_168 (by decide) ?_
                    exact J172 1 _ _ _ h hP hS (lv_sub hl [0, 1, 2] rfl)
                  · refine lv_aload_n hx hb dL_refresh_155 rfl (lv_at hl 0 rfl) ?_
                    refine lv_iload_n hx hb dL_refresh_156 rfl (lv_at hl 1 rfl) ?_
                    refine lv_iload hx hb dL_refresh_157 (lv_at hl 2 rfl) ?_
                    refine lv_iconst (v := 0) hx hb dL_refresh_159 (by decide) ?_
                    obtain ⟨z28, hc160, h⟩ := k_b1_e h
                    refine g_callRI_V (As := [.int p1, .int z21, .int 0]) (rest := []) hC (mX4_fuse l dC dI cyI cyC cyO ob n0 n1 n2 n3 t0 t1 t2 t3 s0 aR ro r1 r2 r3 x0 x1 x2 x3 x4 c5 c6 n_settings n_tick c7 n_valuesPut t_ones t_twos t_settings t_tick t_energy t_valuesPut c8 c9 c10 x_signs x_length x_position x_complete x_orders x_kinds x_numbers x_values p1 z21 0 hc160) q442 q443 q444 q8 q445 3 hdX4_fuse ⟨Nat.le_of_ble_eq_true rfl, Nat.le_of_ble_eq_true rfl⟩ ⟨Nat.le_of_ble_eq_true rfl, Nat.le_of_ble_eq_true rfl⟩ rfl rfl hl.1 (Nat.le_of_ble_eq_true rfl) hP hK (va_recv hK hP (ci := 3) (q0 := 0) rfl rfl) hS dL_refresh_160 (fun H locs hk hS => ?_)
                    have hP := k_kept hP hk
                    refine lv_iconst (v := 3) hx hb dL_refresh_163 (by decide) ?_
                    refine g_icmp_ne (tgt := 171) hx hb dL_refresh_164 (by decide) h (fun h => ?_) (fun h => ?_)
                    · refine lv_iconst (v := 0) hx hb dL_refresh_171 (by decide) ?_
                      exact J172 0 _ _ _ h hP hS (lv_sub hl [0, 1, 2] rfl)
                    · refine lv_iconst (v := 1) hx hb dL_refresh_167 (by decide) ?_
                      refine lv_goto (tgt := 172) hx hb dL_refresh_168 (by decide) ?_
                      exact J172 1 _ _ _ h hP hS (lv_sub hl [0, 1, 2] rfl)
              refine g_icmp_le (tgt := 140) hx hb dL_refresh_133 (by decide) h (fun h => ?_) (fun h => ?_)
              · refine lv_iconst (v := 0) hx hb dL_refresh_140 (by decide) ?_
                exact J141 0 _ _ _ h hP hS (lv_sub hl [0, 1, 3] rfl)
              · refine lv_iconst (v := 1) hx hb dL_refresh_136 (by decide) ?_
                refine lv_goto (tgt := 141) hx hb dL_refresh_137 (by decide) ?_
                exact J141 1 _ _ _ h hP hS (lv_sub hl [0, 1, 3] rfl)
      exact L104 5000 z11 0 _ _ _ h hP hS (lv_sub hl [2, 3, 1, 0] rfl)
    refine g_if_lt (tgt := 98) hx hb dL_refresh_56 (by decide) h (fun h => ?_) (fun h => ?_)
    · refine lv_iconst (v := 0) hx hb dL_refresh_98 (by decide) ?_
      exact J99 0 _ _ _ h hP hS (lv_sub hl [1, 2] rfl)
    · refine lv_iload hx hb dL_refresh_59 (lv_at hl 0 rfl) ?_
      refine lv_iload_n hx hb dL_refresh_61 rfl (lv_at hl 3 rfl) ?_
      refine g_icmp_gt (tgt := 98) hx hb dL_refresh_62 (by decide) h (fun h => ?_) (fun h => ?_)
      · refine lv_iconst (v := 0) hx hb dL_refresh_98 (by decide) ?_
        exact J99 0 _ _ _ h hP hS (lv_sub hl [1, 2] rfl)
      · refine lv_aload_n hx hb dL_refresh_65 rfl (lv_at hl 1 rfl) ?_
        refine lv_bipush (v := 8) hx hb dL_refresh_66 (by decide) ?_
        obtain ⟨z29, hc68, h⟩ := k_b1_e h
        refine g_callRI_V (As := [.int 8]) (rest := []) hC (mX4_count l dC dI cyI cyC cyO ob n0 n1 n2 n3 t0 t1 t2 t3 s0 aR ro r1 r2 r3 x0 x1 x2 x3 x4 c5 c6 n_settings n_tick c7 n_valuesPut t_ones t_twos t_settings t_tick t_energy t_valuesPut c8 c9 c10 x_signs x_length x_position x_complete x_orders x_kinds x_numbers x_values 8 hc68) q299 q300 q301 q8 q302 1 hdX4_count ⟨Nat.le_of_ble_eq_true rfl, Nat.le_of_ble_eq_true rfl⟩ ⟨Nat.le_of_ble_eq_true rfl, Nat.le_of_ble_eq_true rfl⟩ rfl rfl hl.1 (Nat.le_of_ble_eq_true rfl) hP hK (va_recv hK hP (ci := 3) (q0 := 0) rfl rfl) hS dL_refresh_68 (fun H locs hk hS => ?_)
        have hP := k_kept hP hk
        refine lv_iload_n hx hb dL_refresh_71 rfl (lv_at hl 4 rfl) ?_
        refine lv_iconst (v := 3) hx hb dL_refresh_72 (by decide) ?_
        refine lv_iload hx hb dL_refresh_73 (lv_at hl 5 rfl) ?_
        refine g_imul hx hb dL_refresh_75 h (fun z30 h => ?_)
        refine g_iadd hx hb dL_refresh_76 h (fun z31 h => ?_)
        refine g_icmp_ne (tgt := 98) hx hb dL_refresh_77 (by decide) h (fun h => ?_) (fun h => ?_)
        · refine lv_iconst (v := 0) hx hb dL_refresh_98 (by decide) ?_
          exact J99 0 _ _ _ h hP hS (lv_sub hl [1, 2] rfl)
        · refine lv_aload_n hx hb dL_refresh_80 rfl (lv_at hl 1 rfl) ?_
          refine lv_iload_n hx hb dL_refresh_81 rfl (lv_at hl 2 rfl) ?_
          refine lv_bipush (v := 6) hx hb dL_refresh_82 (by decide) ?_
          obtain ⟨z32, hc84, h⟩ := k_b1_e h
          refine g_callRI_V (As := [.int p1, .int 6]) (rest := []) hC (mX4_row l dC dI cyI cyC cyO ob n0 n1 n2 n3 t0 t1 t2 t3 s0 aR ro r1 r2 r3 x0 x1 x2 x3 x4 c5 c6 n_settings n_tick c7 n_valuesPut t_ones t_twos t_settings t_tick t_energy t_valuesPut c8 c9 c10 x_signs x_length x_position x_complete x_orders x_kinds x_numbers x_values p1 6 hc84) q231 q232 q233 q8 q234 2 hdX4_row ⟨Nat.le_of_ble_eq_true rfl, Nat.le_of_ble_eq_true rfl⟩ ⟨Nat.le_of_ble_eq_true rfl, Nat.le_of_ble_eq_true rfl⟩ rfl rfl hl.1 (Nat.le_of_ble_eq_true rfl) hP hK (va_recv hK hP (ci := 3) (q0 := 0) rfl rfl) hS dL_refresh_84 (fun H locs hk hS => ?_)
          have hP := k_kept hP hk
          refine lv_iload_n hx hb dL_refresh_87 rfl (lv_at hl 3 rfl) ?_
          refine lv_iload hx hb dL_refresh_88 (lv_at hl 0 rfl) ?_
          refine g_isub hx hb dL_refresh_90 h (fun z33 h => ?_)
          refine g_icmp_ne (tgt := 98) hx hb dL_refresh_91 (by decide) h (fun h => ?_) (fun h => ?_)
          · refine lv_iconst (v := 0) hx hb dL_refresh_98 (by decide) ?_
            exact J99 0 _ _ _ h hP hS (lv_sub hl [1, 2] rfl)
          · refine lv_iconst (v := 1) hx hb dL_refresh_94 (by decide) ?_
            refine lv_goto (tgt := 99) hx hb dL_refresh_95 (by decide) ?_
            exact J99 1 _ _ _ h hP hS (lv_sub hl [1, 2] rfl)
  obtain ⟨S21, hS21⟩ : ∃ z, z = (fL_refresh_s21 K47 n_ones n_twos n_tick p1) := ⟨_, rfl⟩
  rw [← hS21] at h
  have L21 : ∀ (n : Nat) (z34 : Int32) (z35 : Int32) (H : Heap) (locs : List Loc) (ls : Array Slot), k_l2 S21 n z34 z35 = some (r, r_n_ones, r_n_twos, r_n_energy, r_s_ring, r_s_oldest, r_s_count) → va_P (dC, dI) vwCl (wAll cyI cyC cyO ob n0 n1 n2 n3 t0 t1 t2 t3 s0 aR ro r1 r2 r3 x0 x1 x2 x3 x4 n_ones n_twos n_settings n_tick n_energy n_valuesPut t_ones t_twos t_settings t_tick t_energy t_valuesPut s_ring s_oldest s_count x_signs x_length x_position x_complete x_orders x_kinds x_numbers x_values) H → va_S (k_A (wAll cyI cyC cyO ob n0 n1 n2 n3 t0 t1 t2 t3 s0 aR ro r1 r2 r3 x0 x1 x2 x3 x4 n_ones n_twos n_settings n_tick n_energy n_valuesPut t_ones t_twos t_settings t_tick t_energy t_valuesPut s_ring s_oldest s_count x_signs x_length x_position x_complete x_orders x_kinds x_numbers x_values)) s.heap H locs → lv_has ls 8 [(0, .ref ob), (1, .int p1), (2, .int z1), (3, .int z2), (4, .int z34), (5, .int z35)] → W p l e (k_rm 6 134) s m [.ref ob, .int p1].toArray below meth c H locs 0 0 (MQ below (qMI r (dC, dI) (wAll cyI cyC cyO ob n0 n1 n2 n3 t0 t1 t2 t3 s0 aR ro r1 r2 r3 x0 x1 x2 x3 x4 n_ones n_twos n_settings n_tick n_energy n_valuesPut t_ones t_twos t_settings t_tick t_energy t_valuesPut s_ring s_oldest s_count x_signs x_length x_position x_complete x_orders x_kinds x_numbers x_values) (wAll cyI cyC cyO ob n0 n1 n2 n3 t0 t1 t2 t3 s0 aR ro r1 r2 r3 x0 x1 x2 x3 x4 r_n_ones r_n_twos n_settings n_tick r_n_energy n_valuesPut t_ones t_twos t_settings t_tick t_energy t_valuesPut r_s_ring r_s_oldest r_s_count x_signs x_length x_position x_complete x_orders x_kinds x_numbers x_values)) [.ref ob, .int p1].toArray s 0 0 (k_A (wAll cyI cyC cyO ob n0 n1 n2 n3 t0 t1 t2 t3 s0 aR ro r1 r2 r3 x0 x1 x2 x3 x4 n_ones n_twos n_settings n_tick n_energy n_valuesPut t_ones t_twos t_settings t_tick t_energy t_valuesPut s_ring s_oldest s_count x_signs x_length x_position x_complete x_orders x_kinds x_numbers x_values))) (F0 m 21 ls []) := by
    intro n
    induction n with
    | zero =>
      intro z34 z35 H locs ls h
      exact (k_l2_0 h).elim
    | succ n ih21 =>
      intro z34 z35 H locs ls h hP hS hl
      have h := k_l2_s h
      have h := k_a3 hS21 h
      unfold fL_refresh_s21 at h
      refine lv_iload hx hb dL_refresh_21 (lv_at hl 5 rfl) ?_
      refine lv_bipush (v := 16) hx hb dL_refresh_23 (by decide) ?_
      refine g_icmp_ge (tgt := 47) hx hb dL_refresh_25 (by decide) h (fun h => ?_) (fun h => ?_)
      · exact J47 z34 _ _ _ h hP hS (lv_sub hl [0, 1, 2, 3, 4] rfl)
      · refine lv_iload hx hb dL_refresh_28 (lv_at hl 4 rfl) ?_
        refine lv_aload_n hx hb dL_refresh_30 rfl (lv_at hl 0 rfl) ?_
        refine lv_iload_n hx hb dL_refresh_31 rfl (lv_at hl 1 rfl) ?_
        refine lv_iload hx hb dL_refresh_32 (lv_at hl 5 rfl) ?_
        refine lv_iconst (v := 2) hx hb dL_refresh_34 (by decide) ?_
        obtain ⟨z36, hc35, h⟩ := k_b1_e h
        refine g_callRI_V (As := [.int p1, .int z35, .int 2]) (rest := [.int z34]) hC (mX4_fuse l dC dI cyI cyC cyO ob n0 n1 n2 n3 t0 t1 t2 t3 s0 aR ro r1 r2 r3 x0 x1 x2 x3 x4 n_ones n_twos n_settings n_tick n_energy n_valuesPut t_ones t_twos t_settings t_tick t_energy t_valuesPut s_ring s_oldest s_count x_signs x_length x_position x_complete x_orders x_kinds x_numbers x_values p1 z35 2 hc35) q442 q443 q444 q8 q445 3 hdX4_fuse ⟨Nat.le_of_ble_eq_true rfl, Nat.le_of_ble_eq_true rfl⟩ ⟨Nat.le_of_ble_eq_true rfl, Nat.le_of_ble_eq_true rfl⟩ rfl rfl hl.1 (Nat.le_of_ble_eq_true rfl) hP hK (va_recv hK hP (ci := 3) (q0 := 0) rfl rfl) hS dL_refresh_35 (fun H locs hk hS => ?_)
        have hP := k_kept hP hk
        refine g_iadd hx hb dL_refresh_38 h (fun z37 h => ?_)
        refine lv_istore (lv' := [(4, .int z37), (0, .ref ob), (1, .int p1), (2, .int z1), (3, .int z2), (5, .int z35)]) hx hb dL_refresh_39 hl (by decide) rfl (fun ls hl => ?_)
        refine g_iinc (dv := 1) hx hb dL_refresh_41 hl (j := 5) rfl (by decide) (by decide) h (fun z38 ls h hl => ?_)
        have hl : lv_has ls 8 [(5, .int z38), (4, .int z37), (0, .ref ob), (1, .int p1), (2, .int z1), (3, .int z2)] := hl
        refine lv_goto (tgt := 21) hx hb dL_refresh_44 (by decide) ?_
        exact ih21 z37 z38 _ _ _ h hP hS (lv_sub hl [2, 3, 4, 5, 1, 0] rfl)
  exact L21 5000 0 0 _ _ _ h hP hS (lv_sub hl [4, 5, 3, 2, 1, 0] rfl)
