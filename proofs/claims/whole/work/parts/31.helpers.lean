/-! the law's helpers: a call that may throw, its exceptions caught -/
def k_N (U : State) : Prop := va_Nc "java/lang/IllegalArgumentException" "java/lang/IndexOutOfBoundsException" U ∧ va_Nc "java/lang/IllegalStateException" "java/lang/IndexOutOfBoundsException" U ∧ va_Nc "java/lang/IllegalStateException" "java/lang/IllegalArgumentException" U
theorem k_N.moved {u U : State} (hvm : u.vm.Alike U.vm) (h : k_N u) : k_N U := ⟨va_Nc.moved hvm h.1, va_Nc.moved hvm h.2.1, va_Nc.moved hvm h.2.2⟩
abbrev tyL (cyI cyC cyO cyJ : ClassId) : List (ClassId × FieldType) := [(cyI, .int), (cyC, .char), (cyO, .object "FuseRows$State"), (cyJ, .long)]
abbrev wO (cyJ : ClassId) (oa : Nat) (f : Nat → Int64) : va_W := [(oa, .inl (cyJ, 1, .inr (.inl f)))]
def wMh (y : MethodName) (c : ByteArray) (n : Nat) (rt : Option FieldType) (hh : List (Nat × Nat × Nat × Nat)) : List Cond := .codeWith y c n rt hh :: wA
theorem wMh_in {y : MethodName} {c : ByteArray} {n : Nat} {rt : Option FieldType} {hh : List (Nat × Nat × Nat × Nat)} (q : (.codeWith y c n rt hh : Cond) ∈ wA) : GoodIn wA (wMh y c n rt hh) := by
  intro w hw
  rcases List.mem_cons.mp hw with rfl | hw
  · exact ⟨q, good_of_word (wA_good q)⟩
  · exact ⟨hw, good_of_word (wA_good hw)⟩
theorem wMh_S {own : String} {idx : Nat} {y : MethodName} {c : ByteArray} {n : Nat} {rt : Option FieldType} {hh : List (Nat × Nat × Nat × Nat)} (q1 : (.methodLink own idx y : Cond) ∈ wA) (q2 : (.static y : Cond) ∈ wA) (q4 : (.initialized y.cls : Cond) ∈ wA) (q5 : (.codeWith y c n rt hh : Cond) ∈ wA) : GoodIn wA (va_wsS own idx y (wMh y c n rt hh)) := by
  intro w hw
  rcases List.mem_append.mp hw with h | h
  · have h2 : w ∈ wA := by
      simp only [List.mem_cons, List.not_mem_nil, or_false] at h
      rcases h with rfl | rfl | rfl <;> assumption
    exact ⟨h2, good_of_word (wA_good h2)⟩
  · exact wMh_in q5 w h
abbrev k_PH (D : va_G) (tys : List (ClassId × FieldType)) (ws : va_W) (ad : Nat → Nat) : State → Prop := fun U => va_P D vwCl ws U.heap ∧ va_K D vwCl tys U ∧ va_D (fun _ => True) ws ∧ k_E ad (k_A ws) U U.heap ∧ k_N U
abbrev qHX : String → State → State → Prop := vx_X (fun (_ : Unit) => True) (fun _ _ _ => False) kF
abbrev MetH (l : Launch) (y : MethodName) (c : ByteArray) (n : Nat) (hh : List (Nat × Nat × Nat × Nat)) (f L mc ms : Nat) (As : List Value) (D : va_G) (tys : List (ClassId × FieldType)) (ws ws2 : va_W) (ad : Nat → Nat) (r : Int32) : Prop := vx_Met l y (wMh y c n (some .int) hh) (k_rmx f L mc ms) (va_Pc As (k_PH D tys ws ad)) (qMI r D ws ws2) qHX mc ms (k_A ws)
theorem metH_of {l : Launch} {y : MethodName} {cc : ByteArray} {n : Nat} {hh : List (Nat × Nat × Nat × Nat)} {f L mc ms : Nat} {As : List Value} {D : va_G} {tys : List (ClassId × FieldType)} {ws ws2 : va_W} {ad : Nat → Nat} {r : Int32} (hy : plainName y.cls = true) (hn : (lg_sl As).length ≤ n)
    (body : ∀ (p : Program) (e : Env) (s : State) (m : MethodId) (below : List Frame) (meth : Method) (c : Code) (ls : Array Slot), CallFix p m c cc n s As.toArray wA y.cls → meth.sig.returnType = some .int → meth.locks = false → c.exceptionTable.toList = tableOf hh → va_P D vwCl ws s.heap → va_K D vwCl tys s → va_D (k_A ws) ws → k_E ad (k_A ws) s s.heap → k_N s → lv_has ls n (lv_args 0 As) →
      W p l e (k_rmx f L mc ms) s m As.toArray below meth c s.heap [] 0 0 (vx_MQ below (qMI r D ws ws2) qHX As.toArray s mc ms (k_A ws)) (F0 m 0 ls [])) : MetH l y cc n hh f L mc ms As D tys ws ws2 ad r := by
  refine vx_ofWH (cc := cc) (maxL := n) (ret := some .int) (hh := hh) hy rfl ?_
  intro p e s m args below meth c s₁ B hml hv
  obtain ⟨rfl, hv⟩ := hv
  have hts := atoms_spec (ws := wMh y cc n (some .int) hh) B.pre
  have hown : s.vm.findClass y.cls = some m.cls := findClass_of_methodNamed B.named
  have hex := vx_table (x := y) B (hts _ List.mem_cons_self)
  rw [lg_entry_eq]
  exact body p e s m below meth c _ ⟨B.exec, B.bytes, hml, hown, fun w h => hts w (List.mem_cons_of_mem _ h)⟩ B.returns B.notSynchronized hex hv.1 hv.2.1 (k_Ds hv.2.2.1) hv.2.2.2.1 hv.2.2.2.2 (lv_entry As hn)
section KH
variable {p : Program} {l : Launch} {e : Env} {R : Room} {s : State} {m : MethodId} {args : Array Value} {below : List Frame} {meth : Method} {c : Code} {H : Heap} {locs : List Loc} {cells slots : Nat} {Q : State → Prop}
variable {cc : ByteArray} {pc nL : Nat} {ls : Array Slot} {rest st0 As : List Value} {D : va_G} {tys : List (ClassId × FieldType)} {ws ws2 wc wc2 : va_W} {own C : String} {index maxL f L b : Nat} {y : MethodName} {bytes : ByteArray} {ret : Option FieldType} {A0 : Nat → Prop} {ad : Nat → Nat} {k9 mc ms : Nat} {r r0 : Int32} {hh : List (Nat × Nat × Nat × Nat)}
theorem g_retH {v : Int32} (hx : p.tables.exec = Jvm.exec) (hb : c.code = cc) (hr : meth.sig.returnType = some .int) (hlk : meth.locks = false) (hc : cells ≤ mc) (hs : slots ≤ ms) (hS : va_S (k_A ws) s.heap H locs) (h : v = r) (hP : va_P D vwCl ws2 H) (d : decode cc pc = .ok (.ireturn, 1)) : W p l e R s m args below meth c H locs cells slots (vx_MQ below (qMI r D ws ws2) qHX args s mc ms (k_A ws)) (F0 m pc ls [.int v]) :=
  W.widen hc hs (vx_ret (W.iret hx hb hr (fun t ht _ => ⟨⟨v, (), rfl, h, by show va_P D vwCl ws2 t.heap; rw [ht]; exact hP⟩, hS.F ht⟩) hS.2.2 d hlk))
theorem g_callT_V (hC : CallFix p m c cc nL s args wA own) (hM : MetT l y bytes maxL ret f L mc ms (.ref b :: As) D tys wc wc2 ad k9 r0) (q1 : (.methodLink own index y : Cond) ∈ wA) (q2 : (.instanceMethod y : Cond) ∈ wA) (q3 : (.selects C y y : Cond) ∈ wA) (q4 : (.initialized C : Cond) ∈ wA) (q5 : (.code y bytes maxL ret : Cond) ∈ wA) (n : Nat) (hd : y.cls = C ∧ y.cls ≠ "java/lang/invoke/MethodHandle" ∧ y.cls ≠ "java/lang/invoke/VarHandle" ∧ (parseMethodDescriptor y.desc).map (fun d => d.parameters.length) = some n) (hR : f + 1 ≤ R.frames ∧ 8 + (maxL + 11) + L ≤ R.locals) (hcs : cells + mc ≤ R.cells ∧ slots + ms ≤ R.slots) (hn : As.length = n) (hst : st0 = As.reverse ++ .ref b :: rest) (hlen : ls.size = nL) (hcat : (rest.map fun v => v.category).sum ≤ 8) (hPc : va_P D vwCl wc H) (hKc : va_K D vwCl tys s) (hDc : va_D A0 wc) (hrc : ∃ cell : Cell, H[b]? = some cell ∧ cell.vm.isStatics = false ∧ s.vm.findClass C = some cell.cls) (hS : va_S A0 s.heap H locs) (d : decode cc pc = .ok (.invokevirtual index, 3)) (hE : k_E ad A0 s s.heap)
    (kx : ∀ (E : String) (ce : Cell) (q9 : Addr) (H1 : Heap) (locs1 : List Loc), k_X k9 E → va_P D vwCl wc2 H1 → (∀ q : Nat, q < H.size → ¬ k_A wc q → H1[q]? = H[q]?) → va_S A0 s.heap H1 locs1 → H1[q9]? = some ce → ce.vm = .none → s.vm.findClass E = some ce.cls → vx_W p l e R s m args below meth c H1 locs1 (cells + mc) (slots + ms) Q (F0 m pc ls rest) q9)
    (kk : ∀ (H1 : Heap) (locs1 : List Loc), 0 = k9 → va_P D vwCl wc2 H1 → (∀ q : Nat, q < H.size → ¬ k_A wc q → H1[q]? = H[q]?) → va_S A0 s.heap H1 locs1 → W p l e R s m args below meth c H1 locs1 (cells + mc) (slots + ms) Q (F0 m (pc + 3) ls (.int r0 :: rest))) : W p l e R s m args below meth c H locs cells slots Q (F0 m pc ls st0) :=
  vx_calli (vx_runV (As := As) (rest := rest) hC hM (cwV n hC.2.2.2.2 (wM_V q1 q2 q3 q4 q5) rfl rfl rfl hd hR) ⟨fun a U g mk q => ⟨q.1, q.2.1, va_K.moved (u := U) (U := U.calling g mk a) (Vm.Alike.refl U.vm) q.2.2.1, q.2.2.2.1, k_E_blind q.2.2.2.2⟩, hrc, fun U hU hW => ⟨rfl, by rw [hU]; exact hPc, va_K.moved hW.alike hKc, hDc.weaken (fun _ _ _ _ => trivial), k_E_pay hE hS (fun q h => k_Aof hDc q h) hU hW⟩⟩ rfl hn (hlen : (F0 m pc ls st0).locals.size = nL) hst (lv_room hcat) d hcs) hS (fun q _ h => k_Aof hDc q h) (fun q h => k_Aof hDc q h) (fun q _ h => k_Aof hDc q h)
    (fun E ce q9 u t H1 locs1 ht hvm hpx hB hz hk1 hS hce hcv hcl => kx E ce q9 H1 locs1 hB.1 (by rw [← ht]; exact hB.2) hk1 hS hce hcv hcl)
    (fun r u t H1 locs1 ht hvm hw hB hz1 hk1 hS => by obtain ⟨h0, rfl⟩ := hw; exact kk H1 locs1 h0.symm (by rw [← ht]; exact hB) hk1 hS)
theorem g_callH_S (hC : CallFix p m c cc nL s args wA own) (hM : MetH l y bytes maxL hh f L mc ms As D tys wc wc2 ad r0) (q1 : (.methodLink own index y : Cond) ∈ wA) (q2 : (.static y : Cond) ∈ wA) (q4 : (.initialized y.cls : Cond) ∈ wA) (q5 : (.codeWith y bytes maxL (some .int) hh : Cond) ∈ wA) (n : Nat) (hd : y.cls ≠ "java/lang/invoke/MethodHandle" ∧ y.cls ≠ "java/lang/invoke/VarHandle" ∧ (parseMethodDescriptor y.desc).map (fun d => d.parameters.length) = some n) (hR : f + 1 ≤ R.frames ∧ 8 + (maxL + 11) + L ≤ R.locals) (hcs : cells + mc ≤ R.cells ∧ slots + ms ≤ R.slots) (hn : As.length = n) (hst : st0 = As.reverse ++ rest) (hlen : ls.size = nL) (hcat : (rest.map fun v => v.category).sum ≤ 8) (hPc : va_P D vwCl wc H) (hKc : va_K D vwCl tys s) (hDc : va_D A0 wc) (hS : va_S A0 s.heap H locs) (d : decode cc pc = .ok (.invokestatic index, 3)) (hE : k_E ad A0 s s.heap) (hN : k_N s)
    (kk : ∀ (H1 : Heap) (locs1 : List Loc), va_P D vwCl wc2 H1 → (∀ q : Nat, q < H.size → ¬ k_A wc q → H1[q]? = H[q]?) → va_S A0 s.heap H1 locs1 → W p l e R s m args below meth c H1 locs1 (cells + mc) (slots + ms) Q (F0 m (pc + 3) ls (.int r0 :: rest))) : W p l e R s m args below meth c H locs cells slots Q (F0 m pc ls st0) :=
  vx_calli (vx_runSX (As := As) (rest := rest) hC hM (vx_cwSW n hC.2.2.2.2 (wMh_S q1 q2 q4 q5) rfl rfl rfl hd hR) ⟨fun a U g mk q => ⟨q.1, q.2.1, va_K.moved (u := U) (U := U.calling g mk a) (Vm.Alike.refl U.vm) q.2.2.1, q.2.2.2.1, k_E_blind q.2.2.2.2.1, k_N.moved (u := U) (U := U.calling g mk a) (Vm.Alike.refl U.vm) q.2.2.2.2.2⟩, fun U hU hW => ⟨rfl, by rw [hU]; exact hPc, va_K.moved hW.alike hKc, hDc.weaken (fun _ _ _ _ => trivial), k_E_pay hE hS (fun q h => k_Aof hDc q h) hU hW, hN.moved hW.alike⟩⟩ rfl hn (hlen : (F0 m pc ls st0).locals.size = nL) hst (lv_room hcat) d hcs) hS (fun q _ h => k_Aof hDc q h) (fun q h => k_Aof hDc q h) (fun q _ h => h.elim)
    (fun E ce q9 u t H1 locs1 ht hvm hpx hB hz hk1 hS hce hcv hcl => hB.elim)
    (fun r u t H1 locs1 ht hvm hw hB hz1 hk1 hS => by cases hw; exact kk H1 locs1 (by rw [← ht]; exact hB) hk1 hS)
end KH
theorem k_castI {ad : Nat → Nat} {A : Nat → Prop} {s : State} {H : Heap} {args : Array Value} (h : k_E ad A s H) : (Cond.castable "java/lang/IndexOutOfBoundsException" "java/lang/IndexOutOfBoundsException").before args s = true := va_Nw.use rfl (h.1.2.2.2 _ (List.mem_of_getElem? (i := 0) rfl))
theorem k_castA {ad : Nat → Nat} {A : Nat → Prop} {s : State} {H : Heap} {args : Array Value} (h : k_E ad A s H) : (Cond.castable "java/lang/IllegalArgumentException" "java/lang/IllegalArgumentException").before args s = true := va_Nw.use rfl (h.1.2.2.2 _ (List.mem_of_getElem? (i := 1) rfl))
theorem k_castS {ad : Nat → Nat} {A : Nat → Prop} {s : State} {H : Heap} {args : Array Value} (h : k_E ad A s H) : (Cond.castable "java/lang/IllegalStateException" "java/lang/IllegalStateException").before args s = true := va_Nw.use rfl (h.1.2.2.2 _ (List.mem_of_getElem? (i := 2) rfl))
def fL_blow (n_ones : Nat → Int32) (n_twos : Nat → Int32) (n_settings : Nat → Int32) (n_tick : Int32) (n_energy : Int32) (n_valuesPut : Int32) (s_ring : Nat → SV) (s_oldest : Int32) (s_count : Int32) (o_out : Nat → Int64) (p1 : Int32) (p2 : Int32) (p3 : Int32) : Option (Int32 × (Nat → Int64) × (Nat → Int32) × (Nat → Int32) × (Int32) × (Nat → SV) × (Int32) × (Int32)) :=
  k_b8 (fX4_blow n_ones n_twos n_settings n_tick n_energy n_valuesPut s_ring s_oldest s_count p1 p2 p3) fun (k : Nat) (z : Int32) (c0 : Nat → Int32) (c1 : Nat → Int32) (c2 : Int32) (c3 : Nat → SV) (c4 : Int32) (c5 : Int32) =>
  k_if (k = 0) (some (0, vp_updL o_out (0 : Int32).toNatClampNeg z.toInt64, c0, c1, c2, c3, c4, c5)) <|
  k_if (k = 1) (some (1, o_out, c0, c1, c2, c3, c4, c5)) <|
  k_if (k = 2) (some (2, o_out, c0, c1, c2, c3, c4, c5)) <|
  k_if (k = 3) (some (3, o_out, c0, c1, c2, c3, c4, c5)) <|
  none
theorem hdL_blow : yL_blow.cls ≠ "java/lang/invoke/MethodHandle" ∧ yL_blow.cls ≠ "java/lang/invoke/VarHandle" ∧ (parseMethodDescriptor yL_blow.desc).map (fun d => d.parameters.length) = some 5 := by decide +kernel
set_option maxRecDepth 100000 in
set_option maxHeartbeats 4000000 in
theorem mL_blow (l : Launch) (dC : Nat → ClassId) (dI : Nat → Nat → Nat) (cyI cyC cyO cyJ : ClassId) (hl9 : l.stackTraces = false) (ad : Nat → Nat) (ob : Nat) (n0 : Nat) (n1 : Nat) (n2 : Nat) (n3 : Nat) (t0 : Nat) (t1 : Nat) (t2 : Nat) (t3 : Nat) (s0 : Nat) (aR : Nat) (ro : Nat → Nat) (r1 : Nat → Nat) (r2 : Nat → Nat) (r3 : Nat → Nat) (x0 : Nat) (x1 : Nat) (x2 : Nat) (x3 : Nat) (x4 : Nat) (oa : Nat) (n_ones : Nat → Int32) (n_twos : Nat → Int32) (n_settings : Nat → Int32) (n_tick : Int32) (n_energy : Int32) (n_valuesPut : Int32) (t_ones : Nat → Int32) (t_twos : Nat → Int32) (t_settings : Nat → Int32) (t_tick : Int32) (t_energy : Int32) (t_valuesPut : Int32) (s_ring : Nat → SV) (s_oldest : Int32) (s_count : Int32) (x_signs : Nat → Int32) (x_length : Int32) (x_position : Int32) (x_complete : Int32) (x_orders : Int32) (x_kinds : Nat → Int32) (x_numbers : Nat → Int32) (x_values : Nat → Int32) (o_out : Nat → Int64) (p1 : Int32) (p2 : Int32) (p3 : Int32) {r : Int32} {r_out : Nat → Int64} {r_n_ones : Nat → Int32} {r_n_twos : Nat → Int32} {r_n_energy : Int32} {r_s_ring : Nat → SV} {r_s_oldest : Int32} {r_s_count : Int32} (hf : fL_blow n_ones n_twos n_settings n_tick n_energy n_valuesPut s_ring s_oldest s_count o_out p1 p2 p3 = some (r, r_out, r_n_ones, r_n_twos, r_n_energy, r_s_ring, r_s_oldest, r_s_count)) : MetH l yL_blow cL_blow 6 [(0, 12, 15, 13), (0, 12, 19, 15), (0, 12, 23, 17)] 8 125 3 18 [.ref ob, .int p1, .int p2, .int p3, .ref oa] (dC, dI) (tyL cyI cyC cyO cyJ) ((wAll cyI cyC cyO ob n0 n1 n2 n3 t0 t1 t2 t3 s0 aR ro r1 r2 r3 x0 x1 x2 x3 x4 n_ones n_twos n_settings n_tick n_energy n_valuesPut t_ones t_twos t_settings t_tick t_energy t_valuesPut s_ring s_oldest s_count x_signs x_length x_position x_complete x_orders x_kinds x_numbers x_values) ++ wO cyJ oa o_out) ((wAll cyI cyC cyO ob n0 n1 n2 n3 t0 t1 t2 t3 s0 aR ro r1 r2 r3 x0 x1 x2 x3 x4 r_n_ones r_n_twos n_settings n_tick r_n_energy n_valuesPut t_ones t_twos t_settings t_tick t_energy t_valuesPut r_s_ring r_s_oldest r_s_count x_signs x_length x_position x_complete x_orders x_kinds x_numbers x_values) ++ wO cyJ oa r_out) ad r := by
  refine metH_of (by decide) (Nat.le_of_ble_eq_true rfl) ?_
  intro p e s m below meth c ls hC hr hlk hex hP hK hD hE hN hl
  have hC : CallFix p m c cL_blow 6 s [.ref ob, .int p1, .int p2, .int p3, .ref oa].toArray wA RL := hC
  obtain ⟨hx, hb, hml, hown, hts⟩ := id hC
  have hS : va_S (k_A ((wAll cyI cyC cyO ob n0 n1 n2 n3 t0 t1 t2 t3 s0 aR ro r1 r2 r3 x0 x1 x2 x3 x4 n_ones n_twos n_settings n_tick n_energy n_valuesPut t_ones t_twos t_settings t_tick t_energy t_valuesPut s_ring s_oldest s_count x_signs x_length x_position x_complete x_orders x_kinds x_numbers x_values) ++ wO cyJ oa o_out)) s.heap s.heap [] := va_S.rf
  have hl : lv_has ls 6 [(0, .ref ob), (1, .int p1), (2, .int p2), (3, .int p3), (4, .ref oa)] := hl
  have h := hf
  unfold fL_blow at h
  have hK3 : va_K (dC, dI) vwCl (tyS cyI cyC cyO) s := hK.sub [0, 1, 2] rfl
  obtain ⟨k, z, c0, c1, c2, c3, c4, c5, hc, h⟩ := k_b8_e h
  refine lv_aload hx hb dL_blow_0 (lv_at hl 4 rfl) ?_
  refine lv_iconst (v := 0) hx hb dL_blow_2 (by decide) ?_
  refine lv_aload_n hx hb dL_blow_3 rfl (lv_at hl 0 rfl) ?_
  refine lv_iload_n hx hb dL_blow_4 rfl (lv_at hl 1 rfl) ?_
  refine lv_iload_n hx hb dL_blow_5 rfl (lv_at hl 2 rfl) ?_
  refine lv_iload_n hx hb dL_blow_6 rfl (lv_at hl 3 rfl) ?_
  refine g_callT_V (As := [.int p1, .int p2, .int p3]) (rest := [.int 0, .ref oa]) hC (mX4_blow l dC dI cyI cyC cyO hl9 ad ob n0 n1 n2 n3 t0 t1 t2 t3 s0 aR ro r1 r2 r3 x0 x1 x2 x3 x4 n_ones n_twos n_settings n_tick n_energy n_valuesPut t_ones t_twos t_settings t_tick t_energy t_valuesPut s_ring s_oldest s_count x_signs x_length x_position x_complete x_orders x_kinds x_numbers x_values p1 p2 p3 hc) q465 q466 q467 q71 q468 3 hdX4_blow ⟨Nat.le_of_ble_eq_true rfl, Nat.le_of_ble_eq_true rfl⟩ ⟨Nat.le_of_ble_eq_true rfl, Nat.le_of_ble_eq_true rfl⟩ rfl rfl hl.1 (Nat.le_of_ble_eq_true rfl) (hP.sub (ws' := (wAll cyI cyC cyO ob n0 n1 n2 n3 t0 t1 t2 t3 s0 aR ro r1 r2 r3 x0 x1 x2 x3 x4 n_ones n_twos n_settings n_tick n_energy n_valuesPut t_ones t_twos t_settings t_tick t_energy t_valuesPut s_ring s_oldest s_count x_signs x_length x_position x_complete x_orders x_kinds x_numbers x_values)) [0, 1, 2, 3, 4, 5, 6, 7, 8, 9, 10, 11, 12, 13, 14, 15, 16, 17, 18, 19, 20, 21, 22, 23, 24, 25, 26, 27, 28, 29, 30, 31, 32, 33, 34, 35, 36, 37, 38, 39] rfl) hK3 (hD.sub (ws' := (wAll cyI cyC cyO ob n0 n1 n2 n3 t0 t1 t2 t3 s0 aR ro r1 r2 r3 x0 x1 x2 x3 x4 n_ones n_twos n_settings n_tick n_energy n_valuesPut t_ones t_twos t_settings t_tick t_energy t_valuesPut s_ring s_oldest s_count x_signs x_length x_position x_complete x_orders x_kinds x_numbers x_values)) [0, 1, 2, 3, 4, 5, 6, 7, 8, 9, 10, 11, 12, 13, 14, 15, 16, 17, 18, 19, 20, 21, 22, 23, 24, 25, 26, 27, 28, 29, 30, 31, 32, 33, 34, 35, 36, 37, 38, 39] (by decide) rfl) (va_recv hK3 hP (ci := 3) (q0 := 0) rfl rfl) hS dL_blow_7 hE (fun E ce q9 H locs hX hPn hk hS hce hcv hcl => ?_) (fun H locs hk0 hPn hk hS => ?_)
  · have hP : va_P (dC, dI) vwCl ((wAll cyI cyC cyO ob n0 n1 n2 n3 t0 t1 t2 t3 s0 aR ro r1 r2 r3 x0 x1 x2 x3 x4 c0 c1 n_settings n_tick c2 n_valuesPut t_ones t_twos t_settings t_tick t_energy t_valuesPut c3 c4 c5 x_signs x_length x_position x_complete x_orders x_kinds x_numbers x_values) ++ wO cyJ oa o_out) H := k_repl hP hD [0, 1, 2, 3, 4, 5, 6, 7, 8, 9, 10, 11, 12, 13, 14, 15, 16, 17, 18, 19, 20, 21, 22, 23, 24, 25, 26, 27, 28, 29, 30, 31, 32, 33, 34, 35, 36, 37, 38, 39] rfl hk hPn [.inr 0, .inr 1, .inr 2, .inr 3, .inr 4, .inr 5, .inr 6, .inr 7, .inr 8, .inr 9, .inr 10, .inr 11, .inr 12, .inr 13, .inr 14, .inr 15, .inr 16, .inr 17, .inr 18, .inr 19, .inr 20, .inr 21, .inr 22, .inr 23, .inr 24, .inr 25, .inr 26, .inr 27, .inr 28, .inr 29, .inr 30, .inr 31, .inr 32, .inr 33, .inr 34, .inr 35, .inr 36, .inr 37, .inr 38, .inr 39, .inl 40] rfl (by decide)
    rcases hX with ⟨hk9, hE9⟩ | ⟨hk9, hE9⟩ | ⟨hk9, hE9⟩
    · subst hk9; subst hE9
      have h := k_if_f h (by decide)
      have h := k_if_t h rfl
      obtain ⟨e0, e1, e2, e3, e4, e5, e6, e7⟩ := k_t8 h
      refine vx_catch hown [] ⟨0, 12, 15, 13⟩ [⟨0, 12, 19, 15⟩, ⟨0, 12, 23, 17⟩] (by rw [hex]; rfl) (fun z hz => nomatch hz) rfl (by decide) (hts _ q462) (k_castI hE) hce hcv hcl ?_
      refine lv_astore (lv' := [(5, .ref q9), (0, .ref ob), (1, .int p1), (2, .int p2), (3, .int p3), (4, .ref oa)]) hx hb dL_blow_15 hl (by decide) rfl (fun ls hl => ?_)
      refine lv_iconst (v := 1) hx hb dL_blow_17 (by decide) ?_
      exact g_retH hx hb hr hlk (Nat.le_of_ble_eq_true rfl) (Nat.le_of_ble_eq_true rfl) hS e0 (by rw [← e1, ← e2, ← e3, ← e4, ← e5, ← e6, ← e7]; exact hP) dL_blow_18
    · subst hk9; subst hE9
      have h := k_if_f h (by decide)
      have h := k_if_f h (by decide)
      have h := k_if_t h rfl
      obtain ⟨e0, e1, e2, e3, e4, e5, e6, e7⟩ := k_t8 h
      refine vx_catch hown [⟨0, 12, 15, 13⟩] ⟨0, 12, 19, 15⟩ [⟨0, 12, 23, 17⟩] (by rw [hex]; rfl) (fun z hz => by
        simp only [List.mem_cons, List.not_mem_nil, or_false] at hz
        rcases hz with rfl
        · exact Or.inr ⟨by decide, "java/lang/IndexOutOfBoundsException", hts _ q462, hN.1⟩) rfl (by decide) (hts _ q463) (k_castA hE) hce hcv hcl ?_
      refine lv_astore (lv' := [(5, .ref q9), (0, .ref ob), (1, .int p1), (2, .int p2), (3, .int p3), (4, .ref oa)]) hx hb dL_blow_19 hl (by decide) rfl (fun ls hl => ?_)
      refine lv_iconst (v := 2) hx hb dL_blow_21 (by decide) ?_
      exact g_retH hx hb hr hlk (Nat.le_of_ble_eq_true rfl) (Nat.le_of_ble_eq_true rfl) hS e0 (by rw [← e1, ← e2, ← e3, ← e4, ← e5, ← e6, ← e7]; exact hP) dL_blow_22
    · subst hk9; subst hE9
      have h := k_if_f h (by decide)
      have h := k_if_f h (by decide)
      have h := k_if_f h (by decide)
      have h := k_if_t h rfl
      obtain ⟨e0, e1, e2, e3, e4, e5, e6, e7⟩ := k_t8 h
      refine vx_catch hown [⟨0, 12, 15, 13⟩, ⟨0, 12, 19, 15⟩] ⟨0, 12, 23, 17⟩ [] (by rw [hex]; rfl) (fun z hz => by
        simp only [List.mem_cons, List.not_mem_nil, or_false] at hz
        rcases hz with rfl | rfl
        · exact Or.inr ⟨by decide, "java/lang/IndexOutOfBoundsException", hts _ q462, hN.2.1⟩
        · exact Or.inr ⟨by decide, "java/lang/IllegalArgumentException", hts _ q463, hN.2.2⟩) rfl (by decide) (hts _ q464) (k_castS hE) hce hcv hcl ?_
      refine lv_astore (lv' := [(5, .ref q9), (0, .ref ob), (1, .int p1), (2, .int p2), (3, .int p3), (4, .ref oa)]) hx hb dL_blow_23 hl (by decide) rfl (fun ls hl => ?_)
      refine lv_iconst (v := 3) hx hb dL_blow_25 (by decide) ?_
      exact g_retH hx hb hr hlk (Nat.le_of_ble_eq_true rfl) (Nat.le_of_ble_eq_true rfl) hS e0 (by rw [← e1, ← e2, ← e3, ← e4, ← e5, ← e6, ← e7]; exact hP) dL_blow_26
  · have hP : va_P (dC, dI) vwCl ((wAll cyI cyC cyO ob n0 n1 n2 n3 t0 t1 t2 t3 s0 aR ro r1 r2 r3 x0 x1 x2 x3 x4 c0 c1 n_settings n_tick c2 n_valuesPut t_ones t_twos t_settings t_tick t_energy t_valuesPut c3 c4 c5 x_signs x_length x_position x_complete x_orders x_kinds x_numbers x_values) ++ wO cyJ oa o_out) H := k_repl hP hD [0, 1, 2, 3, 4, 5, 6, 7, 8, 9, 10, 11, 12, 13, 14, 15, 16, 17, 18, 19, 20, 21, 22, 23, 24, 25, 26, 27, 28, 29, 30, 31, 32, 33, 34, 35, 36, 37, 38, 39] rfl hk hPn [.inr 0, .inr 1, .inr 2, .inr 3, .inr 4, .inr 5, .inr 6, .inr 7, .inr 8, .inr 9, .inr 10, .inr 11, .inr 12, .inr 13, .inr 14, .inr 15, .inr 16, .inr 17, .inr 18, .inr 19, .inr 20, .inr 21, .inr 22, .inr 23, .inr 24, .inr 25, .inr 26, .inr 27, .inr 28, .inr 29, .inr 30, .inr 31, .inr 32, .inr 33, .inr 34, .inr 35, .inr 36, .inr 37, .inr 38, .inr 39, .inl 40] rfl (by decide)
    have hD : va_D (k_A ((wAll cyI cyC cyO ob n0 n1 n2 n3 t0 t1 t2 t3 s0 aR ro r1 r2 r3 x0 x1 x2 x3 x4 n_ones n_twos n_settings n_tick n_energy n_valuesPut t_ones t_twos t_settings t_tick t_energy t_valuesPut s_ring s_oldest s_count x_signs x_length x_position x_complete x_orders x_kinds x_numbers x_values) ++ wO cyJ oa o_out)) ((wAll cyI cyC cyO ob n0 n1 n2 n3 t0 t1 t2 t3 s0 aR ro r1 r2 r3 x0 x1 x2 x3 x4 c0 c1 n_settings n_tick c2 n_valuesPut t_ones t_twos t_settings t_tick t_energy t_valuesPut c3 c4 c5 x_signs x_length x_position x_complete x_orders x_kinds x_numbers x_values) ++ wO cyJ oa o_out) := k_Dm hD rfl
    have h := k_if_t h hk0.symm
    obtain ⟨e0, e1, e2, e3, e4, e5, e6, e7⟩ := k_t8 h
    refine lv_i2l hx hb dL_blow_10 rfl ?_
    refine va_last hx hb hK hP hD hS 40 3 rfl rfl (by unfold vp_in; decide) dL_blow_11 (fun H locs hP hD hS => ?_)
    have hP : va_P (dC, dI) vwCl ((wAll cyI cyC cyO ob n0 n1 n2 n3 t0 t1 t2 t3 s0 aR ro r1 r2 r3 x0 x1 x2 x3 x4 c0 c1 n_settings n_tick c2 n_valuesPut t_ones t_twos t_settings t_tick t_energy t_valuesPut c3 c4 c5 x_signs x_length x_position x_complete x_orders x_kinds x_numbers x_values) ++ wO cyJ oa (vp_updL o_out (0 : Int32).toNatClampNeg z.toInt64)) H := hP
    refine lv_goto (tgt := 27) hx hb dL_blow_12 (by decide) ?_
    refine lv_iconst (v := 0) hx hb dL_blow_27 (by decide) ?_
    exact g_retH hx hb hr hlk (Nat.le_of_ble_eq_true rfl) (Nat.le_of_ble_eq_true rfl) hS e0 (by rw [← e1, ← e2, ← e3, ← e4, ← e5, ← e6, ← e7]; exact hP) dL_blow_28
def fL_put (n_ones : Nat → Int32) (n_twos : Nat → Int32) (n_settings : Nat → Int32) (n_tick : Int32) (n_energy : Int32) (n_valuesPut : Int32) (s_ring : Nat → SV) (s_oldest : Int32) (s_count : Int32) (o_out : Nat → Int64) (p1 : Int32) (p2 : Int32) : Option (Int32 × (Nat → Int64) × (Nat → Int32) × (Nat → Int32) × (Int32) × (Int32) × (Nat → SV) × (Int32) × (Int32)) :=
  k_b9 (fX4_put n_ones n_twos n_settings n_tick n_energy n_valuesPut s_ring s_oldest s_count p1 p2) fun (k : Nat) (z : Int32) (c0 : Nat → Int32) (c1 : Nat → Int32) (c2 : Int32) (c3 : Int32) (c4 : Nat → SV) (c5 : Int32) (c6 : Int32) =>
  k_if (k = 0) (some (0, vp_updL o_out (0 : Int32).toNatClampNeg z.toInt64, c0, c1, c2, c3, c4, c5, c6)) <|
  k_if (k = 2) (some (1, o_out, c0, c1, c2, c3, c4, c5, c6)) <|
  k_if (k = 3) (some (2, o_out, c0, c1, c2, c3, c4, c5, c6)) <|
  none
theorem hdL_put : yL_put.cls ≠ "java/lang/invoke/MethodHandle" ∧ yL_put.cls ≠ "java/lang/invoke/VarHandle" ∧ (parseMethodDescriptor yL_put.desc).map (fun d => d.parameters.length) = some 4 := by decide +kernel
set_option maxRecDepth 100000 in
set_option maxHeartbeats 4000000 in
theorem mL_put (l : Launch) (dC : Nat → ClassId) (dI : Nat → Nat → Nat) (cyI cyC cyO cyJ : ClassId) (hl9 : l.stackTraces = false) (ad : Nat → Nat) (ob : Nat) (n0 : Nat) (n1 : Nat) (n2 : Nat) (n3 : Nat) (t0 : Nat) (t1 : Nat) (t2 : Nat) (t3 : Nat) (s0 : Nat) (aR : Nat) (ro : Nat → Nat) (r1 : Nat → Nat) (r2 : Nat → Nat) (r3 : Nat → Nat) (x0 : Nat) (x1 : Nat) (x2 : Nat) (x3 : Nat) (x4 : Nat) (oa : Nat) (n_ones : Nat → Int32) (n_twos : Nat → Int32) (n_settings : Nat → Int32) (n_tick : Int32) (n_energy : Int32) (n_valuesPut : Int32) (t_ones : Nat → Int32) (t_twos : Nat → Int32) (t_settings : Nat → Int32) (t_tick : Int32) (t_energy : Int32) (t_valuesPut : Int32) (s_ring : Nat → SV) (s_oldest : Int32) (s_count : Int32) (x_signs : Nat → Int32) (x_length : Int32) (x_position : Int32) (x_complete : Int32) (x_orders : Int32) (x_kinds : Nat → Int32) (x_numbers : Nat → Int32) (x_values : Nat → Int32) (o_out : Nat → Int64) (p1 : Int32) (p2 : Int32) {r : Int32} {r_out : Nat → Int64} {r_n_ones : Nat → Int32} {r_n_twos : Nat → Int32} {r_n_energy : Int32} {r_n_valuesPut : Int32} {r_s_ring : Nat → SV} {r_s_oldest : Int32} {r_s_count : Int32} (hf : fL_put n_ones n_twos n_settings n_tick n_energy n_valuesPut s_ring s_oldest s_count o_out p1 p2 = some (r, r_out, r_n_ones, r_n_twos, r_n_energy, r_n_valuesPut, r_s_ring, r_s_oldest, r_s_count)) : MetH l yL_put cL_put 5 [(0, 10, 13, 15), (0, 10, 17, 17)] 8 143 2 12 [.ref ob, .int p1, .int p2, .ref oa] (dC, dI) (tyL cyI cyC cyO cyJ) ((wAll cyI cyC cyO ob n0 n1 n2 n3 t0 t1 t2 t3 s0 aR ro r1 r2 r3 x0 x1 x2 x3 x4 n_ones n_twos n_settings n_tick n_energy n_valuesPut t_ones t_twos t_settings t_tick t_energy t_valuesPut s_ring s_oldest s_count x_signs x_length x_position x_complete x_orders x_kinds x_numbers x_values) ++ wO cyJ oa o_out) ((wAll cyI cyC cyO ob n0 n1 n2 n3 t0 t1 t2 t3 s0 aR ro r1 r2 r3 x0 x1 x2 x3 x4 r_n_ones r_n_twos n_settings n_tick r_n_energy r_n_valuesPut t_ones t_twos t_settings t_tick t_energy t_valuesPut r_s_ring r_s_oldest r_s_count x_signs x_length x_position x_complete x_orders x_kinds x_numbers x_values) ++ wO cyJ oa r_out) ad r := by
  refine metH_of (by decide) (Nat.le_of_ble_eq_true rfl) ?_
  intro p e s m below meth c ls hC hr hlk hex hP hK hD hE hN hl
  have hC : CallFix p m c cL_put 5 s [.ref ob, .int p1, .int p2, .ref oa].toArray wA RL := hC
  obtain ⟨hx, hb, hml, hown, hts⟩ := id hC
  have hS : va_S (k_A ((wAll cyI cyC cyO ob n0 n1 n2 n3 t0 t1 t2 t3 s0 aR ro r1 r2 r3 x0 x1 x2 x3 x4 n_ones n_twos n_settings n_tick n_energy n_valuesPut t_ones t_twos t_settings t_tick t_energy t_valuesPut s_ring s_oldest s_count x_signs x_length x_position x_complete x_orders x_kinds x_numbers x_values) ++ wO cyJ oa o_out)) s.heap s.heap [] := va_S.rf
  have hl : lv_has ls 5 [(0, .ref ob), (1, .int p1), (2, .int p2), (3, .ref oa)] := hl
  have h := hf
  unfold fL_put at h
  have hK3 : va_K (dC, dI) vwCl (tyS cyI cyC cyO) s := hK.sub [0, 1, 2] rfl
  obtain ⟨k, z, c0, c1, c2, c3, c4, c5, c6, hc, h⟩ := k_b9_e h
  refine lv_aload_n hx hb dL_put_0 rfl (lv_at hl 3 rfl) ?_
  refine lv_iconst (v := 0) hx hb dL_put_1 (by decide) ?_
  refine lv_aload_n hx hb dL_put_2 rfl (lv_at hl 0 rfl) ?_
  refine lv_iload_n hx hb dL_put_3 rfl (lv_at hl 1 rfl) ?_
  refine lv_iload_n hx hb dL_put_4 rfl (lv_at hl 2 rfl) ?_
  refine g_callT_V (As := [.int p1, .int p2]) (rest := [.int 0, .ref oa]) hC (mX4_put l dC dI cyI cyC cyO hl9 ad ob n0 n1 n2 n3 t0 t1 t2 t3 s0 aR ro r1 r2 r3 x0 x1 x2 x3 x4 n_ones n_twos n_settings n_tick n_energy n_valuesPut t_ones t_twos t_settings t_tick t_energy t_valuesPut s_ring s_oldest s_count x_signs x_length x_position x_complete x_orders x_kinds x_numbers x_values p1 p2 hc) q544 q545 q546 q71 q547 2 hdX4_put ⟨Nat.le_of_ble_eq_true rfl, Nat.le_of_ble_eq_true rfl⟩ ⟨Nat.le_of_ble_eq_true rfl, Nat.le_of_ble_eq_true rfl⟩ rfl rfl hl.1 (Nat.le_of_ble_eq_true rfl) (hP.sub (ws' := (wAll cyI cyC cyO ob n0 n1 n2 n3 t0 t1 t2 t3 s0 aR ro r1 r2 r3 x0 x1 x2 x3 x4 n_ones n_twos n_settings n_tick n_energy n_valuesPut t_ones t_twos t_settings t_tick t_energy t_valuesPut s_ring s_oldest s_count x_signs x_length x_position x_complete x_orders x_kinds x_numbers x_values)) [0, 1, 2, 3, 4, 5, 6, 7, 8, 9, 10, 11, 12, 13, 14, 15, 16, 17, 18, 19, 20, 21, 22, 23, 24, 25, 26, 27, 28, 29, 30, 31, 32, 33, 34, 35, 36, 37, 38, 39] rfl) hK3 (hD.sub (ws' := (wAll cyI cyC cyO ob n0 n1 n2 n3 t0 t1 t2 t3 s0 aR ro r1 r2 r3 x0 x1 x2 x3 x4 n_ones n_twos n_settings n_tick n_energy n_valuesPut t_ones t_twos t_settings t_tick t_energy t_valuesPut s_ring s_oldest s_count x_signs x_length x_position x_complete x_orders x_kinds x_numbers x_values)) [0, 1, 2, 3, 4, 5, 6, 7, 8, 9, 10, 11, 12, 13, 14, 15, 16, 17, 18, 19, 20, 21, 22, 23, 24, 25, 26, 27, 28, 29, 30, 31, 32, 33, 34, 35, 36, 37, 38, 39] (by decide) rfl) (va_recv hK3 hP (ci := 3) (q0 := 0) rfl rfl) hS dL_put_5 hE (fun E ce q9 H locs hX hPn hk hS hce hcv hcl => ?_) (fun H locs hk0 hPn hk hS => ?_)
  · have hP : va_P (dC, dI) vwCl ((wAll cyI cyC cyO ob n0 n1 n2 n3 t0 t1 t2 t3 s0 aR ro r1 r2 r3 x0 x1 x2 x3 x4 c0 c1 n_settings n_tick c2 c3 t_ones t_twos t_settings t_tick t_energy t_valuesPut c4 c5 c6 x_signs x_length x_position x_complete x_orders x_kinds x_numbers x_values) ++ wO cyJ oa o_out) H := k_repl hP hD [0, 1, 2, 3, 4, 5, 6, 7, 8, 9, 10, 11, 12, 13, 14, 15, 16, 17, 18, 19, 20, 21, 22, 23, 24, 25, 26, 27, 28, 29, 30, 31, 32, 33, 34, 35, 36, 37, 38, 39] rfl hk hPn [.inr 0, .inr 1, .inr 2, .inr 3, .inr 4, .inr 5, .inr 6, .inr 7, .inr 8, .inr 9, .inr 10, .inr 11, .inr 12, .inr 13, .inr 14, .inr 15, .inr 16, .inr 17, .inr 18, .inr 19, .inr 20, .inr 21, .inr 22, .inr 23, .inr 24, .inr 25, .inr 26, .inr 27, .inr 28, .inr 29, .inr 30, .inr 31, .inr 32, .inr 33, .inr 34, .inr 35, .inr 36, .inr 37, .inr 38, .inr 39, .inl 40] rfl (by decide)
    rcases hX with ⟨hk9, hE9⟩ | ⟨hk9, hE9⟩ | ⟨hk9, hE9⟩
    · subst hk9; subst hE9
      have h := k_if_f h (by decide)
      have h := k_if_f h (by decide)
      have h := k_if_f h (by decide)
      cases h
    · subst hk9; subst hE9
      have h := k_if_f h (by decide)
      have h := k_if_t h rfl
      obtain ⟨e0, e1, e2, e3, e4, e5, e6, e7, e8⟩ := k_t9 h
      refine vx_catch hown [] ⟨0, 10, 13, 15⟩ [⟨0, 10, 17, 17⟩] (by rw [hex]; rfl) (fun z hz => nomatch hz) rfl (by decide) (hts _ q463) (k_castA hE) hce hcv hcl ?_
      refine lv_astore (lv' := [(4, .ref q9), (0, .ref ob), (1, .int p1), (2, .int p2), (3, .ref oa)]) hx hb dL_put_13 hl (by decide) rfl (fun ls hl => ?_)
      refine lv_iconst (v := 1) hx hb dL_put_15 (by decide) ?_
      exact g_retH hx hb hr hlk (Nat.le_of_ble_eq_true rfl) (Nat.le_of_ble_eq_true rfl) hS e0 (by rw [← e1, ← e2, ← e3, ← e4, ← e5, ← e6, ← e7, ← e8]; exact hP) dL_put_16
    · subst hk9; subst hE9
      have h := k_if_f h (by decide)
      have h := k_if_f h (by decide)
      have h := k_if_t h rfl
      obtain ⟨e0, e1, e2, e3, e4, e5, e6, e7, e8⟩ := k_t9 h
      refine vx_catch hown [⟨0, 10, 13, 15⟩] ⟨0, 10, 17, 17⟩ [] (by rw [hex]; rfl) (fun z hz => by
        simp only [List.mem_cons, List.not_mem_nil, or_false] at hz
        rcases hz with rfl
        · exact Or.inr ⟨by decide, "java/lang/IllegalArgumentException", hts _ q463, hN.2.2⟩) rfl (by decide) (hts _ q464) (k_castS hE) hce hcv hcl ?_
      refine lv_astore (lv' := [(4, .ref q9), (0, .ref ob), (1, .int p1), (2, .int p2), (3, .ref oa)]) hx hb dL_put_17 hl (by decide) rfl (fun ls hl => ?_)
      refine lv_iconst (v := 2) hx hb dL_put_19 (by decide) ?_
      exact g_retH hx hb hr hlk (Nat.le_of_ble_eq_true rfl) (Nat.le_of_ble_eq_true rfl) hS e0 (by rw [← e1, ← e2, ← e3, ← e4, ← e5, ← e6, ← e7, ← e8]; exact hP) dL_put_20
  · have hP : va_P (dC, dI) vwCl ((wAll cyI cyC cyO ob n0 n1 n2 n3 t0 t1 t2 t3 s0 aR ro r1 r2 r3 x0 x1 x2 x3 x4 c0 c1 n_settings n_tick c2 c3 t_ones t_twos t_settings t_tick t_energy t_valuesPut c4 c5 c6 x_signs x_length x_position x_complete x_orders x_kinds x_numbers x_values) ++ wO cyJ oa o_out) H := k_repl hP hD [0, 1, 2, 3, 4, 5, 6, 7, 8, 9, 10, 11, 12, 13, 14, 15, 16, 17, 18, 19, 20, 21, 22, 23, 24, 25, 26, 27, 28, 29, 30, 31, 32, 33, 34, 35, 36, 37, 38, 39] rfl hk hPn [.inr 0, .inr 1, .inr 2, .inr 3, .inr 4, .inr 5, .inr 6, .inr 7, .inr 8, .inr 9, .inr 10, .inr 11, .inr 12, .inr 13, .inr 14, .inr 15, .inr 16, .inr 17, .inr 18, .inr 19, .inr 20, .inr 21, .inr 22, .inr 23, .inr 24, .inr 25, .inr 26, .inr 27, .inr 28, .inr 29, .inr 30, .inr 31, .inr 32, .inr 33, .inr 34, .inr 35, .inr 36, .inr 37, .inr 38, .inr 39, .inl 40] rfl (by decide)
    have hD : va_D (k_A ((wAll cyI cyC cyO ob n0 n1 n2 n3 t0 t1 t2 t3 s0 aR ro r1 r2 r3 x0 x1 x2 x3 x4 n_ones n_twos n_settings n_tick n_energy n_valuesPut t_ones t_twos t_settings t_tick t_energy t_valuesPut s_ring s_oldest s_count x_signs x_length x_position x_complete x_orders x_kinds x_numbers x_values) ++ wO cyJ oa o_out)) ((wAll cyI cyC cyO ob n0 n1 n2 n3 t0 t1 t2 t3 s0 aR ro r1 r2 r3 x0 x1 x2 x3 x4 c0 c1 n_settings n_tick c2 c3 t_ones t_twos t_settings t_tick t_energy t_valuesPut c4 c5 c6 x_signs x_length x_position x_complete x_orders x_kinds x_numbers x_values) ++ wO cyJ oa o_out) := k_Dm hD rfl
    have h := k_if_t h hk0.symm
    obtain ⟨e0, e1, e2, e3, e4, e5, e6, e7, e8⟩ := k_t9 h
    refine lv_i2l hx hb dL_put_8 rfl ?_
    refine va_last hx hb hK hP hD hS 40 3 rfl rfl (by unfold vp_in; decide) dL_put_9 (fun H locs hP hD hS => ?_)
    have hP : va_P (dC, dI) vwCl ((wAll cyI cyC cyO ob n0 n1 n2 n3 t0 t1 t2 t3 s0 aR ro r1 r2 r3 x0 x1 x2 x3 x4 c0 c1 n_settings n_tick c2 c3 t_ones t_twos t_settings t_tick t_energy t_valuesPut c4 c5 c6 x_signs x_length x_position x_complete x_orders x_kinds x_numbers x_values) ++ wO cyJ oa (vp_updL o_out (0 : Int32).toNatClampNeg z.toInt64)) H := hP
    refine lv_goto (tgt := 21) hx hb dL_put_10 (by decide) ?_
    refine lv_iconst (v := 0) hx hb dL_put_21 (by decide) ?_
    exact g_retH hx hb hr hlk (Nat.le_of_ble_eq_true rfl) (Nat.le_of_ble_eq_true rfl) hS e0 (by rw [← e1, ← e2, ← e3, ← e4, ← e5, ← e6, ← e7, ← e8]; exact hP) dL_put_22
def fL_drop (n_ones : Nat → Int32) (n_twos : Nat → Int32) (n_settings : Nat → Int32) (n_tick : Int32) (n_energy : Int32) (n_valuesPut : Int32) (s_ring : Nat → SV) (s_oldest : Int32) (s_count : Int32) (o_out : Nat → Int64) (p1 : Int32) : Option (Int32 × (Nat → Int64) × (Nat → Int32) × (Nat → Int32) × (Int32) × (Nat → SV) × (Int32) × (Int32)) :=
  k_b8 (fX4_drop n_ones n_twos n_settings n_tick n_energy n_valuesPut s_ring s_oldest s_count p1) fun (k : Nat) (z : Int32) (c0 : Nat → Int32) (c1 : Nat → Int32) (c2 : Int32) (c3 : Nat → SV) (c4 : Int32) (c5 : Int32) =>
  k_if (k = 0) (some (0, vp_updL o_out (0 : Int32).toNatClampNeg z.toInt64, c0, c1, c2, c3, c4, c5)) <|
  k_if (k = 2) (some (1, o_out, c0, c1, c2, c3, c4, c5)) <|
  none
theorem hdL_drop : yL_drop.cls ≠ "java/lang/invoke/MethodHandle" ∧ yL_drop.cls ≠ "java/lang/invoke/VarHandle" ∧ (parseMethodDescriptor yL_drop.desc).map (fun d => d.parameters.length) = some 3 := by decide +kernel
set_option maxRecDepth 100000 in
set_option maxHeartbeats 4000000 in
theorem mL_drop (l : Launch) (dC : Nat → ClassId) (dI : Nat → Nat → Nat) (cyI cyC cyO cyJ : ClassId) (hl9 : l.stackTraces = false) (ad : Nat → Nat) (ob : Nat) (n0 : Nat) (n1 : Nat) (n2 : Nat) (n3 : Nat) (t0 : Nat) (t1 : Nat) (t2 : Nat) (t3 : Nat) (s0 : Nat) (aR : Nat) (ro : Nat → Nat) (r1 : Nat → Nat) (r2 : Nat → Nat) (r3 : Nat → Nat) (x0 : Nat) (x1 : Nat) (x2 : Nat) (x3 : Nat) (x4 : Nat) (oa : Nat) (n_ones : Nat → Int32) (n_twos : Nat → Int32) (n_settings : Nat → Int32) (n_tick : Int32) (n_energy : Int32) (n_valuesPut : Int32) (t_ones : Nat → Int32) (t_twos : Nat → Int32) (t_settings : Nat → Int32) (t_tick : Int32) (t_energy : Int32) (t_valuesPut : Int32) (s_ring : Nat → SV) (s_oldest : Int32) (s_count : Int32) (x_signs : Nat → Int32) (x_length : Int32) (x_position : Int32) (x_complete : Int32) (x_orders : Int32) (x_kinds : Nat → Int32) (x_numbers : Nat → Int32) (x_values : Nat → Int32) (o_out : Nat → Int64) (p1 : Int32) {r : Int32} {r_out : Nat → Int64} {r_n_ones : Nat → Int32} {r_n_twos : Nat → Int32} {r_n_energy : Int32} {r_s_ring : Nat → SV} {r_s_oldest : Int32} {r_s_count : Int32} (hf : fL_drop n_ones n_twos n_settings n_tick n_energy n_valuesPut s_ring s_oldest s_count o_out p1 = some (r, r_out, r_n_ones, r_n_twos, r_n_energy, r_s_ring, r_s_oldest, r_s_count)) : MetH l yL_drop cL_drop 4 [(0, 9, 12, 15)] 8 123 1 6 [.ref ob, .int p1, .ref oa] (dC, dI) (tyL cyI cyC cyO cyJ) ((wAll cyI cyC cyO ob n0 n1 n2 n3 t0 t1 t2 t3 s0 aR ro r1 r2 r3 x0 x1 x2 x3 x4 n_ones n_twos n_settings n_tick n_energy n_valuesPut t_ones t_twos t_settings t_tick t_energy t_valuesPut s_ring s_oldest s_count x_signs x_length x_position x_complete x_orders x_kinds x_numbers x_values) ++ wO cyJ oa o_out) ((wAll cyI cyC cyO ob n0 n1 n2 n3 t0 t1 t2 t3 s0 aR ro r1 r2 r3 x0 x1 x2 x3 x4 r_n_ones r_n_twos n_settings n_tick r_n_energy n_valuesPut t_ones t_twos t_settings t_tick t_energy t_valuesPut r_s_ring r_s_oldest r_s_count x_signs x_length x_position x_complete x_orders x_kinds x_numbers x_values) ++ wO cyJ oa r_out) ad r := by
  refine metH_of (by decide) (Nat.le_of_ble_eq_true rfl) ?_
  intro p e s m below meth c ls hC hr hlk hex hP hK hD hE hN hl
  have hC : CallFix p m c cL_drop 4 s [.ref ob, .int p1, .ref oa].toArray wA RL := hC
  obtain ⟨hx, hb, hml, hown, hts⟩ := id hC
  have hS : va_S (k_A ((wAll cyI cyC cyO ob n0 n1 n2 n3 t0 t1 t2 t3 s0 aR ro r1 r2 r3 x0 x1 x2 x3 x4 n_ones n_twos n_settings n_tick n_energy n_valuesPut t_ones t_twos t_settings t_tick t_energy t_valuesPut s_ring s_oldest s_count x_signs x_length x_position x_complete x_orders x_kinds x_numbers x_values) ++ wO cyJ oa o_out)) s.heap s.heap [] := va_S.rf
  have hl : lv_has ls 4 [(0, .ref ob), (1, .int p1), (2, .ref oa)] := hl
  have h := hf
  unfold fL_drop at h
  have hK3 : va_K (dC, dI) vwCl (tyS cyI cyC cyO) s := hK.sub [0, 1, 2] rfl
  obtain ⟨k, z, c0, c1, c2, c3, c4, c5, hc, h⟩ := k_b8_e h
  refine lv_aload_n hx hb dL_drop_0 rfl (lv_at hl 2 rfl) ?_
  refine lv_iconst (v := 0) hx hb dL_drop_1 (by decide) ?_
  refine lv_aload_n hx hb dL_drop_2 rfl (lv_at hl 0 rfl) ?_
  refine lv_iload_n hx hb dL_drop_3 rfl (lv_at hl 1 rfl) ?_
  refine g_callT_V (As := [.int p1]) (rest := [.int 0, .ref oa]) hC (mX4_drop l dC dI cyI cyC cyO hl9 ad ob n0 n1 n2 n3 t0 t1 t2 t3 s0 aR ro r1 r2 r3 x0 x1 x2 x3 x4 n_ones n_twos n_settings n_tick n_energy n_valuesPut t_ones t_twos t_settings t_tick t_energy t_valuesPut s_ring s_oldest s_count x_signs x_length x_position x_complete x_orders x_kinds x_numbers x_values p1 hc) q558 q559 q560 q71 q561 1 hdX4_drop ⟨Nat.le_of_ble_eq_true rfl, Nat.le_of_ble_eq_true rfl⟩ ⟨Nat.le_of_ble_eq_true rfl, Nat.le_of_ble_eq_true rfl⟩ rfl rfl hl.1 (Nat.le_of_ble_eq_true rfl) (hP.sub (ws' := (wAll cyI cyC cyO ob n0 n1 n2 n3 t0 t1 t2 t3 s0 aR ro r1 r2 r3 x0 x1 x2 x3 x4 n_ones n_twos n_settings n_tick n_energy n_valuesPut t_ones t_twos t_settings t_tick t_energy t_valuesPut s_ring s_oldest s_count x_signs x_length x_position x_complete x_orders x_kinds x_numbers x_values)) [0, 1, 2, 3, 4, 5, 6, 7, 8, 9, 10, 11, 12, 13, 14, 15, 16, 17, 18, 19, 20, 21, 22, 23, 24, 25, 26, 27, 28, 29, 30, 31, 32, 33, 34, 35, 36, 37, 38, 39] rfl) hK3 (hD.sub (ws' := (wAll cyI cyC cyO ob n0 n1 n2 n3 t0 t1 t2 t3 s0 aR ro r1 r2 r3 x0 x1 x2 x3 x4 n_ones n_twos n_settings n_tick n_energy n_valuesPut t_ones t_twos t_settings t_tick t_energy t_valuesPut s_ring s_oldest s_count x_signs x_length x_position x_complete x_orders x_kinds x_numbers x_values)) [0, 1, 2, 3, 4, 5, 6, 7, 8, 9, 10, 11, 12, 13, 14, 15, 16, 17, 18, 19, 20, 21, 22, 23, 24, 25, 26, 27, 28, 29, 30, 31, 32, 33, 34, 35, 36, 37, 38, 39] (by decide) rfl) (va_recv hK3 hP (ci := 3) (q0 := 0) rfl rfl) hS dL_drop_4 hE (fun E ce q9 H locs hX hPn hk hS hce hcv hcl => ?_) (fun H locs hk0 hPn hk hS => ?_)
  · have hP : va_P (dC, dI) vwCl ((wAll cyI cyC cyO ob n0 n1 n2 n3 t0 t1 t2 t3 s0 aR ro r1 r2 r3 x0 x1 x2 x3 x4 c0 c1 n_settings n_tick c2 n_valuesPut t_ones t_twos t_settings t_tick t_energy t_valuesPut c3 c4 c5 x_signs x_length x_position x_complete x_orders x_kinds x_numbers x_values) ++ wO cyJ oa o_out) H := k_repl hP hD [0, 1, 2, 3, 4, 5, 6, 7, 8, 9, 10, 11, 12, 13, 14, 15, 16, 17, 18, 19, 20, 21, 22, 23, 24, 25, 26, 27, 28, 29, 30, 31, 32, 33, 34, 35, 36, 37, 38, 39] rfl hk hPn [.inr 0, .inr 1, .inr 2, .inr 3, .inr 4, .inr 5, .inr 6, .inr 7, .inr 8, .inr 9, .inr 10, .inr 11, .inr 12, .inr 13, .inr 14, .inr 15, .inr 16, .inr 17, .inr 18, .inr 19, .inr 20, .inr 21, .inr 22, .inr 23, .inr 24, .inr 25, .inr 26, .inr 27, .inr 28, .inr 29, .inr 30, .inr 31, .inr 32, .inr 33, .inr 34, .inr 35, .inr 36, .inr 37, .inr 38, .inr 39, .inl 40] rfl (by decide)
    rcases hX with ⟨hk9, hE9⟩ | ⟨hk9, hE9⟩ | ⟨hk9, hE9⟩
    · subst hk9; subst hE9
      have h := k_if_f h (by decide)
      have h := k_if_f h (by decide)
      cases h
    · subst hk9; subst hE9
      have h := k_if_f h (by decide)
      have h := k_if_t h rfl
      obtain ⟨e0, e1, e2, e3, e4, e5, e6, e7⟩ := k_t8 h
      refine vx_catch hown [] ⟨0, 9, 12, 15⟩ [] (by rw [hex]; rfl) (fun z hz => nomatch hz) rfl (by decide) (hts _ q463) (k_castA hE) hce hcv hcl ?_
      refine lv_astore_n (lv' := [(3, .ref q9), (0, .ref ob), (1, .int p1), (2, .ref oa)]) hx hb dL_drop_12 rfl hl (by decide) rfl (fun ls hl => ?_)
      refine lv_iconst (v := 1) hx hb dL_drop_13 (by decide) ?_
      exact g_retH hx hb hr hlk (Nat.le_of_ble_eq_true rfl) (Nat.le_of_ble_eq_true rfl) hS e0 (by rw [← e1, ← e2, ← e3, ← e4, ← e5, ← e6, ← e7]; exact hP) dL_drop_14
    · subst hk9; subst hE9
      have h := k_if_f h (by decide)
      have h := k_if_f h (by decide)
      cases h
  · have hP : va_P (dC, dI) vwCl ((wAll cyI cyC cyO ob n0 n1 n2 n3 t0 t1 t2 t3 s0 aR ro r1 r2 r3 x0 x1 x2 x3 x4 c0 c1 n_settings n_tick c2 n_valuesPut t_ones t_twos t_settings t_tick t_energy t_valuesPut c3 c4 c5 x_signs x_length x_position x_complete x_orders x_kinds x_numbers x_values) ++ wO cyJ oa o_out) H := k_repl hP hD [0, 1, 2, 3, 4, 5, 6, 7, 8, 9, 10, 11, 12, 13, 14, 15, 16, 17, 18, 19, 20, 21, 22, 23, 24, 25, 26, 27, 28, 29, 30, 31, 32, 33, 34, 35, 36, 37, 38, 39] rfl hk hPn [.inr 0, .inr 1, .inr 2, .inr 3, .inr 4, .inr 5, .inr 6, .inr 7, .inr 8, .inr 9, .inr 10, .inr 11, .inr 12, .inr 13, .inr 14, .inr 15, .inr 16, .inr 17, .inr 18, .inr 19, .inr 20, .inr 21, .inr 22, .inr 23, .inr 24, .inr 25, .inr 26, .inr 27, .inr 28, .inr 29, .inr 30, .inr 31, .inr 32, .inr 33, .inr 34, .inr 35, .inr 36, .inr 37, .inr 38, .inr 39, .inl 40] rfl (by decide)
    have hD : va_D (k_A ((wAll cyI cyC cyO ob n0 n1 n2 n3 t0 t1 t2 t3 s0 aR ro r1 r2 r3 x0 x1 x2 x3 x4 n_ones n_twos n_settings n_tick n_energy n_valuesPut t_ones t_twos t_settings t_tick t_energy t_valuesPut s_ring s_oldest s_count x_signs x_length x_position x_complete x_orders x_kinds x_numbers x_values) ++ wO cyJ oa o_out)) ((wAll cyI cyC cyO ob n0 n1 n2 n3 t0 t1 t2 t3 s0 aR ro r1 r2 r3 x0 x1 x2 x3 x4 c0 c1 n_settings n_tick c2 n_valuesPut t_ones t_twos t_settings t_tick t_energy t_valuesPut c3 c4 c5 x_signs x_length x_position x_complete x_orders x_kinds x_numbers x_values) ++ wO cyJ oa o_out) := k_Dm hD rfl
    have h := k_if_t h hk0.symm
    obtain ⟨e0, e1, e2, e3, e4, e5, e6, e7⟩ := k_t8 h
    refine lv_i2l hx hb dL_drop_7 rfl ?_
    refine va_last hx hb hK hP hD hS 40 3 rfl rfl (by unfold vp_in; decide) dL_drop_8 (fun H locs hP hD hS => ?_)
    have hP : va_P (dC, dI) vwCl ((wAll cyI cyC cyO ob n0 n1 n2 n3 t0 t1 t2 t3 s0 aR ro r1 r2 r3 x0 x1 x2 x3 x4 c0 c1 n_settings n_tick c2 n_valuesPut t_ones t_twos t_settings t_tick t_energy t_valuesPut c3 c4 c5 x_signs x_length x_position x_complete x_orders x_kinds x_numbers x_values) ++ wO cyJ oa (vp_updL o_out (0 : Int32).toNatClampNeg z.toInt64)) H := hP
    refine lv_goto (tgt := 15) hx hb dL_drop_9 (by decide) ?_
    refine lv_iconst (v := 0) hx hb dL_drop_15 (by decide) ?_
    exact g_retH hx hb hr hlk (Nat.le_of_ble_eq_true rfl) (Nat.le_of_ble_eq_true rfl) hS e0 (by rw [← e1, ← e2, ← e3, ← e4, ← e5, ← e6, ← e7]; exact hP) dL_drop_16
def fL_lock (n_ones : Nat → Int32) (n_twos : Nat → Int32) (n_settings : Nat → Int32) (n_tick : Int32) (n_energy : Int32) (n_valuesPut : Int32) (s_ring : Nat → SV) (s_oldest : Int32) (s_count : Int32) (o_out : Nat → Int64) (p1 : Int32) : Option (Int32 × (Nat → Int64) × (Nat → Int32) × (Nat → Int32) × (Int32) × (Nat → SV) × (Int32) × (Int32)) :=
  k_b8 (fX4_lock n_ones n_twos n_settings n_tick n_energy n_valuesPut s_ring s_oldest s_count p1) fun (k : Nat) (z : Int32) (c0 : Nat → Int32) (c1 : Nat → Int32) (c2 : Int32) (c3 : Nat → SV) (c4 : Int32) (c5 : Int32) =>
  k_if (k = 0) (some (0, vp_updL o_out (0 : Int32).toNatClampNeg z.toInt64, c0, c1, c2, c3, c4, c5)) <|
  k_if (k = 1) (some (1, o_out, c0, c1, c2, c3, c4, c5)) <|
  k_if (k = 3) (some (2, o_out, c0, c1, c2, c3, c4, c5)) <|
  none
theorem hdL_lock : yL_lock.cls ≠ "java/lang/invoke/MethodHandle" ∧ yL_lock.cls ≠ "java/lang/invoke/VarHandle" ∧ (parseMethodDescriptor yL_lock.desc).map (fun d => d.parameters.length) = some 3 := by decide +kernel
set_option maxRecDepth 100000 in
set_option maxHeartbeats 4000000 in
theorem mL_lock (l : Launch) (dC : Nat → ClassId) (dI : Nat → Nat → Nat) (cyI cyC cyO cyJ : ClassId) (hl9 : l.stackTraces = false) (ad : Nat → Nat) (ob : Nat) (n0 : Nat) (n1 : Nat) (n2 : Nat) (n3 : Nat) (t0 : Nat) (t1 : Nat) (t2 : Nat) (t3 : Nat) (s0 : Nat) (aR : Nat) (ro : Nat → Nat) (r1 : Nat → Nat) (r2 : Nat → Nat) (r3 : Nat → Nat) (x0 : Nat) (x1 : Nat) (x2 : Nat) (x3 : Nat) (x4 : Nat) (oa : Nat) (n_ones : Nat → Int32) (n_twos : Nat → Int32) (n_settings : Nat → Int32) (n_tick : Int32) (n_energy : Int32) (n_valuesPut : Int32) (t_ones : Nat → Int32) (t_twos : Nat → Int32) (t_settings : Nat → Int32) (t_tick : Int32) (t_energy : Int32) (t_valuesPut : Int32) (s_ring : Nat → SV) (s_oldest : Int32) (s_count : Int32) (x_signs : Nat → Int32) (x_length : Int32) (x_position : Int32) (x_complete : Int32) (x_orders : Int32) (x_kinds : Nat → Int32) (x_numbers : Nat → Int32) (x_values : Nat → Int32) (o_out : Nat → Int64) (p1 : Int32) {r : Int32} {r_out : Nat → Int64} {r_n_ones : Nat → Int32} {r_n_twos : Nat → Int32} {r_n_energy : Int32} {r_s_ring : Nat → SV} {r_s_oldest : Int32} {r_s_count : Int32} (hf : fL_lock n_ones n_twos n_settings n_tick n_energy n_valuesPut s_ring s_oldest s_count o_out p1 = some (r, r_out, r_n_ones, r_n_twos, r_n_energy, r_s_ring, r_s_oldest, r_s_count)) : MetH l yL_lock cL_lock 4 [(0, 9, 12, 13), (0, 9, 15, 17)] 8 123 2 12 [.ref ob, .int p1, .ref oa] (dC, dI) (tyL cyI cyC cyO cyJ) ((wAll cyI cyC cyO ob n0 n1 n2 n3 t0 t1 t2 t3 s0 aR ro r1 r2 r3 x0 x1 x2 x3 x4 n_ones n_twos n_settings n_tick n_energy n_valuesPut t_ones t_twos t_settings t_tick t_energy t_valuesPut s_ring s_oldest s_count x_signs x_length x_position x_complete x_orders x_kinds x_numbers x_values) ++ wO cyJ oa o_out) ((wAll cyI cyC cyO ob n0 n1 n2 n3 t0 t1 t2 t3 s0 aR ro r1 r2 r3 x0 x1 x2 x3 x4 r_n_ones r_n_twos n_settings n_tick r_n_energy n_valuesPut t_ones t_twos t_settings t_tick t_energy t_valuesPut r_s_ring r_s_oldest r_s_count x_signs x_length x_position x_complete x_orders x_kinds x_numbers x_values) ++ wO cyJ oa r_out) ad r := by
  refine metH_of (by decide) (Nat.le_of_ble_eq_true rfl) ?_
  intro p e s m below meth c ls hC hr hlk hex hP hK hD hE hN hl
  have hC : CallFix p m c cL_lock 4 s [.ref ob, .int p1, .ref oa].toArray wA RL := hC
  obtain ⟨hx, hb, hml, hown, hts⟩ := id hC
  have hS : va_S (k_A ((wAll cyI cyC cyO ob n0 n1 n2 n3 t0 t1 t2 t3 s0 aR ro r1 r2 r3 x0 x1 x2 x3 x4 n_ones n_twos n_settings n_tick n_energy n_valuesPut t_ones t_twos t_settings t_tick t_energy t_valuesPut s_ring s_oldest s_count x_signs x_length x_position x_complete x_orders x_kinds x_numbers x_values) ++ wO cyJ oa o_out)) s.heap s.heap [] := va_S.rf
  have hl : lv_has ls 4 [(0, .ref ob), (1, .int p1), (2, .ref oa)] := hl
  have h := hf
  unfold fL_lock at h
  have hK3 : va_K (dC, dI) vwCl (tyS cyI cyC cyO) s := hK.sub [0, 1, 2] rfl
  obtain ⟨k, z, c0, c1, c2, c3, c4, c5, hc, h⟩ := k_b8_e h
  refine lv_aload_n hx hb dL_lock_0 rfl (lv_at hl 2 rfl) ?_
  refine lv_iconst (v := 0) hx hb dL_lock_1 (by decide) ?_
  refine lv_aload_n hx hb dL_lock_2 rfl (lv_at hl 0 rfl) ?_
  refine lv_iload_n hx hb dL_lock_3 rfl (lv_at hl 1 rfl) ?_
  refine g_callT_V (As := [.int p1]) (rest := [.int 0, .ref oa]) hC (mX4_lock l dC dI cyI cyC cyO hl9 ad ob n0 n1 n2 n3 t0 t1 t2 t3 s0 aR ro r1 r2 r3 x0 x1 x2 x3 x4 n_ones n_twos n_settings n_tick n_energy n_valuesPut t_ones t_twos t_settings t_tick t_energy t_valuesPut s_ring s_oldest s_count x_signs x_length x_position x_complete x_orders x_kinds x_numbers x_values p1 hc) q566 q567 q568 q71 q569 1 hdX4_lock ⟨Nat.le_of_ble_eq_true rfl, Nat.le_of_ble_eq_true rfl⟩ ⟨Nat.le_of_ble_eq_true rfl, Nat.le_of_ble_eq_true rfl⟩ rfl rfl hl.1 (Nat.le_of_ble_eq_true rfl) (hP.sub (ws' := (wAll cyI cyC cyO ob n0 n1 n2 n3 t0 t1 t2 t3 s0 aR ro r1 r2 r3 x0 x1 x2 x3 x4 n_ones n_twos n_settings n_tick n_energy n_valuesPut t_ones t_twos t_settings t_tick t_energy t_valuesPut s_ring s_oldest s_count x_signs x_length x_position x_complete x_orders x_kinds x_numbers x_values)) [0, 1, 2, 3, 4, 5, 6, 7, 8, 9, 10, 11, 12, 13, 14, 15, 16, 17, 18, 19, 20, 21, 22, 23, 24, 25, 26, 27, 28, 29, 30, 31, 32, 33, 34, 35, 36, 37, 38, 39] rfl) hK3 (hD.sub (ws' := (wAll cyI cyC cyO ob n0 n1 n2 n3 t0 t1 t2 t3 s0 aR ro r1 r2 r3 x0 x1 x2 x3 x4 n_ones n_twos n_settings n_tick n_energy n_valuesPut t_ones t_twos t_settings t_tick t_energy t_valuesPut s_ring s_oldest s_count x_signs x_length x_position x_complete x_orders x_kinds x_numbers x_values)) [0, 1, 2, 3, 4, 5, 6, 7, 8, 9, 10, 11, 12, 13, 14, 15, 16, 17, 18, 19, 20, 21, 22, 23, 24, 25, 26, 27, 28, 29, 30, 31, 32, 33, 34, 35, 36, 37, 38, 39] (by decide) rfl) (va_recv hK3 hP (ci := 3) (q0 := 0) rfl rfl) hS dL_lock_4 hE (fun E ce q9 H locs hX hPn hk hS hce hcv hcl => ?_) (fun H locs hk0 hPn hk hS => ?_)
  · have hP : va_P (dC, dI) vwCl ((wAll cyI cyC cyO ob n0 n1 n2 n3 t0 t1 t2 t3 s0 aR ro r1 r2 r3 x0 x1 x2 x3 x4 c0 c1 n_settings n_tick c2 n_valuesPut t_ones t_twos t_settings t_tick t_energy t_valuesPut c3 c4 c5 x_signs x_length x_position x_complete x_orders x_kinds x_numbers x_values) ++ wO cyJ oa o_out) H := k_repl hP hD [0, 1, 2, 3, 4, 5, 6, 7, 8, 9, 10, 11, 12, 13, 14, 15, 16, 17, 18, 19, 20, 21, 22, 23, 24, 25, 26, 27, 28, 29, 30, 31, 32, 33, 34, 35, 36, 37, 38, 39] rfl hk hPn [.inr 0, .inr 1, .inr 2, .inr 3, .inr 4, .inr 5, .inr 6, .inr 7, .inr 8, .inr 9, .inr 10, .inr 11, .inr 12, .inr 13, .inr 14, .inr 15, .inr 16, .inr 17, .inr 18, .inr 19, .inr 20, .inr 21, .inr 22, .inr 23, .inr 24, .inr 25, .inr 26, .inr 27, .inr 28, .inr 29, .inr 30, .inr 31, .inr 32, .inr 33, .inr 34, .inr 35, .inr 36, .inr 37, .inr 38, .inr 39, .inl 40] rfl (by decide)
    rcases hX with ⟨hk9, hE9⟩ | ⟨hk9, hE9⟩ | ⟨hk9, hE9⟩
    · subst hk9; subst hE9
      have h := k_if_f h (by decide)
      have h := k_if_t h rfl
      obtain ⟨e0, e1, e2, e3, e4, e5, e6, e7⟩ := k_t8 h
      refine vx_catch hown [] ⟨0, 9, 12, 13⟩ [⟨0, 9, 15, 17⟩] (by rw [hex]; rfl) (fun z hz => nomatch hz) rfl (by decide) (hts _ q462) (k_castI hE) hce hcv hcl ?_
      refine lv_astore_n (lv' := [(3, .ref q9), (0, .ref ob), (1, .int p1), (2, .ref oa)]) hx hb dL_lock_12 rfl hl (by decide) rfl (fun ls hl => ?_)
      refine lv_iconst (v := 1) hx hb dL_lock_13 (by decide) ?_
      exact g_retH hx hb hr hlk (Nat.le_of_ble_eq_true rfl) (Nat.le_of_ble_eq_true rfl) hS e0 (by rw [← e1, ← e2, ← e3, ← e4, ← e5, ← e6, ← e7]; exact hP) dL_lock_14
    · subst hk9; subst hE9
      have h := k_if_f h (by decide)
      have h := k_if_f h (by decide)
      have h := k_if_f h (by decide)
      cases h
    · subst hk9; subst hE9
      have h := k_if_f h (by decide)
      have h := k_if_f h (by decide)
      have h := k_if_t h rfl
      obtain ⟨e0, e1, e2, e3, e4, e5, e6, e7⟩ := k_t8 h
      refine vx_catch hown [⟨0, 9, 12, 13⟩] ⟨0, 9, 15, 17⟩ [] (by rw [hex]; rfl) (fun z hz => by
        simp only [List.mem_cons, List.not_mem_nil, or_false] at hz
        rcases hz with rfl
        · exact Or.inr ⟨by decide, "java/lang/IndexOutOfBoundsException", hts _ q462, hN.2.1⟩) rfl (by decide) (hts _ q464) (k_castS hE) hce hcv hcl ?_
      refine lv_astore_n (lv' := [(3, .ref q9), (0, .ref ob), (1, .int p1), (2, .ref oa)]) hx hb dL_lock_15 rfl hl (by decide) rfl (fun ls hl => ?_)
      refine lv_iconst (v := 2) hx hb dL_lock_16 (by decide) ?_
      exact g_retH hx hb hr hlk (Nat.le_of_ble_eq_true rfl) (Nat.le_of_ble_eq_true rfl) hS e0 (by rw [← e1, ← e2, ← e3, ← e4, ← e5, ← e6, ← e7]; exact hP) dL_lock_17
  · have hP : va_P (dC, dI) vwCl ((wAll cyI cyC cyO ob n0 n1 n2 n3 t0 t1 t2 t3 s0 aR ro r1 r2 r3 x0 x1 x2 x3 x4 c0 c1 n_settings n_tick c2 n_valuesPut t_ones t_twos t_settings t_tick t_energy t_valuesPut c3 c4 c5 x_signs x_length x_position x_complete x_orders x_kinds x_numbers x_values) ++ wO cyJ oa o_out) H := k_repl hP hD [0, 1, 2, 3, 4, 5, 6, 7, 8, 9, 10, 11, 12, 13, 14, 15, 16, 17, 18, 19, 20, 21, 22, 23, 24, 25, 26, 27, 28, 29, 30, 31, 32, 33, 34, 35, 36, 37, 38, 39] rfl hk hPn [.inr 0, .inr 1, .inr 2, .inr 3, .inr 4, .inr 5, .inr 6, .inr 7, .inr 8, .inr 9, .inr 10, .inr 11, .inr 12, .inr 13, .inr 14, .inr 15, .inr 16, .inr 17, .inr 18, .inr 19, .inr 20, .inr 21, .inr 22, .inr 23, .inr 24, .inr 25, .inr 26, .inr 27, .inr 28, .inr 29, .inr 30, .inr 31, .inr 32, .inr 33, .inr 34, .inr 35, .inr 36, .inr 37, .inr 38, .inr 39, .inl 40] rfl (by decide)
    have hD : va_D (k_A ((wAll cyI cyC cyO ob n0 n1 n2 n3 t0 t1 t2 t3 s0 aR ro r1 r2 r3 x0 x1 x2 x3 x4 n_ones n_twos n_settings n_tick n_energy n_valuesPut t_ones t_twos t_settings t_tick t_energy t_valuesPut s_ring s_oldest s_count x_signs x_length x_position x_complete x_orders x_kinds x_numbers x_values) ++ wO cyJ oa o_out)) ((wAll cyI cyC cyO ob n0 n1 n2 n3 t0 t1 t2 t3 s0 aR ro r1 r2 r3 x0 x1 x2 x3 x4 c0 c1 n_settings n_tick c2 n_valuesPut t_ones t_twos t_settings t_tick t_energy t_valuesPut c3 c4 c5 x_signs x_length x_position x_complete x_orders x_kinds x_numbers x_values) ++ wO cyJ oa o_out) := k_Dm hD rfl
    have h := k_if_t h hk0.symm
    obtain ⟨e0, e1, e2, e3, e4, e5, e6, e7⟩ := k_t8 h
    refine lv_i2l hx hb dL_lock_7 rfl ?_
    refine va_last hx hb hK hP hD hS 40 3 rfl rfl (by unfold vp_in; decide) dL_lock_8 (fun H locs hP hD hS => ?_)
    have hP : va_P (dC, dI) vwCl ((wAll cyI cyC cyO ob n0 n1 n2 n3 t0 t1 t2 t3 s0 aR ro r1 r2 r3 x0 x1 x2 x3 x4 c0 c1 n_settings n_tick c2 n_valuesPut t_ones t_twos t_settings t_tick t_energy t_valuesPut c3 c4 c5 x_signs x_length x_position x_complete x_orders x_kinds x_numbers x_values) ++ wO cyJ oa (vp_updL o_out (0 : Int32).toNatClampNeg z.toInt64)) H := hP
    refine lv_goto (tgt := 18) hx hb dL_lock_9 (by decide) ?_
    refine lv_iconst (v := 0) hx hb dL_lock_18 (by decide) ?_
    exact g_retH hx hb hr hlk (Nat.le_of_ble_eq_true rfl) (Nat.le_of_ble_eq_true rfl) hS e0 (by rw [← e1, ← e2, ← e3, ← e4, ← e5, ← e6, ← e7]; exact hP) dL_lock_19
def fL_refresh (n_ones : Nat → Int32) (n_twos : Nat → Int32) (n_settings : Nat → Int32) (n_tick : Int32) (n_energy : Int32) (n_valuesPut : Int32) (s_ring : Nat → SV) (s_oldest : Int32) (s_count : Int32) (o_out : Nat → Int64) (p1 : Int32) : Option (Int32 × (Nat → Int64) × (Nat → Int32) × (Nat → Int32) × (Int32) × (Nat → SV) × (Int32) × (Int32)) :=
  k_b8 (fX4_refresh n_ones n_twos n_settings n_tick n_energy n_valuesPut s_ring s_oldest s_count p1) fun (k : Nat) (z : Int32) (c0 : Nat → Int32) (c1 : Nat → Int32) (c2 : Int32) (c3 : Nat → SV) (c4 : Int32) (c5 : Int32) =>
  k_if (k = 0) (some (0, vp_updL o_out (0 : Int32).toNatClampNeg z.toInt64, c0, c1, c2, c3, c4, c5)) <|
  k_if (k = 1) (some (1, o_out, c0, c1, c2, c3, c4, c5)) <|
  k_if (k = 3) (some (2, o_out, c0, c1, c2, c3, c4, c5)) <|
  none
theorem hdL_refresh : yL_refresh.cls ≠ "java/lang/invoke/MethodHandle" ∧ yL_refresh.cls ≠ "java/lang/invoke/VarHandle" ∧ (parseMethodDescriptor yL_refresh.desc).map (fun d => d.parameters.length) = some 3 := by decide +kernel
set_option maxRecDepth 100000 in
set_option maxHeartbeats 4000000 in
theorem mL_refresh (l : Launch) (dC : Nat → ClassId) (dI : Nat → Nat → Nat) (cyI cyC cyO cyJ : ClassId) (hl9 : l.stackTraces = false) (ad : Nat → Nat) (ob : Nat) (n0 : Nat) (n1 : Nat) (n2 : Nat) (n3 : Nat) (t0 : Nat) (t1 : Nat) (t2 : Nat) (t3 : Nat) (s0 : Nat) (aR : Nat) (ro : Nat → Nat) (r1 : Nat → Nat) (r2 : Nat → Nat) (r3 : Nat → Nat) (x0 : Nat) (x1 : Nat) (x2 : Nat) (x3 : Nat) (x4 : Nat) (oa : Nat) (n_ones : Nat → Int32) (n_twos : Nat → Int32) (n_settings : Nat → Int32) (n_tick : Int32) (n_energy : Int32) (n_valuesPut : Int32) (t_ones : Nat → Int32) (t_twos : Nat → Int32) (t_settings : Nat → Int32) (t_tick : Int32) (t_energy : Int32) (t_valuesPut : Int32) (s_ring : Nat → SV) (s_oldest : Int32) (s_count : Int32) (x_signs : Nat → Int32) (x_length : Int32) (x_position : Int32) (x_complete : Int32) (x_orders : Int32) (x_kinds : Nat → Int32) (x_numbers : Nat → Int32) (x_values : Nat → Int32) (o_out : Nat → Int64) (p1 : Int32) {r : Int32} {r_out : Nat → Int64} {r_n_ones : Nat → Int32} {r_n_twos : Nat → Int32} {r_n_energy : Int32} {r_s_ring : Nat → SV} {r_s_oldest : Int32} {r_s_count : Int32} (hf : fL_refresh n_ones n_twos n_settings n_tick n_energy n_valuesPut s_ring s_oldest s_count o_out p1 = some (r, r_out, r_n_ones, r_n_twos, r_n_energy, r_s_ring, r_s_oldest, r_s_count)) : MetH l yL_refresh cL_refresh 4 [(0, 9, 12, 13), (0, 9, 15, 17)] 8 123 2 12 [.ref ob, .int p1, .ref oa] (dC, dI) (tyL cyI cyC cyO cyJ) ((wAll cyI cyC cyO ob n0 n1 n2 n3 t0 t1 t2 t3 s0 aR ro r1 r2 r3 x0 x1 x2 x3 x4 n_ones n_twos n_settings n_tick n_energy n_valuesPut t_ones t_twos t_settings t_tick t_energy t_valuesPut s_ring s_oldest s_count x_signs x_length x_position x_complete x_orders x_kinds x_numbers x_values) ++ wO cyJ oa o_out) ((wAll cyI cyC cyO ob n0 n1 n2 n3 t0 t1 t2 t3 s0 aR ro r1 r2 r3 x0 x1 x2 x3 x4 r_n_ones r_n_twos n_settings n_tick r_n_energy n_valuesPut t_ones t_twos t_settings t_tick t_energy t_valuesPut r_s_ring r_s_oldest r_s_count x_signs x_length x_position x_complete x_orders x_kinds x_numbers x_values) ++ wO cyJ oa r_out) ad r := by
  refine metH_of (by decide) (Nat.le_of_ble_eq_true rfl) ?_
  intro p e s m below meth c ls hC hr hlk hex hP hK hD hE hN hl
  have hC : CallFix p m c cL_refresh 4 s [.ref ob, .int p1, .ref oa].toArray wA RL := hC
  obtain ⟨hx, hb, hml, hown, hts⟩ := id hC
  have hS : va_S (k_A ((wAll cyI cyC cyO ob n0 n1 n2 n3 t0 t1 t2 t3 s0 aR ro r1 r2 r3 x0 x1 x2 x3 x4 n_ones n_twos n_settings n_tick n_energy n_valuesPut t_ones t_twos t_settings t_tick t_energy t_valuesPut s_ring s_oldest s_count x_signs x_length x_position x_complete x_orders x_kinds x_numbers x_values) ++ wO cyJ oa o_out)) s.heap s.heap [] := va_S.rf
  have hl : lv_has ls 4 [(0, .ref ob), (1, .int p1), (2, .ref oa)] := hl
  have h := hf
  unfold fL_refresh at h
  have hK3 : va_K (dC, dI) vwCl (tyS cyI cyC cyO) s := hK.sub [0, 1, 2] rfl
  obtain ⟨k, z, c0, c1, c2, c3, c4, c5, hc, h⟩ := k_b8_e h
  refine lv_aload_n hx hb dL_refresh_0 rfl (lv_at hl 2 rfl) ?_
  refine lv_iconst (v := 0) hx hb dL_refresh_1 (by decide) ?_
  refine lv_aload_n hx hb dL_refresh_2 rfl (lv_at hl 0 rfl) ?_
  refine lv_iload_n hx hb dL_refresh_3 rfl (lv_at hl 1 rfl) ?_
  refine g_callT_V (As := [.int p1]) (rest := [.int 0, .ref oa]) hC (mX4_refresh l dC dI cyI cyC cyO hl9 ad ob n0 n1 n2 n3 t0 t1 t2 t3 s0 aR ro r1 r2 r3 x0 x1 x2 x3 x4 n_ones n_twos n_settings n_tick n_energy n_valuesPut t_ones t_twos t_settings t_tick t_energy t_valuesPut s_ring s_oldest s_count x_signs x_length x_position x_complete x_orders x_kinds x_numbers x_values p1 hc) q573 q574 q575 q71 q576 1 hdX4_refresh ⟨Nat.le_of_ble_eq_true rfl, Nat.le_of_ble_eq_true rfl⟩ ⟨Nat.le_of_ble_eq_true rfl, Nat.le_of_ble_eq_true rfl⟩ rfl rfl hl.1 (Nat.le_of_ble_eq_true rfl) (hP.sub (ws' := (wAll cyI cyC cyO ob n0 n1 n2 n3 t0 t1 t2 t3 s0 aR ro r1 r2 r3 x0 x1 x2 x3 x4 n_ones n_twos n_settings n_tick n_energy n_valuesPut t_ones t_twos t_settings t_tick t_energy t_valuesPut s_ring s_oldest s_count x_signs x_length x_position x_complete x_orders x_kinds x_numbers x_values)) [0, 1, 2, 3, 4, 5, 6, 7, 8, 9, 10, 11, 12, 13, 14, 15, 16, 17, 18, 19, 20, 21, 22, 23, 24, 25, 26, 27, 28, 29, 30, 31, 32, 33, 34, 35, 36, 37, 38, 39] rfl) hK3 (hD.sub (ws' := (wAll cyI cyC cyO ob n0 n1 n2 n3 t0 t1 t2 t3 s0 aR ro r1 r2 r3 x0 x1 x2 x3 x4 n_ones n_twos n_settings n_tick n_energy n_valuesPut t_ones t_twos t_settings t_tick t_energy t_valuesPut s_ring s_oldest s_count x_signs x_length x_position x_complete x_orders x_kinds x_numbers x_values)) [0, 1, 2, 3, 4, 5, 6, 7, 8, 9, 10, 11, 12, 13, 14, 15, 16, 17, 18, 19, 20, 21, 22, 23, 24, 25, 26, 27, 28, 29, 30, 31, 32, 33, 34, 35, 36, 37, 38, 39] (by decide) rfl) (va_recv hK3 hP (ci := 3) (q0 := 0) rfl rfl) hS dL_refresh_4 hE (fun E ce q9 H locs hX hPn hk hS hce hcv hcl => ?_) (fun H locs hk0 hPn hk hS => ?_)
  · have hP : va_P (dC, dI) vwCl ((wAll cyI cyC cyO ob n0 n1 n2 n3 t0 t1 t2 t3 s0 aR ro r1 r2 r3 x0 x1 x2 x3 x4 c0 c1 n_settings n_tick c2 n_valuesPut t_ones t_twos t_settings t_tick t_energy t_valuesPut c3 c4 c5 x_signs x_length x_position x_complete x_orders x_kinds x_numbers x_values) ++ wO cyJ oa o_out) H := k_repl hP hD [0, 1, 2, 3, 4, 5, 6, 7, 8, 9, 10, 11, 12, 13, 14, 15, 16, 17, 18, 19, 20, 21, 22, 23, 24, 25, 26, 27, 28, 29, 30, 31, 32, 33, 34, 35, 36, 37, 38, 39] rfl hk hPn [.inr 0, .inr 1, .inr 2, .inr 3, .inr 4, .inr 5, .inr 6, .inr 7, .inr 8, .inr 9, .inr 10, .inr 11, .inr 12, .inr 13, .inr 14, .inr 15, .inr 16, .inr 17, .inr 18, .inr 19, .inr 20, .inr 21, .inr 22, .inr 23, .inr 24, .inr 25, .inr 26, .inr 27, .inr 28, .inr 29, .inr 30, .inr 31, .inr 32, .inr 33, .inr 34, .inr 35, .inr 36, .inr 37, .inr 38, .inr 39, .inl 40] rfl (by decide)
    rcases hX with ⟨hk9, hE9⟩ | ⟨hk9, hE9⟩ | ⟨hk9, hE9⟩
    · subst hk9; subst hE9
      have h := k_if_f h (by decide)
      have h := k_if_t h rfl
      obtain ⟨e0, e1, e2, e3, e4, e5, e6, e7⟩ := k_t8 h
      refine vx_catch hown [] ⟨0, 9, 12, 13⟩ [⟨0, 9, 15, 17⟩] (by rw [hex]; rfl) (fun z hz => nomatch hz) rfl (by decide) (hts _ q462) (k_castI hE) hce hcv hcl ?_
      refine lv_astore_n (lv' := [(3, .ref q9), (0, .ref ob), (1, .int p1), (2, .ref oa)]) hx hb dL_refresh_12 rfl hl (by decide) rfl (fun ls hl => ?_)
      refine lv_iconst (v := 1) hx hb dL_refresh_13 (by decide) ?_
      exact g_retH hx hb hr hlk (Nat.le_of_ble_eq_true rfl) (Nat.le_of_ble_eq_true rfl) hS e0 (by rw [← e1, ← e2, ← e3, ← e4, ← e5, ← e6, ← e7]; exact hP) dL_refresh_14
    · subst hk9; subst hE9
      have h := k_if_f h (by decide)
      have h := k_if_f h (by decide)
      have h := k_if_f h (by decide)
      cases h
    · subst hk9; subst hE9
      have h := k_if_f h (by decide)
      have h := k_if_f h (by decide)
      have h := k_if_t h rfl
      obtain ⟨e0, e1, e2, e3, e4, e5, e6, e7⟩ := k_t8 h
      refine vx_catch hown [⟨0, 9, 12, 13⟩] ⟨0, 9, 15, 17⟩ [] (by rw [hex]; rfl) (fun z hz => by
        simp only [List.mem_cons, List.not_mem_nil, or_false] at hz
        rcases hz with rfl
        · exact Or.inr ⟨by decide, "java/lang/IndexOutOfBoundsException", hts _ q462, hN.2.1⟩) rfl (by decide) (hts _ q464) (k_castS hE) hce hcv hcl ?_
      refine lv_astore_n (lv' := [(3, .ref q9), (0, .ref ob), (1, .int p1), (2, .ref oa)]) hx hb dL_refresh_15 rfl hl (by decide) rfl (fun ls hl => ?_)
      refine lv_iconst (v := 2) hx hb dL_refresh_16 (by decide) ?_
      exact g_retH hx hb hr hlk (Nat.le_of_ble_eq_true rfl) (Nat.le_of_ble_eq_true rfl) hS e0 (by rw [← e1, ← e2, ← e3, ← e4, ← e5, ← e6, ← e7]; exact hP) dL_refresh_17
  · have hP : va_P (dC, dI) vwCl ((wAll cyI cyC cyO ob n0 n1 n2 n3 t0 t1 t2 t3 s0 aR ro r1 r2 r3 x0 x1 x2 x3 x4 c0 c1 n_settings n_tick c2 n_valuesPut t_ones t_twos t_settings t_tick t_energy t_valuesPut c3 c4 c5 x_signs x_length x_position x_complete x_orders x_kinds x_numbers x_values) ++ wO cyJ oa o_out) H := k_repl hP hD [0, 1, 2, 3, 4, 5, 6, 7, 8, 9, 10, 11, 12, 13, 14, 15, 16, 17, 18, 19, 20, 21, 22, 23, 24, 25, 26, 27, 28, 29, 30, 31, 32, 33, 34, 35, 36, 37, 38, 39] rfl hk hPn [.inr 0, .inr 1, .inr 2, .inr 3, .inr 4, .inr 5, .inr 6, .inr 7, .inr 8, .inr 9, .inr 10, .inr 11, .inr 12, .inr 13, .inr 14, .inr 15, .inr 16, .inr 17, .inr 18, .inr 19, .inr 20, .inr 21, .inr 22, .inr 23, .inr 24, .inr 25, .inr 26, .inr 27, .inr 28, .inr 29, .inr 30, .inr 31, .inr 32, .inr 33, .inr 34, .inr 35, .inr 36, .inr 37, .inr 38, .inr 39, .inl 40] rfl (by decide)
    have hD : va_D (k_A ((wAll cyI cyC cyO ob n0 n1 n2 n3 t0 t1 t2 t3 s0 aR ro r1 r2 r3 x0 x1 x2 x3 x4 n_ones n_twos n_settings n_tick n_energy n_valuesPut t_ones t_twos t_settings t_tick t_energy t_valuesPut s_ring s_oldest s_count x_signs x_length x_position x_complete x_orders x_kinds x_numbers x_values) ++ wO cyJ oa o_out)) ((wAll cyI cyC cyO ob n0 n1 n2 n3 t0 t1 t2 t3 s0 aR ro r1 r2 r3 x0 x1 x2 x3 x4 c0 c1 n_settings n_tick c2 n_valuesPut t_ones t_twos t_settings t_tick t_energy t_valuesPut c3 c4 c5 x_signs x_length x_position x_complete x_orders x_kinds x_numbers x_values) ++ wO cyJ oa o_out) := k_Dm hD rfl
    have h := k_if_t h hk0.symm
    obtain ⟨e0, e1, e2, e3, e4, e5, e6, e7⟩ := k_t8 h
    refine lv_i2l hx hb dL_refresh_7 rfl ?_
    refine va_last hx hb hK hP hD hS 40 3 rfl rfl (by unfold vp_in; decide) dL_refresh_8 (fun H locs hP hD hS => ?_)
    have hP : va_P (dC, dI) vwCl ((wAll cyI cyC cyO ob n0 n1 n2 n3 t0 t1 t2 t3 s0 aR ro r1 r2 r3 x0 x1 x2 x3 x4 c0 c1 n_settings n_tick c2 n_valuesPut t_ones t_twos t_settings t_tick t_energy t_valuesPut c3 c4 c5 x_signs x_length x_position x_complete x_orders x_kinds x_numbers x_values) ++ wO cyJ oa (vp_updL o_out (0 : Int32).toNatClampNeg z.toInt64)) H := hP
    refine lv_goto (tgt := 18) hx hb dL_refresh_9 (by decide) ?_
    refine lv_iconst (v := 0) hx hb dL_refresh_18 (by decide) ?_
    exact g_retH hx hb hr hlk (Nat.le_of_ble_eq_true rfl) (Nat.le_of_ble_eq_true rfl) hS e0 (by rw [← e1, ← e2, ← e3, ← e4, ← e5, ← e6, ← e7]; exact hP) dL_refresh_19
def fL_heat (n_ones : Nat → Int32) (n_twos : Nat → Int32) (n_settings : Nat → Int32) (n_tick : Int32) (n_energy : Int32) (n_valuesPut : Int32) (s_ring : Nat → SV) (s_oldest : Int32) (s_count : Int32) (o_out : Nat → Int64) (p1 : Int32) : Option (Int32 × (Nat → Int64) × (Nat → Int32) × (Nat → Int32) × (Nat → SV) × (Int32) × (Int32)) :=
  k_b7 (fX4_heat n_ones n_twos n_settings n_tick n_energy n_valuesPut s_ring s_oldest s_count p1) fun (k : Nat) (z : Int32) (c0 : Nat → Int32) (c1 : Nat → Int32) (c2 : Nat → SV) (c3 : Int32) (c4 : Int32) =>
  k_if (k = 0) (some (0, vp_updL o_out (0 : Int32).toNatClampNeg z.toInt64, c0, c1, c2, c3, c4)) <|
  k_if (k = 2) (some (1, o_out, c0, c1, c2, c3, c4)) <|
  none
theorem hdL_heat : yL_heat.cls ≠ "java/lang/invoke/MethodHandle" ∧ yL_heat.cls ≠ "java/lang/invoke/VarHandle" ∧ (parseMethodDescriptor yL_heat.desc).map (fun d => d.parameters.length) = some 3 := by decide +kernel
set_option maxRecDepth 100000 in
set_option maxHeartbeats 4000000 in
theorem mL_heat (l : Launch) (dC : Nat → ClassId) (dI : Nat → Nat → Nat) (cyI cyC cyO cyJ : ClassId) (hl9 : l.stackTraces = false) (ad : Nat → Nat) (ob : Nat) (n0 : Nat) (n1 : Nat) (n2 : Nat) (n3 : Nat) (t0 : Nat) (t1 : Nat) (t2 : Nat) (t3 : Nat) (s0 : Nat) (aR : Nat) (ro : Nat → Nat) (r1 : Nat → Nat) (r2 : Nat → Nat) (r3 : Nat → Nat) (x0 : Nat) (x1 : Nat) (x2 : Nat) (x3 : Nat) (x4 : Nat) (oa : Nat) (n_ones : Nat → Int32) (n_twos : Nat → Int32) (n_settings : Nat → Int32) (n_tick : Int32) (n_energy : Int32) (n_valuesPut : Int32) (t_ones : Nat → Int32) (t_twos : Nat → Int32) (t_settings : Nat → Int32) (t_tick : Int32) (t_energy : Int32) (t_valuesPut : Int32) (s_ring : Nat → SV) (s_oldest : Int32) (s_count : Int32) (x_signs : Nat → Int32) (x_length : Int32) (x_position : Int32) (x_complete : Int32) (x_orders : Int32) (x_kinds : Nat → Int32) (x_numbers : Nat → Int32) (x_values : Nat → Int32) (o_out : Nat → Int64) (p1 : Int32) {r : Int32} {r_out : Nat → Int64} {r_n_ones : Nat → Int32} {r_n_twos : Nat → Int32} {r_s_ring : Nat → SV} {r_s_oldest : Int32} {r_s_count : Int32} (hf : fL_heat n_ones n_twos n_settings n_tick n_energy n_valuesPut s_ring s_oldest s_count o_out p1 = some (r, r_out, r_n_ones, r_n_twos, r_s_ring, r_s_oldest, r_s_count)) : MetH l yL_heat cL_heat 4 [(0, 9, 12, 15)] 8 123 1 6 [.ref ob, .int p1, .ref oa] (dC, dI) (tyL cyI cyC cyO cyJ) ((wAll cyI cyC cyO ob n0 n1 n2 n3 t0 t1 t2 t3 s0 aR ro r1 r2 r3 x0 x1 x2 x3 x4 n_ones n_twos n_settings n_tick n_energy n_valuesPut t_ones t_twos t_settings t_tick t_energy t_valuesPut s_ring s_oldest s_count x_signs x_length x_position x_complete x_orders x_kinds x_numbers x_values) ++ wO cyJ oa o_out) ((wAll cyI cyC cyO ob n0 n1 n2 n3 t0 t1 t2 t3 s0 aR ro r1 r2 r3 x0 x1 x2 x3 x4 r_n_ones r_n_twos n_settings n_tick n_energy n_valuesPut t_ones t_twos t_settings t_tick t_energy t_valuesPut r_s_ring r_s_oldest r_s_count x_signs x_length x_position x_complete x_orders x_kinds x_numbers x_values) ++ wO cyJ oa r_out) ad r := by
  refine metH_of (by decide) (Nat.le_of_ble_eq_true rfl) ?_
  intro p e s m below meth c ls hC hr hlk hex hP hK hD hE hN hl
  have hC : CallFix p m c cL_heat 4 s [.ref ob, .int p1, .ref oa].toArray wA RL := hC
  obtain ⟨hx, hb, hml, hown, hts⟩ := id hC
  have hS : va_S (k_A ((wAll cyI cyC cyO ob n0 n1 n2 n3 t0 t1 t2 t3 s0 aR ro r1 r2 r3 x0 x1 x2 x3 x4 n_ones n_twos n_settings n_tick n_energy n_valuesPut t_ones t_twos t_settings t_tick t_energy t_valuesPut s_ring s_oldest s_count x_signs x_length x_position x_complete x_orders x_kinds x_numbers x_values) ++ wO cyJ oa o_out)) s.heap s.heap [] := va_S.rf
  have hl : lv_has ls 4 [(0, .ref ob), (1, .int p1), (2, .ref oa)] := hl
  have h := hf
  unfold fL_heat at h
  have hK3 : va_K (dC, dI) vwCl (tyS cyI cyC cyO) s := hK.sub [0, 1, 2] rfl
  obtain ⟨k, z, c0, c1, c2, c3, c4, hc, h⟩ := k_b7_e h
  refine lv_aload_n hx hb dL_heat_0 rfl (lv_at hl 2 rfl) ?_
  refine lv_iconst (v := 0) hx hb dL_heat_1 (by decide) ?_
  refine lv_aload_n hx hb dL_heat_2 rfl (lv_at hl 0 rfl) ?_
  refine lv_iload_n hx hb dL_heat_3 rfl (lv_at hl 1 rfl) ?_
  refine g_callT_V (As := [.int p1]) (rest := [.int 0, .ref oa]) hC (mX4_heat l dC dI cyI cyC cyO hl9 ad ob n0 n1 n2 n3 t0 t1 t2 t3 s0 aR ro r1 r2 r3 x0 x1 x2 x3 x4 n_ones n_twos n_settings n_tick n_energy n_valuesPut t_ones t_twos t_settings t_tick t_energy t_valuesPut s_ring s_oldest s_count x_signs x_length x_position x_complete x_orders x_kinds x_numbers x_values p1 hc) q584 q585 q586 q71 q587 1 hdX4_heat ⟨Nat.le_of_ble_eq_true rfl, Nat.le_of_ble_eq_true rfl⟩ ⟨Nat.le_of_ble_eq_true rfl, Nat.le_of_ble_eq_true rfl⟩ rfl rfl hl.1 (Nat.le_of_ble_eq_true rfl) (hP.sub (ws' := (wAll cyI cyC cyO ob n0 n1 n2 n3 t0 t1 t2 t3 s0 aR ro r1 r2 r3 x0 x1 x2 x3 x4 n_ones n_twos n_settings n_tick n_energy n_valuesPut t_ones t_twos t_settings t_tick t_energy t_valuesPut s_ring s_oldest s_count x_signs x_length x_position x_complete x_orders x_kinds x_numbers x_values)) [0, 1, 2, 3, 4, 5, 6, 7, 8, 9, 10, 11, 12, 13, 14, 15, 16, 17, 18, 19, 20, 21, 22, 23, 24, 25, 26, 27, 28, 29, 30, 31, 32, 33, 34, 35, 36, 37, 38, 39] rfl) hK3 (hD.sub (ws' := (wAll cyI cyC cyO ob n0 n1 n2 n3 t0 t1 t2 t3 s0 aR ro r1 r2 r3 x0 x1 x2 x3 x4 n_ones n_twos n_settings n_tick n_energy n_valuesPut t_ones t_twos t_settings t_tick t_energy t_valuesPut s_ring s_oldest s_count x_signs x_length x_position x_complete x_orders x_kinds x_numbers x_values)) [0, 1, 2, 3, 4, 5, 6, 7, 8, 9, 10, 11, 12, 13, 14, 15, 16, 17, 18, 19, 20, 21, 22, 23, 24, 25, 26, 27, 28, 29, 30, 31, 32, 33, 34, 35, 36, 37, 38, 39] (by decide) rfl) (va_recv hK3 hP (ci := 3) (q0 := 0) rfl rfl) hS dL_heat_4 hE (fun E ce q9 H locs hX hPn hk hS hce hcv hcl => ?_) (fun H locs hk0 hPn hk hS => ?_)
  · have hP : va_P (dC, dI) vwCl ((wAll cyI cyC cyO ob n0 n1 n2 n3 t0 t1 t2 t3 s0 aR ro r1 r2 r3 x0 x1 x2 x3 x4 c0 c1 n_settings n_tick n_energy n_valuesPut t_ones t_twos t_settings t_tick t_energy t_valuesPut c2 c3 c4 x_signs x_length x_position x_complete x_orders x_kinds x_numbers x_values) ++ wO cyJ oa o_out) H := k_repl hP hD [0, 1, 2, 3, 4, 5, 6, 7, 8, 9, 10, 11, 12, 13, 14, 15, 16, 17, 18, 19, 20, 21, 22, 23, 24, 25, 26, 27, 28, 29, 30, 31, 32, 33, 34, 35, 36, 37, 38, 39] rfl hk hPn [.inr 0, .inr 1, .inr 2, .inr 3, .inr 4, .inr 5, .inr 6, .inr 7, .inr 8, .inr 9, .inr 10, .inr 11, .inr 12, .inr 13, .inr 14, .inr 15, .inr 16, .inr 17, .inr 18, .inr 19, .inr 20, .inr 21, .inr 22, .inr 23, .inr 24, .inr 25, .inr 26, .inr 27, .inr 28, .inr 29, .inr 30, .inr 31, .inr 32, .inr 33, .inr 34, .inr 35, .inr 36, .inr 37, .inr 38, .inr 39, .inl 40] rfl (by decide)
    rcases hX with ⟨hk9, hE9⟩ | ⟨hk9, hE9⟩ | ⟨hk9, hE9⟩
    · subst hk9; subst hE9
      have h := k_if_f h (by decide)
      have h := k_if_f h (by decide)
      cases h
    · subst hk9; subst hE9
      have h := k_if_f h (by decide)
      have h := k_if_t h rfl
      obtain ⟨e0, e1, e2, e3, e4, e5, e6⟩ := k_t7 h
      refine vx_catch hown [] ⟨0, 9, 12, 15⟩ [] (by rw [hex]; rfl) (fun z hz => nomatch hz) rfl (by decide) (hts _ q463) (k_castA hE) hce hcv hcl ?_
      refine lv_astore_n (lv' := [(3, .ref q9), (0, .ref ob), (1, .int p1), (2, .ref oa)]) hx hb dL_heat_12 rfl hl (by decide) rfl (fun ls hl => ?_)
      refine lv_iconst (v := 1) hx hb dL_heat_13 (by decide) ?_
      exact g_retH hx hb hr hlk (Nat.le_of_ble_eq_true rfl) (Nat.le_of_ble_eq_true rfl) hS e0 (by rw [← e1, ← e2, ← e3, ← e4, ← e5, ← e6]; exact hP) dL_heat_14
    · subst hk9; subst hE9
      have h := k_if_f h (by decide)
      have h := k_if_f h (by decide)
      cases h
  · have hP : va_P (dC, dI) vwCl ((wAll cyI cyC cyO ob n0 n1 n2 n3 t0 t1 t2 t3 s0 aR ro r1 r2 r3 x0 x1 x2 x3 x4 c0 c1 n_settings n_tick n_energy n_valuesPut t_ones t_twos t_settings t_tick t_energy t_valuesPut c2 c3 c4 x_signs x_length x_position x_complete x_orders x_kinds x_numbers x_values) ++ wO cyJ oa o_out) H := k_repl hP hD [0, 1, 2, 3, 4, 5, 6, 7, 8, 9, 10, 11, 12, 13, 14, 15, 16, 17, 18, 19, 20, 21, 22, 23, 24, 25, 26, 27, 28, 29, 30, 31, 32, 33, 34, 35, 36, 37, 38, 39] rfl hk hPn [.inr 0, .inr 1, .inr 2, .inr 3, .inr 4, .inr 5, .inr 6, .inr 7, .inr 8, .inr 9, .inr 10, .inr 11, .inr 12, .inr 13, .inr 14, .inr 15, .inr 16, .inr 17, .inr 18, .inr 19, .inr 20, .inr 21, .inr 22, .inr 23, .inr 24, .inr 25, .inr 26, .inr 27, .inr 28, .inr 29, .inr 30, .inr 31, .inr 32, .inr 33, .inr 34, .inr 35, .inr 36, .inr 37, .inr 38, .inr 39, .inl 40] rfl (by decide)
    have hD : va_D (k_A ((wAll cyI cyC cyO ob n0 n1 n2 n3 t0 t1 t2 t3 s0 aR ro r1 r2 r3 x0 x1 x2 x3 x4 n_ones n_twos n_settings n_tick n_energy n_valuesPut t_ones t_twos t_settings t_tick t_energy t_valuesPut s_ring s_oldest s_count x_signs x_length x_position x_complete x_orders x_kinds x_numbers x_values) ++ wO cyJ oa o_out)) ((wAll cyI cyC cyO ob n0 n1 n2 n3 t0 t1 t2 t3 s0 aR ro r1 r2 r3 x0 x1 x2 x3 x4 c0 c1 n_settings n_tick n_energy n_valuesPut t_ones t_twos t_settings t_tick t_energy t_valuesPut c2 c3 c4 x_signs x_length x_position x_complete x_orders x_kinds x_numbers x_values) ++ wO cyJ oa o_out) := k_Dm hD rfl
    have h := k_if_t h hk0.symm
    obtain ⟨e0, e1, e2, e3, e4, e5, e6⟩ := k_t7 h
    refine lv_i2l hx hb dL_heat_7 rfl ?_
    refine va_last hx hb hK hP hD hS 40 3 rfl rfl (by unfold vp_in; decide) dL_heat_8 (fun H locs hP hD hS => ?_)
    have hP : va_P (dC, dI) vwCl ((wAll cyI cyC cyO ob n0 n1 n2 n3 t0 t1 t2 t3 s0 aR ro r1 r2 r3 x0 x1 x2 x3 x4 c0 c1 n_settings n_tick n_energy n_valuesPut t_ones t_twos t_settings t_tick t_energy t_valuesPut c2 c3 c4 x_signs x_length x_position x_complete x_orders x_kinds x_numbers x_values) ++ wO cyJ oa (vp_updL o_out (0 : Int32).toNatClampNeg z.toInt64)) H := hP
    refine lv_goto (tgt := 15) hx hb dL_heat_9 (by decide) ?_
    refine lv_iconst (v := 0) hx hb dL_heat_15 (by decide) ?_
    exact g_retH hx hb hr hlk (Nat.le_of_ble_eq_true rfl) (Nat.le_of_ble_eq_true rfl) hS e0 (by rw [← e1, ← e2, ← e3, ← e4, ← e5, ← e6]; exact hP) dL_heat_16
def fL_pass (n_ones : Nat → Int32) (n_twos : Nat → Int32) (n_settings : Nat → Int32) (n_tick : Int32) (n_energy : Int32) (n_valuesPut : Int32) (s_ring : Nat → SV) (s_oldest : Int32) (s_count : Int32) (o_out : Nat → Int64) (p1 : Int32) : Option (Int32 × (Nat → Int64) × (Int32) × (Nat → SV) × (Int32) × (Int32)) :=
  k_b6 (fX4_pass n_ones n_twos n_settings n_tick n_energy n_valuesPut s_ring s_oldest s_count p1) fun (k : Nat) (z : Int32) (c0 : Int32) (c1 : Nat → SV) (c2 : Int32) (c3 : Int32) =>
  k_if (k = 0) (some (0, vp_updL o_out (0 : Int32).toNatClampNeg z.toInt64, c0, c1, c2, c3)) <|
  k_if (k = 2) (some (1, o_out, c0, c1, c2, c3)) <|
  k_if (k = 3) (some (2, o_out, c0, c1, c2, c3)) <|
  none
theorem hdL_pass : yL_pass.cls ≠ "java/lang/invoke/MethodHandle" ∧ yL_pass.cls ≠ "java/lang/invoke/VarHandle" ∧ (parseMethodDescriptor yL_pass.desc).map (fun d => d.parameters.length) = some 3 := by decide +kernel
set_option maxRecDepth 100000 in
set_option maxHeartbeats 4000000 in
theorem mL_pass (l : Launch) (dC : Nat → ClassId) (dI : Nat → Nat → Nat) (cyI cyC cyO cyJ : ClassId) (hl9 : l.stackTraces = false) (ad : Nat → Nat) (ob : Nat) (n0 : Nat) (n1 : Nat) (n2 : Nat) (n3 : Nat) (t0 : Nat) (t1 : Nat) (t2 : Nat) (t3 : Nat) (s0 : Nat) (aR : Nat) (ro : Nat → Nat) (r1 : Nat → Nat) (r2 : Nat → Nat) (r3 : Nat → Nat) (x0 : Nat) (x1 : Nat) (x2 : Nat) (x3 : Nat) (x4 : Nat) (oa : Nat) (n_ones : Nat → Int32) (n_twos : Nat → Int32) (n_settings : Nat → Int32) (n_tick : Int32) (n_energy : Int32) (n_valuesPut : Int32) (t_ones : Nat → Int32) (t_twos : Nat → Int32) (t_settings : Nat → Int32) (t_tick : Int32) (t_energy : Int32) (t_valuesPut : Int32) (s_ring : Nat → SV) (s_oldest : Int32) (s_count : Int32) (x_signs : Nat → Int32) (x_length : Int32) (x_position : Int32) (x_complete : Int32) (x_orders : Int32) (x_kinds : Nat → Int32) (x_numbers : Nat → Int32) (x_values : Nat → Int32) (o_out : Nat → Int64) (p1 : Int32) {r : Int32} {r_out : Nat → Int64} {r_n_tick : Int32} {r_s_ring : Nat → SV} {r_s_oldest : Int32} {r_s_count : Int32} (hf : fL_pass n_ones n_twos n_settings n_tick n_energy n_valuesPut s_ring s_oldest s_count o_out p1 = some (r, r_out, r_n_tick, r_s_ring, r_s_oldest, r_s_count)) : MetH l yL_pass cL_pass 4 [(0, 9, 12, 15), (0, 9, 15, 17)] 8 123 2 12 [.ref ob, .int p1, .ref oa] (dC, dI) (tyL cyI cyC cyO cyJ) ((wAll cyI cyC cyO ob n0 n1 n2 n3 t0 t1 t2 t3 s0 aR ro r1 r2 r3 x0 x1 x2 x3 x4 n_ones n_twos n_settings n_tick n_energy n_valuesPut t_ones t_twos t_settings t_tick t_energy t_valuesPut s_ring s_oldest s_count x_signs x_length x_position x_complete x_orders x_kinds x_numbers x_values) ++ wO cyJ oa o_out) ((wAll cyI cyC cyO ob n0 n1 n2 n3 t0 t1 t2 t3 s0 aR ro r1 r2 r3 x0 x1 x2 x3 x4 n_ones n_twos n_settings r_n_tick n_energy n_valuesPut t_ones t_twos t_settings t_tick t_energy t_valuesPut r_s_ring r_s_oldest r_s_count x_signs x_length x_position x_complete x_orders x_kinds x_numbers x_values) ++ wO cyJ oa r_out) ad r := by
  refine metH_of (by decide) (Nat.le_of_ble_eq_true rfl) ?_
  intro p e s m below meth c ls hC hr hlk hex hP hK hD hE hN hl
  have hC : CallFix p m c cL_pass 4 s [.ref ob, .int p1, .ref oa].toArray wA RL := hC
  obtain ⟨hx, hb, hml, hown, hts⟩ := id hC
  have hS : va_S (k_A ((wAll cyI cyC cyO ob n0 n1 n2 n3 t0 t1 t2 t3 s0 aR ro r1 r2 r3 x0 x1 x2 x3 x4 n_ones n_twos n_settings n_tick n_energy n_valuesPut t_ones t_twos t_settings t_tick t_energy t_valuesPut s_ring s_oldest s_count x_signs x_length x_position x_complete x_orders x_kinds x_numbers x_values) ++ wO cyJ oa o_out)) s.heap s.heap [] := va_S.rf
  have hl : lv_has ls 4 [(0, .ref ob), (1, .int p1), (2, .ref oa)] := hl
  have h := hf
  unfold fL_pass at h
  have hK3 : va_K (dC, dI) vwCl (tyS cyI cyC cyO) s := hK.sub [0, 1, 2] rfl
  obtain ⟨k, z, c0, c1, c2, c3, hc, h⟩ := k_b6_e h
  refine lv_aload_n hx hb dL_pass_0 rfl (lv_at hl 2 rfl) ?_
  refine lv_iconst (v := 0) hx hb dL_pass_1 (by decide) ?_
  refine lv_aload_n hx hb dL_pass_2 rfl (lv_at hl 0 rfl) ?_
  refine lv_iload_n hx hb dL_pass_3 rfl (lv_at hl 1 rfl) ?_
  refine g_callT_V (As := [.int p1]) (rest := [.int 0, .ref oa]) hC (mX4_pass l dC dI cyI cyC cyO hl9 ad ob n0 n1 n2 n3 t0 t1 t2 t3 s0 aR ro r1 r2 r3 x0 x1 x2 x3 x4 n_ones n_twos n_settings n_tick n_energy n_valuesPut t_ones t_twos t_settings t_tick t_energy t_valuesPut s_ring s_oldest s_count x_signs x_length x_position x_complete x_orders x_kinds x_numbers x_values p1 hc) q591 q592 q593 q71 q594 1 hdX4_pass ⟨Nat.le_of_ble_eq_true rfl, Nat.le_of_ble_eq_true rfl⟩ ⟨Nat.le_of_ble_eq_true rfl, Nat.le_of_ble_eq_true rfl⟩ rfl rfl hl.1 (Nat.le_of_ble_eq_true rfl) (hP.sub (ws' := (wAll cyI cyC cyO ob n0 n1 n2 n3 t0 t1 t2 t3 s0 aR ro r1 r2 r3 x0 x1 x2 x3 x4 n_ones n_twos n_settings n_tick n_energy n_valuesPut t_ones t_twos t_settings t_tick t_energy t_valuesPut s_ring s_oldest s_count x_signs x_length x_position x_complete x_orders x_kinds x_numbers x_values)) [0, 1, 2, 3, 4, 5, 6, 7, 8, 9, 10, 11, 12, 13, 14, 15, 16, 17, 18, 19, 20, 21, 22, 23, 24, 25, 26, 27, 28, 29, 30, 31, 32, 33, 34, 35, 36, 37, 38, 39] rfl) hK3 (hD.sub (ws' := (wAll cyI cyC cyO ob n0 n1 n2 n3 t0 t1 t2 t3 s0 aR ro r1 r2 r3 x0 x1 x2 x3 x4 n_ones n_twos n_settings n_tick n_energy n_valuesPut t_ones t_twos t_settings t_tick t_energy t_valuesPut s_ring s_oldest s_count x_signs x_length x_position x_complete x_orders x_kinds x_numbers x_values)) [0, 1, 2, 3, 4, 5, 6, 7, 8, 9, 10, 11, 12, 13, 14, 15, 16, 17, 18, 19, 20, 21, 22, 23, 24, 25, 26, 27, 28, 29, 30, 31, 32, 33, 34, 35, 36, 37, 38, 39] (by decide) rfl) (va_recv hK3 hP (ci := 3) (q0 := 0) rfl rfl) hS dL_pass_4 hE (fun E ce q9 H locs hX hPn hk hS hce hcv hcl => ?_) (fun H locs hk0 hPn hk hS => ?_)
  · have hP : va_P (dC, dI) vwCl ((wAll cyI cyC cyO ob n0 n1 n2 n3 t0 t1 t2 t3 s0 aR ro r1 r2 r3 x0 x1 x2 x3 x4 n_ones n_twos n_settings c0 n_energy n_valuesPut t_ones t_twos t_settings t_tick t_energy t_valuesPut c1 c2 c3 x_signs x_length x_position x_complete x_orders x_kinds x_numbers x_values) ++ wO cyJ oa o_out) H := k_repl hP hD [0, 1, 2, 3, 4, 5, 6, 7, 8, 9, 10, 11, 12, 13, 14, 15, 16, 17, 18, 19, 20, 21, 22, 23, 24, 25, 26, 27, 28, 29, 30, 31, 32, 33, 34, 35, 36, 37, 38, 39] rfl hk hPn [.inr 0, .inr 1, .inr 2, .inr 3, .inr 4, .inr 5, .inr 6, .inr 7, .inr 8, .inr 9, .inr 10, .inr 11, .inr 12, .inr 13, .inr 14, .inr 15, .inr 16, .inr 17, .inr 18, .inr 19, .inr 20, .inr 21, .inr 22, .inr 23, .inr 24, .inr 25, .inr 26, .inr 27, .inr 28, .inr 29, .inr 30, .inr 31, .inr 32, .inr 33, .inr 34, .inr 35, .inr 36, .inr 37, .inr 38, .inr 39, .inl 40] rfl (by decide)
    rcases hX with ⟨hk9, hE9⟩ | ⟨hk9, hE9⟩ | ⟨hk9, hE9⟩
    · subst hk9; subst hE9
      have h := k_if_f h (by decide)
      have h := k_if_f h (by decide)
      have h := k_if_f h (by decide)
      cases h
    · subst hk9; subst hE9
      have h := k_if_f h (by decide)
      have h := k_if_t h rfl
      obtain ⟨e0, e1, e2, e3, e4, e5⟩ := k_t6 h
      refine vx_catch hown [] ⟨0, 9, 12, 15⟩ [⟨0, 9, 15, 17⟩] (by rw [hex]; rfl) (fun z hz => nomatch hz) rfl (by decide) (hts _ q463) (k_castA hE) hce hcv hcl ?_
      refine lv_astore_n (lv' := [(3, .ref q9), (0, .ref ob), (1, .int p1), (2, .ref oa)]) hx hb dL_pass_12 rfl hl (by decide) rfl (fun ls hl => ?_)
      refine lv_iconst (v := 1) hx hb dL_pass_13 (by decide) ?_
      exact g_retH hx hb hr hlk (Nat.le_of_ble_eq_true rfl) (Nat.le_of_ble_eq_true rfl) hS e0 (by rw [← e1, ← e2, ← e3, ← e4, ← e5]; exact hP) dL_pass_14
    · subst hk9; subst hE9
      have h := k_if_f h (by decide)
      have h := k_if_f h (by decide)
      have h := k_if_t h rfl
      obtain ⟨e0, e1, e2, e3, e4, e5⟩ := k_t6 h
      refine vx_catch hown [⟨0, 9, 12, 15⟩] ⟨0, 9, 15, 17⟩ [] (by rw [hex]; rfl) (fun z hz => by
        simp only [List.mem_cons, List.not_mem_nil, or_false] at hz
        rcases hz with rfl
        · exact Or.inr ⟨by decide, "java/lang/IllegalArgumentException", hts _ q463, hN.2.2⟩) rfl (by decide) (hts _ q464) (k_castS hE) hce hcv hcl ?_
      refine lv_astore_n (lv' := [(3, .ref q9), (0, .ref ob), (1, .int p1), (2, .ref oa)]) hx hb dL_pass_15 rfl hl (by decide) rfl (fun ls hl => ?_)
      refine lv_iconst (v := 2) hx hb dL_pass_16 (by decide) ?_
      exact g_retH hx hb hr hlk (Nat.le_of_ble_eq_true rfl) (Nat.le_of_ble_eq_true rfl) hS e0 (by rw [← e1, ← e2, ← e3, ← e4, ← e5]; exact hP) dL_pass_17
  · have hP : va_P (dC, dI) vwCl ((wAll cyI cyC cyO ob n0 n1 n2 n3 t0 t1 t2 t3 s0 aR ro r1 r2 r3 x0 x1 x2 x3 x4 n_ones n_twos n_settings c0 n_energy n_valuesPut t_ones t_twos t_settings t_tick t_energy t_valuesPut c1 c2 c3 x_signs x_length x_position x_complete x_orders x_kinds x_numbers x_values) ++ wO cyJ oa o_out) H := k_repl hP hD [0, 1, 2, 3, 4, 5, 6, 7, 8, 9, 10, 11, 12, 13, 14, 15, 16, 17, 18, 19, 20, 21, 22, 23, 24, 25, 26, 27, 28, 29, 30, 31, 32, 33, 34, 35, 36, 37, 38, 39] rfl hk hPn [.inr 0, .inr 1, .inr 2, .inr 3, .inr 4, .inr 5, .inr 6, .inr 7, .inr 8, .inr 9, .inr 10, .inr 11, .inr 12, .inr 13, .inr 14, .inr 15, .inr 16, .inr 17, .inr 18, .inr 19, .inr 20, .inr 21, .inr 22, .inr 23, .inr 24, .inr 25, .inr 26, .inr 27, .inr 28, .inr 29, .inr 30, .inr 31, .inr 32, .inr 33, .inr 34, .inr 35, .inr 36, .inr 37, .inr 38, .inr 39, .inl 40] rfl (by decide)
    have hD : va_D (k_A ((wAll cyI cyC cyO ob n0 n1 n2 n3 t0 t1 t2 t3 s0 aR ro r1 r2 r3 x0 x1 x2 x3 x4 n_ones n_twos n_settings n_tick n_energy n_valuesPut t_ones t_twos t_settings t_tick t_energy t_valuesPut s_ring s_oldest s_count x_signs x_length x_position x_complete x_orders x_kinds x_numbers x_values) ++ wO cyJ oa o_out)) ((wAll cyI cyC cyO ob n0 n1 n2 n3 t0 t1 t2 t3 s0 aR ro r1 r2 r3 x0 x1 x2 x3 x4 n_ones n_twos n_settings c0 n_energy n_valuesPut t_ones t_twos t_settings t_tick t_energy t_valuesPut c1 c2 c3 x_signs x_length x_position x_complete x_orders x_kinds x_numbers x_values) ++ wO cyJ oa o_out) := k_Dm hD rfl
    have h := k_if_t h hk0.symm
    obtain ⟨e0, e1, e2, e3, e4, e5⟩ := k_t6 h
    refine lv_i2l hx hb dL_pass_7 rfl ?_
    refine va_last hx hb hK hP hD hS 40 3 rfl rfl (by unfold vp_in; decide) dL_pass_8 (fun H locs hP hD hS => ?_)
    have hP : va_P (dC, dI) vwCl ((wAll cyI cyC cyO ob n0 n1 n2 n3 t0 t1 t2 t3 s0 aR ro r1 r2 r3 x0 x1 x2 x3 x4 n_ones n_twos n_settings c0 n_energy n_valuesPut t_ones t_twos t_settings t_tick t_energy t_valuesPut c1 c2 c3 x_signs x_length x_position x_complete x_orders x_kinds x_numbers x_values) ++ wO cyJ oa (vp_updL o_out (0 : Int32).toNatClampNeg z.toInt64)) H := hP
    refine lv_goto (tgt := 18) hx hb dL_pass_9 (by decide) ?_
    refine lv_iconst (v := 0) hx hb dL_pass_18 (by decide) ?_
    exact g_retH hx hb hr hlk (Nat.le_of_ble_eq_true rfl) (Nat.le_of_ble_eq_true rfl) hS e0 (by rw [← e1, ← e2, ← e3, ← e4, ← e5]; exact hP) dL_pass_19
def fL_set (n_ones : Nat → Int32) (n_twos : Nat → Int32) (n_settings : Nat → Int32) (n_tick : Int32) (n_energy : Int32) (n_valuesPut : Int32) (s_ring : Nat → SV) (s_oldest : Int32) (s_count : Int32) (o_out : Nat → Int64) (p1 : Int32) (p2 : Int32) : Option (Int32 × (Nat → Int64) × (Nat → Int32) × (Nat → SV) × (Int32) × (Int32)) :=
  k_b6 (fX4_set n_ones n_twos n_settings n_tick n_energy n_valuesPut s_ring s_oldest s_count p1 p2) fun (k : Nat) (z : Int32) (c0 : Nat → Int32) (c1 : Nat → SV) (c2 : Int32) (c3 : Int32) =>
  k_if (k = 0) (some (0, vp_updL o_out (0 : Int32).toNatClampNeg z.toInt64, c0, c1, c2, c3)) <|
  k_if (k = 1) (some (1, o_out, c0, c1, c2, c3)) <|
  k_if (k = 2) (some (2, o_out, c0, c1, c2, c3)) <|
  none
theorem hdL_set : yL_set.cls ≠ "java/lang/invoke/MethodHandle" ∧ yL_set.cls ≠ "java/lang/invoke/VarHandle" ∧ (parseMethodDescriptor yL_set.desc).map (fun d => d.parameters.length) = some 4 := by decide +kernel
set_option maxRecDepth 100000 in
set_option maxHeartbeats 4000000 in
theorem mL_set (l : Launch) (dC : Nat → ClassId) (dI : Nat → Nat → Nat) (cyI cyC cyO cyJ : ClassId) (hl9 : l.stackTraces = false) (ad : Nat → Nat) (ob : Nat) (n0 : Nat) (n1 : Nat) (n2 : Nat) (n3 : Nat) (t0 : Nat) (t1 : Nat) (t2 : Nat) (t3 : Nat) (s0 : Nat) (aR : Nat) (ro : Nat → Nat) (r1 : Nat → Nat) (r2 : Nat → Nat) (r3 : Nat → Nat) (x0 : Nat) (x1 : Nat) (x2 : Nat) (x3 : Nat) (x4 : Nat) (oa : Nat) (n_ones : Nat → Int32) (n_twos : Nat → Int32) (n_settings : Nat → Int32) (n_tick : Int32) (n_energy : Int32) (n_valuesPut : Int32) (t_ones : Nat → Int32) (t_twos : Nat → Int32) (t_settings : Nat → Int32) (t_tick : Int32) (t_energy : Int32) (t_valuesPut : Int32) (s_ring : Nat → SV) (s_oldest : Int32) (s_count : Int32) (x_signs : Nat → Int32) (x_length : Int32) (x_position : Int32) (x_complete : Int32) (x_orders : Int32) (x_kinds : Nat → Int32) (x_numbers : Nat → Int32) (x_values : Nat → Int32) (o_out : Nat → Int64) (p1 : Int32) (p2 : Int32) {r : Int32} {r_out : Nat → Int64} {r_n_settings : Nat → Int32} {r_s_ring : Nat → SV} {r_s_oldest : Int32} {r_s_count : Int32} (hf : fL_set n_ones n_twos n_settings n_tick n_energy n_valuesPut s_ring s_oldest s_count o_out p1 p2 = some (r, r_out, r_n_settings, r_s_ring, r_s_oldest, r_s_count)) : MetH l yL_set cL_set 5 [(0, 10, 13, 13), (0, 10, 17, 15)] 8 125 2 12 [.ref ob, .int p1, .int p2, .ref oa] (dC, dI) (tyL cyI cyC cyO cyJ) ((wAll cyI cyC cyO ob n0 n1 n2 n3 t0 t1 t2 t3 s0 aR ro r1 r2 r3 x0 x1 x2 x3 x4 n_ones n_twos n_settings n_tick n_energy n_valuesPut t_ones t_twos t_settings t_tick t_energy t_valuesPut s_ring s_oldest s_count x_signs x_length x_position x_complete x_orders x_kinds x_numbers x_values) ++ wO cyJ oa o_out) ((wAll cyI cyC cyO ob n0 n1 n2 n3 t0 t1 t2 t3 s0 aR ro r1 r2 r3 x0 x1 x2 x3 x4 n_ones n_twos r_n_settings n_tick n_energy n_valuesPut t_ones t_twos t_settings t_tick t_energy t_valuesPut r_s_ring r_s_oldest r_s_count x_signs x_length x_position x_complete x_orders x_kinds x_numbers x_values) ++ wO cyJ oa r_out) ad r := by
  refine metH_of (by decide) (Nat.le_of_ble_eq_true rfl) ?_
  intro p e s m below meth c ls hC hr hlk hex hP hK hD hE hN hl
  have hC : CallFix p m c cL_set 5 s [.ref ob, .int p1, .int p2, .ref oa].toArray wA RL := hC
  obtain ⟨hx, hb, hml, hown, hts⟩ := id hC
  have hS : va_S (k_A ((wAll cyI cyC cyO ob n0 n1 n2 n3 t0 t1 t2 t3 s0 aR ro r1 r2 r3 x0 x1 x2 x3 x4 n_ones n_twos n_settings n_tick n_energy n_valuesPut t_ones t_twos t_settings t_tick t_energy t_valuesPut s_ring s_oldest s_count x_signs x_length x_position x_complete x_orders x_kinds x_numbers x_values) ++ wO cyJ oa o_out)) s.heap s.heap [] := va_S.rf
  have hl : lv_has ls 5 [(0, .ref ob), (1, .int p1), (2, .int p2), (3, .ref oa)] := hl
  have h := hf
  unfold fL_set at h
  have hK3 : va_K (dC, dI) vwCl (tyS cyI cyC cyO) s := hK.sub [0, 1, 2] rfl
  obtain ⟨k, z, c0, c1, c2, c3, hc, h⟩ := k_b6_e h
  refine lv_aload_n hx hb dL_set_0 rfl (lv_at hl 3 rfl) ?_
  refine lv_iconst (v := 0) hx hb dL_set_1 (by decide) ?_
  refine lv_aload_n hx hb dL_set_2 rfl (lv_at hl 0 rfl) ?_
  refine lv_iload_n hx hb dL_set_3 rfl (lv_at hl 1 rfl) ?_
  refine lv_iload_n hx hb dL_set_4 rfl (lv_at hl 2 rfl) ?_
  refine g_callT_V (As := [.int p1, .int p2]) (rest := [.int 0, .ref oa]) hC (mX4_set l dC dI cyI cyC cyO hl9 ad ob n0 n1 n2 n3 t0 t1 t2 t3 s0 aR ro r1 r2 r3 x0 x1 x2 x3 x4 n_ones n_twos n_settings n_tick n_energy n_valuesPut t_ones t_twos t_settings t_tick t_energy t_valuesPut s_ring s_oldest s_count x_signs x_length x_position x_complete x_orders x_kinds x_numbers x_values p1 p2 hc) q598 q599 q600 q71 q601 2 hdX4_set ⟨Nat.le_of_ble_eq_true rfl, Nat.le_of_ble_eq_true rfl⟩ ⟨Nat.le_of_ble_eq_true rfl, Nat.le_of_ble_eq_true rfl⟩ rfl rfl hl.1 (Nat.le_of_ble_eq_true rfl) (hP.sub (ws' := (wAll cyI cyC cyO ob n0 n1 n2 n3 t0 t1 t2 t3 s0 aR ro r1 r2 r3 x0 x1 x2 x3 x4 n_ones n_twos n_settings n_tick n_energy n_valuesPut t_ones t_twos t_settings t_tick t_energy t_valuesPut s_ring s_oldest s_count x_signs x_length x_position x_complete x_orders x_kinds x_numbers x_values)) [0, 1, 2, 3, 4, 5, 6, 7, 8, 9, 10, 11, 12, 13, 14, 15, 16, 17, 18, 19, 20, 21, 22, 23, 24, 25, 26, 27, 28, 29, 30, 31, 32, 33, 34, 35, 36, 37, 38, 39] rfl) hK3 (hD.sub (ws' := (wAll cyI cyC cyO ob n0 n1 n2 n3 t0 t1 t2 t3 s0 aR ro r1 r2 r3 x0 x1 x2 x3 x4 n_ones n_twos n_settings n_tick n_energy n_valuesPut t_ones t_twos t_settings t_tick t_energy t_valuesPut s_ring s_oldest s_count x_signs x_length x_position x_complete x_orders x_kinds x_numbers x_values)) [0, 1, 2, 3, 4, 5, 6, 7, 8, 9, 10, 11, 12, 13, 14, 15, 16, 17, 18, 19, 20, 21, 22, 23, 24, 25, 26, 27, 28, 29, 30, 31, 32, 33, 34, 35, 36, 37, 38, 39] (by decide) rfl) (va_recv hK3 hP (ci := 3) (q0 := 0) rfl rfl) hS dL_set_5 hE (fun E ce q9 H locs hX hPn hk hS hce hcv hcl => ?_) (fun H locs hk0 hPn hk hS => ?_)
  · have hP : va_P (dC, dI) vwCl ((wAll cyI cyC cyO ob n0 n1 n2 n3 t0 t1 t2 t3 s0 aR ro r1 r2 r3 x0 x1 x2 x3 x4 n_ones n_twos c0 n_tick n_energy n_valuesPut t_ones t_twos t_settings t_tick t_energy t_valuesPut c1 c2 c3 x_signs x_length x_position x_complete x_orders x_kinds x_numbers x_values) ++ wO cyJ oa o_out) H := k_repl hP hD [0, 1, 2, 3, 4, 5, 6, 7, 8, 9, 10, 11, 12, 13, 14, 15, 16, 17, 18, 19, 20, 21, 22, 23, 24, 25, 26, 27, 28, 29, 30, 31, 32, 33, 34, 35, 36, 37, 38, 39] rfl hk hPn [.inr 0, .inr 1, .inr 2, .inr 3, .inr 4, .inr 5, .inr 6, .inr 7, .inr 8, .inr 9, .inr 10, .inr 11, .inr 12, .inr 13, .inr 14, .inr 15, .inr 16, .inr 17, .inr 18, .inr 19, .inr 20, .inr 21, .inr 22, .inr 23, .inr 24, .inr 25, .inr 26, .inr 27, .inr 28, .inr 29, .inr 30, .inr 31, .inr 32, .inr 33, .inr 34, .inr 35, .inr 36, .inr 37, .inr 38, .inr 39, .inl 40] rfl (by decide)
    rcases hX with ⟨hk9, hE9⟩ | ⟨hk9, hE9⟩ | ⟨hk9, hE9⟩
    · subst hk9; subst hE9
      have h := k_if_f h (by decide)
      have h := k_if_t h rfl
      obtain ⟨e0, e1, e2, e3, e4, e5⟩ := k_t6 h
      refine vx_catch hown [] ⟨0, 10, 13, 13⟩ [⟨0, 10, 17, 15⟩] (by rw [hex]; rfl) (fun z hz => nomatch hz) rfl (by decide) (hts _ q462) (k_castI hE) hce hcv hcl ?_
      refine lv_astore (lv' := [(4, .ref q9), (0, .ref ob), (1, .int p1), (2, .int p2), (3, .ref oa)]) hx hb dL_set_13 hl (by decide) rfl (fun ls hl => ?_)
      refine lv_iconst (v := 1) hx hb dL_set_15 (by decide) ?_
      exact g_retH hx hb hr hlk (Nat.le_of_ble_eq_true rfl) (Nat.le_of_ble_eq_true rfl) hS e0 (by rw [← e1, ← e2, ← e3, ← e4, ← e5]; exact hP) dL_set_16
    · subst hk9; subst hE9
      have h := k_if_f h (by decide)
      have h := k_if_f h (by decide)
      have h := k_if_t h rfl
      obtain ⟨e0, e1, e2, e3, e4, e5⟩ := k_t6 h
      refine vx_catch hown [⟨0, 10, 13, 13⟩] ⟨0, 10, 17, 15⟩ [] (by rw [hex]; rfl) (fun z hz => by
        simp only [List.mem_cons, List.not_mem_nil, or_false] at hz
        rcases hz with rfl
        · exact Or.inr ⟨by decide, "java/lang/IndexOutOfBoundsException", hts _ q462, hN.1⟩) rfl (by decide) (hts _ q463) (k_castA hE) hce hcv hcl ?_
      refine lv_astore (lv' := [(4, .ref q9), (0, .ref ob), (1, .int p1), (2, .int p2), (3, .ref oa)]) hx hb dL_set_17 hl (by decide) rfl (fun ls hl => ?_)
      refine lv_iconst (v := 2) hx hb dL_set_19 (by decide) ?_
      exact g_retH hx hb hr hlk (Nat.le_of_ble_eq_true rfl) (Nat.le_of_ble_eq_true rfl) hS e0 (by rw [← e1, ← e2, ← e3, ← e4, ← e5]; exact hP) dL_set_20
    · subst hk9; subst hE9
      have h := k_if_f h (by decide)
      have h := k_if_f h (by decide)
      have h := k_if_f h (by decide)
      cases h
  · have hP : va_P (dC, dI) vwCl ((wAll cyI cyC cyO ob n0 n1 n2 n3 t0 t1 t2 t3 s0 aR ro r1 r2 r3 x0 x1 x2 x3 x4 n_ones n_twos c0 n_tick n_energy n_valuesPut t_ones t_twos t_settings t_tick t_energy t_valuesPut c1 c2 c3 x_signs x_length x_position x_complete x_orders x_kinds x_numbers x_values) ++ wO cyJ oa o_out) H := k_repl hP hD [0, 1, 2, 3, 4, 5, 6, 7, 8, 9, 10, 11, 12, 13, 14, 15, 16, 17, 18, 19, 20, 21, 22, 23, 24, 25, 26, 27, 28, 29, 30, 31, 32, 33, 34, 35, 36, 37, 38, 39] rfl hk hPn [.inr 0, .inr 1, .inr 2, .inr 3, .inr 4, .inr 5, .inr 6, .inr 7, .inr 8, .inr 9, .inr 10, .inr 11, .inr 12, .inr 13, .inr 14, .inr 15, .inr 16, .inr 17, .inr 18, .inr 19, .inr 20, .inr 21, .inr 22, .inr 23, .inr 24, .inr 25, .inr 26, .inr 27, .inr 28, .inr 29, .inr 30, .inr 31, .inr 32, .inr 33, .inr 34, .inr 35, .inr 36, .inr 37, .inr 38, .inr 39, .inl 40] rfl (by decide)
    have hD : va_D (k_A ((wAll cyI cyC cyO ob n0 n1 n2 n3 t0 t1 t2 t3 s0 aR ro r1 r2 r3 x0 x1 x2 x3 x4 n_ones n_twos n_settings n_tick n_energy n_valuesPut t_ones t_twos t_settings t_tick t_energy t_valuesPut s_ring s_oldest s_count x_signs x_length x_position x_complete x_orders x_kinds x_numbers x_values) ++ wO cyJ oa o_out)) ((wAll cyI cyC cyO ob n0 n1 n2 n3 t0 t1 t2 t3 s0 aR ro r1 r2 r3 x0 x1 x2 x3 x4 n_ones n_twos c0 n_tick n_energy n_valuesPut t_ones t_twos t_settings t_tick t_energy t_valuesPut c1 c2 c3 x_signs x_length x_position x_complete x_orders x_kinds x_numbers x_values) ++ wO cyJ oa o_out) := k_Dm hD rfl
    have h := k_if_t h hk0.symm
    obtain ⟨e0, e1, e2, e3, e4, e5⟩ := k_t6 h
    refine lv_i2l hx hb dL_set_8 rfl ?_
    refine va_last hx hb hK hP hD hS 40 3 rfl rfl (by unfold vp_in; decide) dL_set_9 (fun H locs hP hD hS => ?_)
    have hP : va_P (dC, dI) vwCl ((wAll cyI cyC cyO ob n0 n1 n2 n3 t0 t1 t2 t3 s0 aR ro r1 r2 r3 x0 x1 x2 x3 x4 n_ones n_twos c0 n_tick n_energy n_valuesPut t_ones t_twos t_settings t_tick t_energy t_valuesPut c1 c2 c3 x_signs x_length x_position x_complete x_orders x_kinds x_numbers x_values) ++ wO cyJ oa (vp_updL o_out (0 : Int32).toNatClampNeg z.toInt64)) H := hP
    refine lv_goto (tgt := 21) hx hb dL_set_10 (by decide) ?_
    refine lv_iconst (v := 0) hx hb dL_set_21 (by decide) ?_
    exact g_retH hx hb hr hlk (Nat.le_of_ble_eq_true rfl) (Nat.le_of_ble_eq_true rfl) hS e0 (by rw [← e1, ← e2, ← e3, ← e4, ← e5]; exact hP) dL_set_22
def fL_append (x_signs : Nat → Int32) (x_length : Int32) (o_out : Nat → Int64) (p1 : Int32) : Option (Int32 × (Nat → Int64) × (Nat → Int32) × (Int32)) :=
  k_b4 (fX4_append x_signs x_length p1) fun (k : Nat) (z : Int32) (c0 : Nat → Int32) (c1 : Int32) =>
  k_if (k = 0) (some (0, vp_updL o_out (0 : Int32).toNatClampNeg z.toInt64, c0, c1)) <|
  k_if (k = 2) (some (1, o_out, c0, c1)) <|
  k_if (k = 3) (some (2, o_out, c0, c1)) <|
  none
theorem hdL_append : yL_append.cls ≠ "java/lang/invoke/MethodHandle" ∧ yL_append.cls ≠ "java/lang/invoke/VarHandle" ∧ (parseMethodDescriptor yL_append.desc).map (fun d => d.parameters.length) = some 3 := by decide +kernel
set_option maxRecDepth 100000 in
set_option maxHeartbeats 4000000 in
theorem mL_append (l : Launch) (dC : Nat → ClassId) (dI : Nat → Nat → Nat) (cyI cyC cyO cyJ : ClassId) (hl9 : l.stackTraces = false) (ad : Nat → Nat) (ob : Nat) (n0 : Nat) (n1 : Nat) (n2 : Nat) (n3 : Nat) (t0 : Nat) (t1 : Nat) (t2 : Nat) (t3 : Nat) (s0 : Nat) (aR : Nat) (ro : Nat → Nat) (r1 : Nat → Nat) (r2 : Nat → Nat) (r3 : Nat → Nat) (x0 : Nat) (x1 : Nat) (x2 : Nat) (x3 : Nat) (x4 : Nat) (oa : Nat) (n_ones : Nat → Int32) (n_twos : Nat → Int32) (n_settings : Nat → Int32) (n_tick : Int32) (n_energy : Int32) (n_valuesPut : Int32) (t_ones : Nat → Int32) (t_twos : Nat → Int32) (t_settings : Nat → Int32) (t_tick : Int32) (t_energy : Int32) (t_valuesPut : Int32) (s_ring : Nat → SV) (s_oldest : Int32) (s_count : Int32) (x_signs : Nat → Int32) (x_length : Int32) (x_position : Int32) (x_complete : Int32) (x_orders : Int32) (x_kinds : Nat → Int32) (x_numbers : Nat → Int32) (x_values : Nat → Int32) (o_out : Nat → Int64) (p1 : Int32) {r : Int32} {r_out : Nat → Int64} {r_x_signs : Nat → Int32} {r_x_length : Int32} (hf : fL_append x_signs x_length o_out p1 = some (r, r_out, r_x_signs, r_x_length)) : MetH l yL_append cL_append 4 [(0, 9, 12, 15), (0, 9, 15, 17)] 8 123 2 12 [.ref ob, .int p1, .ref oa] (dC, dI) (tyL cyI cyC cyO cyJ) ((wAll cyI cyC cyO ob n0 n1 n2 n3 t0 t1 t2 t3 s0 aR ro r1 r2 r3 x0 x1 x2 x3 x4 n_ones n_twos n_settings n_tick n_energy n_valuesPut t_ones t_twos t_settings t_tick t_energy t_valuesPut s_ring s_oldest s_count x_signs x_length x_position x_complete x_orders x_kinds x_numbers x_values) ++ wO cyJ oa o_out) ((wAll cyI cyC cyO ob n0 n1 n2 n3 t0 t1 t2 t3 s0 aR ro r1 r2 r3 x0 x1 x2 x3 x4 n_ones n_twos n_settings n_tick n_energy n_valuesPut t_ones t_twos t_settings t_tick t_energy t_valuesPut s_ring s_oldest s_count r_x_signs r_x_length x_position x_complete x_orders x_kinds x_numbers x_values) ++ wO cyJ oa r_out) ad r := by
  refine metH_of (by decide) (Nat.le_of_ble_eq_true rfl) ?_
  intro p e s m below meth c ls hC hr hlk hex hP hK hD hE hN hl
  have hC : CallFix p m c cL_append 4 s [.ref ob, .int p1, .ref oa].toArray wA RL := hC
  obtain ⟨hx, hb, hml, hown, hts⟩ := id hC
  have hS : va_S (k_A ((wAll cyI cyC cyO ob n0 n1 n2 n3 t0 t1 t2 t3 s0 aR ro r1 r2 r3 x0 x1 x2 x3 x4 n_ones n_twos n_settings n_tick n_energy n_valuesPut t_ones t_twos t_settings t_tick t_energy t_valuesPut s_ring s_oldest s_count x_signs x_length x_position x_complete x_orders x_kinds x_numbers x_values) ++ wO cyJ oa o_out)) s.heap s.heap [] := va_S.rf
  have hl : lv_has ls 4 [(0, .ref ob), (1, .int p1), (2, .ref oa)] := hl
  have h := hf
  unfold fL_append at h
  have hK3 : va_K (dC, dI) vwCl (tyS cyI cyC cyO) s := hK.sub [0, 1, 2] rfl
  obtain ⟨k, z, c0, c1, hc, h⟩ := k_b4_e h
  refine lv_aload_n hx hb dL_append_0 rfl (lv_at hl 2 rfl) ?_
  refine lv_iconst (v := 0) hx hb dL_append_1 (by decide) ?_
  refine lv_aload_n hx hb dL_append_2 rfl (lv_at hl 0 rfl) ?_
  refine lv_iload_n hx hb dL_append_3 rfl (lv_at hl 1 rfl) ?_
  refine g_callT_V (As := [.int p1]) (rest := [.int 0, .ref oa]) hC (mX4_append l dC dI cyI cyC cyO hl9 ad ob n0 n1 n2 n3 t0 t1 t2 t3 s0 aR ro r1 r2 r3 x0 x1 x2 x3 x4 n_ones n_twos n_settings n_tick n_energy n_valuesPut t_ones t_twos t_settings t_tick t_energy t_valuesPut s_ring s_oldest s_count x_signs x_length x_position x_complete x_orders x_kinds x_numbers x_values p1 hc) q609 q610 q611 q71 q612 1 hdX4_append ⟨Nat.le_of_ble_eq_true rfl, Nat.le_of_ble_eq_true rfl⟩ ⟨Nat.le_of_ble_eq_true rfl, Nat.le_of_ble_eq_true rfl⟩ rfl rfl hl.1 (Nat.le_of_ble_eq_true rfl) (hP.sub (ws' := (wAll cyI cyC cyO ob n0 n1 n2 n3 t0 t1 t2 t3 s0 aR ro r1 r2 r3 x0 x1 x2 x3 x4 n_ones n_twos n_settings n_tick n_energy n_valuesPut t_ones t_twos t_settings t_tick t_energy t_valuesPut s_ring s_oldest s_count x_signs x_length x_position x_complete x_orders x_kinds x_numbers x_values)) [0, 1, 2, 3, 4, 5, 6, 7, 8, 9, 10, 11, 12, 13, 14, 15, 16, 17, 18, 19, 20, 21, 22, 23, 24, 25, 26, 27, 28, 29, 30, 31, 32, 33, 34, 35, 36, 37, 38, 39] rfl) hK3 (hD.sub (ws' := (wAll cyI cyC cyO ob n0 n1 n2 n3 t0 t1 t2 t3 s0 aR ro r1 r2 r3 x0 x1 x2 x3 x4 n_ones n_twos n_settings n_tick n_energy n_valuesPut t_ones t_twos t_settings t_tick t_energy t_valuesPut s_ring s_oldest s_count x_signs x_length x_position x_complete x_orders x_kinds x_numbers x_values)) [0, 1, 2, 3, 4, 5, 6, 7, 8, 9, 10, 11, 12, 13, 14, 15, 16, 17, 18, 19, 20, 21, 22, 23, 24, 25, 26, 27, 28, 29, 30, 31, 32, 33, 34, 35, 36, 37, 38, 39] (by decide) rfl) (va_recv hK3 hP (ci := 3) (q0 := 0) rfl rfl) hS dL_append_4 hE (fun E ce q9 H locs hX hPn hk hS hce hcv hcl => ?_) (fun H locs hk0 hPn hk hS => ?_)
  · have hP : va_P (dC, dI) vwCl ((wAll cyI cyC cyO ob n0 n1 n2 n3 t0 t1 t2 t3 s0 aR ro r1 r2 r3 x0 x1 x2 x3 x4 n_ones n_twos n_settings n_tick n_energy n_valuesPut t_ones t_twos t_settings t_tick t_energy t_valuesPut s_ring s_oldest s_count c0 c1 x_position x_complete x_orders x_kinds x_numbers x_values) ++ wO cyJ oa o_out) H := k_repl hP hD [0, 1, 2, 3, 4, 5, 6, 7, 8, 9, 10, 11, 12, 13, 14, 15, 16, 17, 18, 19, 20, 21, 22, 23, 24, 25, 26, 27, 28, 29, 30, 31, 32, 33, 34, 35, 36, 37, 38, 39] rfl hk hPn [.inr 0, .inr 1, .inr 2, .inr 3, .inr 4, .inr 5, .inr 6, .inr 7, .inr 8, .inr 9, .inr 10, .inr 11, .inr 12, .inr 13, .inr 14, .inr 15, .inr 16, .inr 17, .inr 18, .inr 19, .inr 20, .inr 21, .inr 22, .inr 23, .inr 24, .inr 25, .inr 26, .inr 27, .inr 28, .inr 29, .inr 30, .inr 31, .inr 32, .inr 33, .inr 34, .inr 35, .inr 36, .inr 37, .inr 38, .inr 39, .inl 40] rfl (by decide)
    rcases hX with ⟨hk9, hE9⟩ | ⟨hk9, hE9⟩ | ⟨hk9, hE9⟩
    · subst hk9; subst hE9
      have h := k_if_f h (by decide)
      have h := k_if_f h (by decide)
      have h := k_if_f h (by decide)
      cases h
    · subst hk9; subst hE9
      have h := k_if_f h (by decide)
      have h := k_if_t h rfl
      obtain ⟨e0, e1, e2, e3⟩ := k_t4 h
      refine vx_catch hown [] ⟨0, 9, 12, 15⟩ [⟨0, 9, 15, 17⟩] (by rw [hex]; rfl) (fun z hz => nomatch hz) rfl (by decide) (hts _ q463) (k_castA hE) hce hcv hcl ?_
      refine lv_astore_n (lv' := [(3, .ref q9), (0, .ref ob), (1, .int p1), (2, .ref oa)]) hx hb dL_append_12 rfl hl (by decide) rfl (fun ls hl => ?_)
      refine lv_iconst (v := 1) hx hb dL_append_13 (by decide) ?_
      exact g_retH hx hb hr hlk (Nat.le_of_ble_eq_true rfl) (Nat.le_of_ble_eq_true rfl) hS e0 (by rw [← e1, ← e2, ← e3]; exact hP) dL_append_14
    · subst hk9; subst hE9
      have h := k_if_f h (by decide)
      have h := k_if_f h (by decide)
      have h := k_if_t h rfl
      obtain ⟨e0, e1, e2, e3⟩ := k_t4 h
      refine vx_catch hown [⟨0, 9, 12, 15⟩] ⟨0, 9, 15, 17⟩ [] (by rw [hex]; rfl) (fun z hz => by
        simp only [List.mem_cons, List.not_mem_nil, or_false] at hz
        rcases hz with rfl
        · exact Or.inr ⟨by decide, "java/lang/IllegalArgumentException", hts _ q463, hN.2.2⟩) rfl (by decide) (hts _ q464) (k_castS hE) hce hcv hcl ?_
      refine lv_astore_n (lv' := [(3, .ref q9), (0, .ref ob), (1, .int p1), (2, .ref oa)]) hx hb dL_append_15 rfl hl (by decide) rfl (fun ls hl => ?_)
      refine lv_iconst (v := 2) hx hb dL_append_16 (by decide) ?_
      exact g_retH hx hb hr hlk (Nat.le_of_ble_eq_true rfl) (Nat.le_of_ble_eq_true rfl) hS e0 (by rw [← e1, ← e2, ← e3]; exact hP) dL_append_17
  · have hP : va_P (dC, dI) vwCl ((wAll cyI cyC cyO ob n0 n1 n2 n3 t0 t1 t2 t3 s0 aR ro r1 r2 r3 x0 x1 x2 x3 x4 n_ones n_twos n_settings n_tick n_energy n_valuesPut t_ones t_twos t_settings t_tick t_energy t_valuesPut s_ring s_oldest s_count c0 c1 x_position x_complete x_orders x_kinds x_numbers x_values) ++ wO cyJ oa o_out) H := k_repl hP hD [0, 1, 2, 3, 4, 5, 6, 7, 8, 9, 10, 11, 12, 13, 14, 15, 16, 17, 18, 19, 20, 21, 22, 23, 24, 25, 26, 27, 28, 29, 30, 31, 32, 33, 34, 35, 36, 37, 38, 39] rfl hk hPn [.inr 0, .inr 1, .inr 2, .inr 3, .inr 4, .inr 5, .inr 6, .inr 7, .inr 8, .inr 9, .inr 10, .inr 11, .inr 12, .inr 13, .inr 14, .inr 15, .inr 16, .inr 17, .inr 18, .inr 19, .inr 20, .inr 21, .inr 22, .inr 23, .inr 24, .inr 25, .inr 26, .inr 27, .inr 28, .inr 29, .inr 30, .inr 31, .inr 32, .inr 33, .inr 34, .inr 35, .inr 36, .inr 37, .inr 38, .inr 39, .inl 40] rfl (by decide)
    have hD : va_D (k_A ((wAll cyI cyC cyO ob n0 n1 n2 n3 t0 t1 t2 t3 s0 aR ro r1 r2 r3 x0 x1 x2 x3 x4 n_ones n_twos n_settings n_tick n_energy n_valuesPut t_ones t_twos t_settings t_tick t_energy t_valuesPut s_ring s_oldest s_count x_signs x_length x_position x_complete x_orders x_kinds x_numbers x_values) ++ wO cyJ oa o_out)) ((wAll cyI cyC cyO ob n0 n1 n2 n3 t0 t1 t2 t3 s0 aR ro r1 r2 r3 x0 x1 x2 x3 x4 n_ones n_twos n_settings n_tick n_energy n_valuesPut t_ones t_twos t_settings t_tick t_energy t_valuesPut s_ring s_oldest s_count c0 c1 x_position x_complete x_orders x_kinds x_numbers x_values) ++ wO cyJ oa o_out) := k_Dm hD rfl
    have h := k_if_t h hk0.symm
    obtain ⟨e0, e1, e2, e3⟩ := k_t4 h
    refine lv_i2l hx hb dL_append_7 rfl ?_
    refine va_last hx hb hK hP hD hS 40 3 rfl rfl (by unfold vp_in; decide) dL_append_8 (fun H locs hP hD hS => ?_)
    have hP : va_P (dC, dI) vwCl ((wAll cyI cyC cyO ob n0 n1 n2 n3 t0 t1 t2 t3 s0 aR ro r1 r2 r3 x0 x1 x2 x3 x4 n_ones n_twos n_settings n_tick n_energy n_valuesPut t_ones t_twos t_settings t_tick t_energy t_valuesPut s_ring s_oldest s_count c0 c1 x_position x_complete x_orders x_kinds x_numbers x_values) ++ wO cyJ oa (vp_updL o_out (0 : Int32).toNatClampNeg z.toInt64)) H := hP
    refine lv_goto (tgt := 18) hx hb dL_append_9 (by decide) ?_
    refine lv_iconst (v := 0) hx hb dL_append_18 (by decide) ?_
    exact g_retH hx hb hr hlk (Nat.le_of_ble_eq_true rfl) (Nat.le_of_ble_eq_true rfl) hS e0 (by rw [← e1, ← e2, ← e3]; exact hP) dL_append_19
def fL_run (n_ones : Nat → Int32) (n_twos : Nat → Int32) (n_settings : Nat → Int32) (n_tick : Int32) (n_energy : Int32) (n_valuesPut : Int32) (s_ring : Nat → SV) (s_oldest : Int32) (s_count : Int32) (x_signs : Nat → Int32) (x_length : Int32) (x_position : Int32) (x_complete : Int32) (x_orders : Int32) (x_kinds : Nat → Int32) (x_numbers : Nat → Int32) (x_values : Nat → Int32) (o_out : Nat → Int64) : Option (Int32 × (Nat → Int64) × (Nat → Int32) × (Nat → Int32) × (Int32) × (Int32) × (Int32) × (Nat → SV) × (Int32) × (Int32) × (Int32) × (Int32) × (Int32) × (Int32) × (Nat → Int32) × (Nat → Int32) × (Nat → Int32)) :=
  k_b17 (fX4_run n_ones n_twos n_settings n_tick n_energy n_valuesPut s_ring s_oldest s_count x_signs x_length x_position x_complete x_orders x_kinds x_numbers x_values) fun (k : Nat) (z : Int32) (c0 : Nat → Int32) (c1 : Nat → Int32) (c2 : Int32) (c3 : Int32) (c4 : Int32) (c5 : Nat → SV) (c6 : Int32) (c7 : Int32) (c8 : Int32) (c9 : Int32) (c10 : Int32) (c11 : Int32) (c12 : Nat → Int32) (c13 : Nat → Int32) (c14 : Nat → Int32) =>
  k_if (k = 0) (some (0, vp_updL o_out (0 : Int32).toNatClampNeg z.toInt64, c0, c1, c2, c3, c4, c5, c6, c7, c8, c9, c10, c11, c12, c13, c14)) <|
  k_if (k = 2) (some (1, o_out, c0, c1, c2, c3, c4, c5, c6, c7, c8, c9, c10, c11, c12, c13, c14)) <|
  none
theorem hdL_run : yL_run.cls ≠ "java/lang/invoke/MethodHandle" ∧ yL_run.cls ≠ "java/lang/invoke/VarHandle" ∧ (parseMethodDescriptor yL_run.desc).map (fun d => d.parameters.length) = some 2 := by decide +kernel
set_option maxRecDepth 100000 in
set_option maxHeartbeats 4000000 in
theorem mL_run (l : Launch) (dC : Nat → ClassId) (dI : Nat → Nat → Nat) (cyI cyC cyO cyJ : ClassId) (hl9 : l.stackTraces = false) (ad : Nat → Nat) (ob : Nat) (n0 : Nat) (n1 : Nat) (n2 : Nat) (n3 : Nat) (t0 : Nat) (t1 : Nat) (t2 : Nat) (t3 : Nat) (s0 : Nat) (aR : Nat) (ro : Nat → Nat) (r1 : Nat → Nat) (r2 : Nat → Nat) (r3 : Nat → Nat) (x0 : Nat) (x1 : Nat) (x2 : Nat) (x3 : Nat) (x4 : Nat) (oa : Nat) (n_ones : Nat → Int32) (n_twos : Nat → Int32) (n_settings : Nat → Int32) (n_tick : Int32) (n_energy : Int32) (n_valuesPut : Int32) (t_ones : Nat → Int32) (t_twos : Nat → Int32) (t_settings : Nat → Int32) (t_tick : Int32) (t_energy : Int32) (t_valuesPut : Int32) (s_ring : Nat → SV) (s_oldest : Int32) (s_count : Int32) (x_signs : Nat → Int32) (x_length : Int32) (x_position : Int32) (x_complete : Int32) (x_orders : Int32) (x_kinds : Nat → Int32) (x_numbers : Nat → Int32) (x_values : Nat → Int32) (o_out : Nat → Int64)  {r : Int32} {r_out : Nat → Int64} {r_n_ones : Nat → Int32} {r_n_twos : Nat → Int32} {r_n_tick : Int32} {r_n_energy : Int32} {r_n_valuesPut : Int32} {r_s_ring : Nat → SV} {r_s_oldest : Int32} {r_s_count : Int32} {r_x_length : Int32} {r_x_position : Int32} {r_x_complete : Int32} {r_x_orders : Int32} {r_x_kinds : Nat → Int32} {r_x_numbers : Nat → Int32} {r_x_values : Nat → Int32} (hf : fL_run n_ones n_twos n_settings n_tick n_energy n_valuesPut s_ring s_oldest s_count x_signs x_length x_position x_complete x_orders x_kinds x_numbers x_values o_out = some (r, r_out, r_n_ones, r_n_twos, r_n_tick, r_n_energy, r_n_valuesPut, r_s_ring, r_s_oldest, r_s_count, r_x_length, r_x_position, r_x_complete, r_x_orders, r_x_kinds, r_x_numbers, r_x_values)) : MetH l yL_run cL_run 3 [(0, 8, 11, 15)] 9 198 1 6 [.ref ob, .ref oa] (dC, dI) (tyL cyI cyC cyO cyJ) ((wAll cyI cyC cyO ob n0 n1 n2 n3 t0 t1 t2 t3 s0 aR ro r1 r2 r3 x0 x1 x2 x3 x4 n_ones n_twos n_settings n_tick n_energy n_valuesPut t_ones t_twos t_settings t_tick t_energy t_valuesPut s_ring s_oldest s_count x_signs x_length x_position x_complete x_orders x_kinds x_numbers x_values) ++ wO cyJ oa o_out) ((wAll cyI cyC cyO ob n0 n1 n2 n3 t0 t1 t2 t3 s0 aR ro r1 r2 r3 x0 x1 x2 x3 x4 r_n_ones r_n_twos n_settings r_n_tick r_n_energy r_n_valuesPut t_ones t_twos t_settings t_tick t_energy t_valuesPut r_s_ring r_s_oldest r_s_count x_signs r_x_length r_x_position r_x_complete r_x_orders r_x_kinds r_x_numbers r_x_values) ++ wO cyJ oa r_out) ad r := by
  refine metH_of (by decide) (Nat.le_of_ble_eq_true rfl) ?_
  intro p e s m below meth c ls hC hr hlk hex hP hK hD hE hN hl
  have hC : CallFix p m c cL_run 3 s [.ref ob, .ref oa].toArray wA RL := hC
  obtain ⟨hx, hb, hml, hown, hts⟩ := id hC
  have hS : va_S (k_A ((wAll cyI cyC cyO ob n0 n1 n2 n3 t0 t1 t2 t3 s0 aR ro r1 r2 r3 x0 x1 x2 x3 x4 n_ones n_twos n_settings n_tick n_energy n_valuesPut t_ones t_twos t_settings t_tick t_energy t_valuesPut s_ring s_oldest s_count x_signs x_length x_position x_complete x_orders x_kinds x_numbers x_values) ++ wO cyJ oa o_out)) s.heap s.heap [] := va_S.rf
  have hl : lv_has ls 3 [(0, .ref ob), (1, .ref oa)] := hl
  have h := hf
  unfold fL_run at h
  have hK3 : va_K (dC, dI) vwCl (tyS cyI cyC cyO) s := hK.sub [0, 1, 2] rfl
  obtain ⟨k, z, c0, c1, c2, c3, c4, c5, c6, c7, c8, c9, c10, c11, c12, c13, c14, hc, h⟩ := k_b17_e h
  refine lv_aload_n hx hb dL_run_0 rfl (lv_at hl 1 rfl) ?_
  refine lv_iconst (v := 0) hx hb dL_run_1 (by decide) ?_
  refine lv_aload_n hx hb dL_run_2 rfl (lv_at hl 0 rfl) ?_
  refine g_callT_V (As := []) (rest := [.int 0, .ref oa]) hC (mX4_run l dC dI cyI cyC cyO hl9 ad ob n0 n1 n2 n3 t0 t1 t2 t3 s0 aR ro r1 r2 r3 x0 x1 x2 x3 x4 n_ones n_twos n_settings n_tick n_energy n_valuesPut t_ones t_twos t_settings t_tick t_energy t_valuesPut s_ring s_oldest s_count x_signs x_length x_position x_complete x_orders x_kinds x_numbers x_values hc) q625 q626 q627 q71 q628 0 hdX4_run ⟨Nat.le_of_ble_eq_true rfl, Nat.le_of_ble_eq_true rfl⟩ ⟨Nat.le_of_ble_eq_true rfl, Nat.le_of_ble_eq_true rfl⟩ rfl rfl hl.1 (Nat.le_of_ble_eq_true rfl) (hP.sub (ws' := (wAll cyI cyC cyO ob n0 n1 n2 n3 t0 t1 t2 t3 s0 aR ro r1 r2 r3 x0 x1 x2 x3 x4 n_ones n_twos n_settings n_tick n_energy n_valuesPut t_ones t_twos t_settings t_tick t_energy t_valuesPut s_ring s_oldest s_count x_signs x_length x_position x_complete x_orders x_kinds x_numbers x_values)) [0, 1, 2, 3, 4, 5, 6, 7, 8, 9, 10, 11, 12, 13, 14, 15, 16, 17, 18, 19, 20, 21, 22, 23, 24, 25, 26, 27, 28, 29, 30, 31, 32, 33, 34, 35, 36, 37, 38, 39] rfl) hK3 (hD.sub (ws' := (wAll cyI cyC cyO ob n0 n1 n2 n3 t0 t1 t2 t3 s0 aR ro r1 r2 r3 x0 x1 x2 x3 x4 n_ones n_twos n_settings n_tick n_energy n_valuesPut t_ones t_twos t_settings t_tick t_energy t_valuesPut s_ring s_oldest s_count x_signs x_length x_position x_complete x_orders x_kinds x_numbers x_values)) [0, 1, 2, 3, 4, 5, 6, 7, 8, 9, 10, 11, 12, 13, 14, 15, 16, 17, 18, 19, 20, 21, 22, 23, 24, 25, 26, 27, 28, 29, 30, 31, 32, 33, 34, 35, 36, 37, 38, 39] (by decide) rfl) (va_recv hK3 hP (ci := 3) (q0 := 0) rfl rfl) hS dL_run_3 hE (fun E ce q9 H locs hX hPn hk hS hce hcv hcl => ?_) (fun H locs hk0 hPn hk hS => ?_)
  · have hP : va_P (dC, dI) vwCl ((wAll cyI cyC cyO ob n0 n1 n2 n3 t0 t1 t2 t3 s0 aR ro r1 r2 r3 x0 x1 x2 x3 x4 c0 c1 n_settings c2 c3 c4 t_ones t_twos t_settings t_tick t_energy t_valuesPut c5 c6 c7 x_signs c8 c9 c10 c11 c12 c13 c14) ++ wO cyJ oa o_out) H := k_repl hP hD [0, 1, 2, 3, 4, 5, 6, 7, 8, 9, 10, 11, 12, 13, 14, 15, 16, 17, 18, 19, 20, 21, 22, 23, 24, 25, 26, 27, 28, 29, 30, 31, 32, 33, 34, 35, 36, 37, 38, 39] rfl hk hPn [.inr 0, .inr 1, .inr 2, .inr 3, .inr 4, .inr 5, .inr 6, .inr 7, .inr 8, .inr 9, .inr 10, .inr 11, .inr 12, .inr 13, .inr 14, .inr 15, .inr 16, .inr 17, .inr 18, .inr 19, .inr 20, .inr 21, .inr 22, .inr 23, .inr 24, .inr 25, .inr 26, .inr 27, .inr 28, .inr 29, .inr 30, .inr 31, .inr 32, .inr 33, .inr 34, .inr 35, .inr 36, .inr 37, .inr 38, .inr 39, .inl 40] rfl (by decide)
    rcases hX with ⟨hk9, hE9⟩ | ⟨hk9, hE9⟩ | ⟨hk9, hE9⟩
    · subst hk9; subst hE9
      have h := k_if_f h (by decide)
      have h := k_if_f h (by decide)
      cases h
    · subst hk9; subst hE9
      have h := k_if_f h (by decide)
      have h := k_if_t h rfl
      obtain ⟨e0, e1, e2, e3, e4, e5, e6, e7, e8, e9, e10, e11, e12, e13, e14, e15, e16⟩ := k_t17 h
      refine vx_catch hown [] ⟨0, 8, 11, 15⟩ [] (by rw [hex]; rfl) (fun z hz => nomatch hz) rfl (by decide) (hts _ q463) (k_castA hE) hce hcv hcl ?_
      refine lv_astore_n (lv' := [(2, .ref q9), (0, .ref ob), (1, .ref oa)]) hx hb dL_run_11 rfl hl (by decide) rfl (fun ls hl => ?_)
      refine lv_iconst (v := 1) hx hb dL_run_12 (by decide) ?_
      exact g_retH hx hb hr hlk (Nat.le_of_ble_eq_true rfl) (Nat.le_of_ble_eq_true rfl) hS e0 (by rw [← e1, ← e2, ← e3, ← e4, ← e5, ← e6, ← e7, ← e8, ← e9, ← e10, ← e11, ← e12, ← e13, ← e14, ← e15, ← e16]; exact hP) dL_run_13
    · subst hk9; subst hE9
      have h := k_if_f h (by decide)
      have h := k_if_f h (by decide)
      cases h
  · have hP : va_P (dC, dI) vwCl ((wAll cyI cyC cyO ob n0 n1 n2 n3 t0 t1 t2 t3 s0 aR ro r1 r2 r3 x0 x1 x2 x3 x4 c0 c1 n_settings c2 c3 c4 t_ones t_twos t_settings t_tick t_energy t_valuesPut c5 c6 c7 x_signs c8 c9 c10 c11 c12 c13 c14) ++ wO cyJ oa o_out) H := k_repl hP hD [0, 1, 2, 3, 4, 5, 6, 7, 8, 9, 10, 11, 12, 13, 14, 15, 16, 17, 18, 19, 20, 21, 22, 23, 24, 25, 26, 27, 28, 29, 30, 31, 32, 33, 34, 35, 36, 37, 38, 39] rfl hk hPn [.inr 0, .inr 1, .inr 2, .inr 3, .inr 4, .inr 5, .inr 6, .inr 7, .inr 8, .inr 9, .inr 10, .inr 11, .inr 12, .inr 13, .inr 14, .inr 15, .inr 16, .inr 17, .inr 18, .inr 19, .inr 20, .inr 21, .inr 22, .inr 23, .inr 24, .inr 25, .inr 26, .inr 27, .inr 28, .inr 29, .inr 30, .inr 31, .inr 32, .inr 33, .inr 34, .inr 35, .inr 36, .inr 37, .inr 38, .inr 39, .inl 40] rfl (by decide)
    have hD : va_D (k_A ((wAll cyI cyC cyO ob n0 n1 n2 n3 t0 t1 t2 t3 s0 aR ro r1 r2 r3 x0 x1 x2 x3 x4 n_ones n_twos n_settings n_tick n_energy n_valuesPut t_ones t_twos t_settings t_tick t_energy t_valuesPut s_ring s_oldest s_count x_signs x_length x_position x_complete x_orders x_kinds x_numbers x_values) ++ wO cyJ oa o_out)) ((wAll cyI cyC cyO ob n0 n1 n2 n3 t0 t1 t2 t3 s0 aR ro r1 r2 r3 x0 x1 x2 x3 x4 c0 c1 n_settings c2 c3 c4 t_ones t_twos t_settings t_tick t_energy t_valuesPut c5 c6 c7 x_signs c8 c9 c10 c11 c12 c13 c14) ++ wO cyJ oa o_out) := k_Dm hD rfl
    have h := k_if_t h hk0.symm
    obtain ⟨e0, e1, e2, e3, e4, e5, e6, e7, e8, e9, e10, e11, e12, e13, e14, e15, e16⟩ := k_t17 h
    refine lv_i2l hx hb dL_run_6 rfl ?_
    refine va_last hx hb hK hP hD hS 40 3 rfl rfl (by unfold vp_in; decide) dL_run_7 (fun H locs hP hD hS => ?_)
    have hP : va_P (dC, dI) vwCl ((wAll cyI cyC cyO ob n0 n1 n2 n3 t0 t1 t2 t3 s0 aR ro r1 r2 r3 x0 x1 x2 x3 x4 c0 c1 n_settings c2 c3 c4 t_ones t_twos t_settings t_tick t_energy t_valuesPut c5 c6 c7 x_signs c8 c9 c10 c11 c12 c13 c14) ++ wO cyJ oa (vp_updL o_out (0 : Int32).toNatClampNeg z.toInt64)) H := hP
    refine lv_goto (tgt := 14) hx hb dL_run_8 (by decide) ?_
    refine lv_iconst (v := 0) hx hb dL_run_14 (by decide) ?_
    exact g_retH hx hb hr hlk (Nat.le_of_ble_eq_true rfl) (Nat.le_of_ble_eq_true rfl) hS e0 (by rw [← e1, ← e2, ← e3, ← e4, ← e5, ← e6, ← e7, ← e8, ← e9, ← e10, ← e11, ← e12, ← e13, ← e14, ← e15, ← e16]; exact hP) dL_run_15
def fL_undo (n_ones : Nat → Int32) (n_twos : Nat → Int32) (n_settings : Nat → Int32) (n_tick : Int32) (n_energy : Int32) (n_valuesPut : Int32) (s_ring : Nat → SV) (s_oldest : Int32) (s_count : Int32) (o_out : Nat → Int64) : Option (Int32 × (Nat → Int64) × (Nat → Int32) × (Nat → Int32) × (Nat → Int32) × (Int32) × (Int32) × (Int32) × (Int32)) :=
  k_b9 (fX4_undo n_ones n_twos n_settings n_tick n_energy n_valuesPut s_ring s_oldest s_count) fun (k : Nat) (z : Int32) (c0 : Nat → Int32) (c1 : Nat → Int32) (c2 : Nat → Int32) (c3 : Int32) (c4 : Int32) (c5 : Int32) (c6 : Int32) =>
  k_if (k = 0) (some (0, vp_updL o_out (0 : Int32).toNatClampNeg z.toInt64, c0, c1, c2, c3, c4, c5, c6)) <|
  k_if (k = 3) (some (1, o_out, c0, c1, c2, c3, c4, c5, c6)) <|
  none
theorem hdL_undo : yL_undo.cls ≠ "java/lang/invoke/MethodHandle" ∧ yL_undo.cls ≠ "java/lang/invoke/VarHandle" ∧ (parseMethodDescriptor yL_undo.desc).map (fun d => d.parameters.length) = some 2 := by decide +kernel
set_option maxRecDepth 100000 in
set_option maxHeartbeats 4000000 in
theorem mL_undo (l : Launch) (dC : Nat → ClassId) (dI : Nat → Nat → Nat) (cyI cyC cyO cyJ : ClassId) (hl9 : l.stackTraces = false) (ad : Nat → Nat) (ob : Nat) (n0 : Nat) (n1 : Nat) (n2 : Nat) (n3 : Nat) (t0 : Nat) (t1 : Nat) (t2 : Nat) (t3 : Nat) (s0 : Nat) (aR : Nat) (ro : Nat → Nat) (r1 : Nat → Nat) (r2 : Nat → Nat) (r3 : Nat → Nat) (x0 : Nat) (x1 : Nat) (x2 : Nat) (x3 : Nat) (x4 : Nat) (oa : Nat) (n_ones : Nat → Int32) (n_twos : Nat → Int32) (n_settings : Nat → Int32) (n_tick : Int32) (n_energy : Int32) (n_valuesPut : Int32) (t_ones : Nat → Int32) (t_twos : Nat → Int32) (t_settings : Nat → Int32) (t_tick : Int32) (t_energy : Int32) (t_valuesPut : Int32) (s_ring : Nat → SV) (s_oldest : Int32) (s_count : Int32) (x_signs : Nat → Int32) (x_length : Int32) (x_position : Int32) (x_complete : Int32) (x_orders : Int32) (x_kinds : Nat → Int32) (x_numbers : Nat → Int32) (x_values : Nat → Int32) (o_out : Nat → Int64)  {r : Int32} {r_out : Nat → Int64} {r_n_ones : Nat → Int32} {r_n_twos : Nat → Int32} {r_n_settings : Nat → Int32} {r_n_tick : Int32} {r_n_energy : Int32} {r_n_valuesPut : Int32} {r_s_count : Int32} (hf : fL_undo n_ones n_twos n_settings n_tick n_energy n_valuesPut s_ring s_oldest s_count o_out = some (r, r_out, r_n_ones, r_n_twos, r_n_settings, r_n_tick, r_n_energy, r_n_valuesPut, r_s_count)) : MetH l yL_undo cL_undo 3 [(0, 8, 11, 17)] 8 122 1 6 [.ref ob, .ref oa] (dC, dI) (tyL cyI cyC cyO cyJ) ((wAll cyI cyC cyO ob n0 n1 n2 n3 t0 t1 t2 t3 s0 aR ro r1 r2 r3 x0 x1 x2 x3 x4 n_ones n_twos n_settings n_tick n_energy n_valuesPut t_ones t_twos t_settings t_tick t_energy t_valuesPut s_ring s_oldest s_count x_signs x_length x_position x_complete x_orders x_kinds x_numbers x_values) ++ wO cyJ oa o_out) ((wAll cyI cyC cyO ob n0 n1 n2 n3 t0 t1 t2 t3 s0 aR ro r1 r2 r3 x0 x1 x2 x3 x4 r_n_ones r_n_twos r_n_settings r_n_tick r_n_energy r_n_valuesPut t_ones t_twos t_settings t_tick t_energy t_valuesPut s_ring s_oldest r_s_count x_signs x_length x_position x_complete x_orders x_kinds x_numbers x_values) ++ wO cyJ oa r_out) ad r := by
  refine metH_of (by decide) (Nat.le_of_ble_eq_true rfl) ?_
  intro p e s m below meth c ls hC hr hlk hex hP hK hD hE hN hl
  have hC : CallFix p m c cL_undo 3 s [.ref ob, .ref oa].toArray wA RL := hC
  obtain ⟨hx, hb, hml, hown, hts⟩ := id hC
  have hS : va_S (k_A ((wAll cyI cyC cyO ob n0 n1 n2 n3 t0 t1 t2 t3 s0 aR ro r1 r2 r3 x0 x1 x2 x3 x4 n_ones n_twos n_settings n_tick n_energy n_valuesPut t_ones t_twos t_settings t_tick t_energy t_valuesPut s_ring s_oldest s_count x_signs x_length x_position x_complete x_orders x_kinds x_numbers x_values) ++ wO cyJ oa o_out)) s.heap s.heap [] := va_S.rf
  have hl : lv_has ls 3 [(0, .ref ob), (1, .ref oa)] := hl
  have h := hf
  unfold fL_undo at h
  have hK3 : va_K (dC, dI) vwCl (tyS cyI cyC cyO) s := hK.sub [0, 1, 2] rfl
  obtain ⟨k, z, c0, c1, c2, c3, c4, c5, c6, hc, h⟩ := k_b9_e h
  refine lv_aload_n hx hb dL_undo_0 rfl (lv_at hl 1 rfl) ?_
  refine lv_iconst (v := 0) hx hb dL_undo_1 (by decide) ?_
  refine lv_aload_n hx hb dL_undo_2 rfl (lv_at hl 0 rfl) ?_
  refine g_callT_V (As := []) (rest := [.int 0, .ref oa]) hC (mX4_undo l dC dI cyI cyC cyO hl9 ad ob n0 n1 n2 n3 t0 t1 t2 t3 s0 aR ro r1 r2 r3 x0 x1 x2 x3 x4 n_ones n_twos n_settings n_tick n_energy n_valuesPut t_ones t_twos t_settings t_tick t_energy t_valuesPut s_ring s_oldest s_count x_signs x_length x_position x_complete x_orders x_kinds x_numbers x_values hc) q638 q639 q640 q71 q641 0 hdX4_undo ⟨Nat.le_of_ble_eq_true rfl, Nat.le_of_ble_eq_true rfl⟩ ⟨Nat.le_of_ble_eq_true rfl, Nat.le_of_ble_eq_true rfl⟩ rfl rfl hl.1 (Nat.le_of_ble_eq_true rfl) (hP.sub (ws' := (wAll cyI cyC cyO ob n0 n1 n2 n3 t0 t1 t2 t3 s0 aR ro r1 r2 r3 x0 x1 x2 x3 x4 n_ones n_twos n_settings n_tick n_energy n_valuesPut t_ones t_twos t_settings t_tick t_energy t_valuesPut s_ring s_oldest s_count x_signs x_length x_position x_complete x_orders x_kinds x_numbers x_values)) [0, 1, 2, 3, 4, 5, 6, 7, 8, 9, 10, 11, 12, 13, 14, 15, 16, 17, 18, 19, 20, 21, 22, 23, 24, 25, 26, 27, 28, 29, 30, 31, 32, 33, 34, 35, 36, 37, 38, 39] rfl) hK3 (hD.sub (ws' := (wAll cyI cyC cyO ob n0 n1 n2 n3 t0 t1 t2 t3 s0 aR ro r1 r2 r3 x0 x1 x2 x3 x4 n_ones n_twos n_settings n_tick n_energy n_valuesPut t_ones t_twos t_settings t_tick t_energy t_valuesPut s_ring s_oldest s_count x_signs x_length x_position x_complete x_orders x_kinds x_numbers x_values)) [0, 1, 2, 3, 4, 5, 6, 7, 8, 9, 10, 11, 12, 13, 14, 15, 16, 17, 18, 19, 20, 21, 22, 23, 24, 25, 26, 27, 28, 29, 30, 31, 32, 33, 34, 35, 36, 37, 38, 39] (by decide) rfl) (va_recv hK3 hP (ci := 3) (q0 := 0) rfl rfl) hS dL_undo_3 hE (fun E ce q9 H locs hX hPn hk hS hce hcv hcl => ?_) (fun H locs hk0 hPn hk hS => ?_)
  · have hP : va_P (dC, dI) vwCl ((wAll cyI cyC cyO ob n0 n1 n2 n3 t0 t1 t2 t3 s0 aR ro r1 r2 r3 x0 x1 x2 x3 x4 c0 c1 c2 c3 c4 c5 t_ones t_twos t_settings t_tick t_energy t_valuesPut s_ring s_oldest c6 x_signs x_length x_position x_complete x_orders x_kinds x_numbers x_values) ++ wO cyJ oa o_out) H := k_repl hP hD [0, 1, 2, 3, 4, 5, 6, 7, 8, 9, 10, 11, 12, 13, 14, 15, 16, 17, 18, 19, 20, 21, 22, 23, 24, 25, 26, 27, 28, 29, 30, 31, 32, 33, 34, 35, 36, 37, 38, 39] rfl hk hPn [.inr 0, .inr 1, .inr 2, .inr 3, .inr 4, .inr 5, .inr 6, .inr 7, .inr 8, .inr 9, .inr 10, .inr 11, .inr 12, .inr 13, .inr 14, .inr 15, .inr 16, .inr 17, .inr 18, .inr 19, .inr 20, .inr 21, .inr 22, .inr 23, .inr 24, .inr 25, .inr 26, .inr 27, .inr 28, .inr 29, .inr 30, .inr 31, .inr 32, .inr 33, .inr 34, .inr 35, .inr 36, .inr 37, .inr 38, .inr 39, .inl 40] rfl (by decide)
    rcases hX with ⟨hk9, hE9⟩ | ⟨hk9, hE9⟩ | ⟨hk9, hE9⟩
    · subst hk9; subst hE9
      have h := k_if_f h (by decide)
      have h := k_if_f h (by decide)
      cases h
    · subst hk9; subst hE9
      have h := k_if_f h (by decide)
      have h := k_if_f h (by decide)
      cases h
    · subst hk9; subst hE9
      have h := k_if_f h (by decide)
      have h := k_if_t h rfl
      obtain ⟨e0, e1, e2, e3, e4, e5, e6, e7, e8⟩ := k_t9 h
      refine vx_catch hown [] ⟨0, 8, 11, 17⟩ [] (by rw [hex]; rfl) (fun z hz => nomatch hz) rfl (by decide) (hts _ q464) (k_castS hE) hce hcv hcl ?_
      refine lv_astore_n (lv' := [(2, .ref q9), (0, .ref ob), (1, .ref oa)]) hx hb dL_undo_11 rfl hl (by decide) rfl (fun ls hl => ?_)
      refine lv_iconst (v := 1) hx hb dL_undo_12 (by decide) ?_
      exact g_retH hx hb hr hlk (Nat.le_of_ble_eq_true rfl) (Nat.le_of_ble_eq_true rfl) hS e0 (by rw [← e1, ← e2, ← e3, ← e4, ← e5, ← e6, ← e7, ← e8]; exact hP) dL_undo_13
  · have hP : va_P (dC, dI) vwCl ((wAll cyI cyC cyO ob n0 n1 n2 n3 t0 t1 t2 t3 s0 aR ro r1 r2 r3 x0 x1 x2 x3 x4 c0 c1 c2 c3 c4 c5 t_ones t_twos t_settings t_tick t_energy t_valuesPut s_ring s_oldest c6 x_signs x_length x_position x_complete x_orders x_kinds x_numbers x_values) ++ wO cyJ oa o_out) H := k_repl hP hD [0, 1, 2, 3, 4, 5, 6, 7, 8, 9, 10, 11, 12, 13, 14, 15, 16, 17, 18, 19, 20, 21, 22, 23, 24, 25, 26, 27, 28, 29, 30, 31, 32, 33, 34, 35, 36, 37, 38, 39] rfl hk hPn [.inr 0, .inr 1, .inr 2, .inr 3, .inr 4, .inr 5, .inr 6, .inr 7, .inr 8, .inr 9, .inr 10, .inr 11, .inr 12, .inr 13, .inr 14, .inr 15, .inr 16, .inr 17, .inr 18, .inr 19, .inr 20, .inr 21, .inr 22, .inr 23, .inr 24, .inr 25, .inr 26, .inr 27, .inr 28, .inr 29, .inr 30, .inr 31, .inr 32, .inr 33, .inr 34, .inr 35, .inr 36, .inr 37, .inr 38, .inr 39, .inl 40] rfl (by decide)
    have hD : va_D (k_A ((wAll cyI cyC cyO ob n0 n1 n2 n3 t0 t1 t2 t3 s0 aR ro r1 r2 r3 x0 x1 x2 x3 x4 n_ones n_twos n_settings n_tick n_energy n_valuesPut t_ones t_twos t_settings t_tick t_energy t_valuesPut s_ring s_oldest s_count x_signs x_length x_position x_complete x_orders x_kinds x_numbers x_values) ++ wO cyJ oa o_out)) ((wAll cyI cyC cyO ob n0 n1 n2 n3 t0 t1 t2 t3 s0 aR ro r1 r2 r3 x0 x1 x2 x3 x4 c0 c1 c2 c3 c4 c5 t_ones t_twos t_settings t_tick t_energy t_valuesPut s_ring s_oldest c6 x_signs x_length x_position x_complete x_orders x_kinds x_numbers x_values) ++ wO cyJ oa o_out) := k_Dm hD rfl
    have h := k_if_t h hk0.symm
    obtain ⟨e0, e1, e2, e3, e4, e5, e6, e7, e8⟩ := k_t9 h
    refine lv_i2l hx hb dL_undo_6 rfl ?_
    refine va_last hx hb hK hP hD hS 40 3 rfl rfl (by unfold vp_in; decide) dL_undo_7 (fun H locs hP hD hS => ?_)
    have hP : va_P (dC, dI) vwCl ((wAll cyI cyC cyO ob n0 n1 n2 n3 t0 t1 t2 t3 s0 aR ro r1 r2 r3 x0 x1 x2 x3 x4 c0 c1 c2 c3 c4 c5 t_ones t_twos t_settings t_tick t_energy t_valuesPut s_ring s_oldest c6 x_signs x_length x_position x_complete x_orders x_kinds x_numbers x_values) ++ wO cyJ oa (vp_updL o_out (0 : Int32).toNatClampNeg z.toInt64)) H := hP
    refine lv_goto (tgt := 14) hx hb dL_undo_8 (by decide) ?_
    refine lv_iconst (v := 0) hx hb dL_undo_14 (by decide) ?_
    exact g_retH hx hb hr hlk (Nat.le_of_ble_eq_true rfl) (Nat.le_of_ble_eq_true rfl) hS e0 (by rw [← e1, ← e2, ← e3, ← e4, ← e5, ← e6, ← e7, ← e8]; exact hP) dL_undo_15
def fL_fuse (n_ones : Nat → Int32) (n_twos : Nat → Int32) (n_tick : Int32) (o_out : Nat → Int64) (p1 : Int32) (p2 : Int32) (p3 : Int32) : Option (Int32 × (Nat → Int64)) :=
  k_b2 (fX4_fuse n_ones n_twos n_tick p1 p2 p3) fun (k : Nat) (z : Int32)  =>
  k_if (k = 0) (some (0, vp_updL o_out (0 : Int32).toNatClampNeg z.toInt64)) <|
  k_if (k = 1) (some (1, o_out)) <|
  k_if (k = 2) (some (2, o_out)) <|
  none
theorem hdL_fuse : yL_fuse.cls ≠ "java/lang/invoke/MethodHandle" ∧ yL_fuse.cls ≠ "java/lang/invoke/VarHandle" ∧ (parseMethodDescriptor yL_fuse.desc).map (fun d => d.parameters.length) = some 5 := by decide +kernel
set_option maxRecDepth 100000 in
set_option maxHeartbeats 4000000 in
theorem mL_fuse (l : Launch) (dC : Nat → ClassId) (dI : Nat → Nat → Nat) (cyI cyC cyO cyJ : ClassId) (hl9 : l.stackTraces = false) (ad : Nat → Nat) (ob : Nat) (n0 : Nat) (n1 : Nat) (n2 : Nat) (n3 : Nat) (t0 : Nat) (t1 : Nat) (t2 : Nat) (t3 : Nat) (s0 : Nat) (aR : Nat) (ro : Nat → Nat) (r1 : Nat → Nat) (r2 : Nat → Nat) (r3 : Nat → Nat) (x0 : Nat) (x1 : Nat) (x2 : Nat) (x3 : Nat) (x4 : Nat) (oa : Nat) (n_ones : Nat → Int32) (n_twos : Nat → Int32) (n_settings : Nat → Int32) (n_tick : Int32) (n_energy : Int32) (n_valuesPut : Int32) (t_ones : Nat → Int32) (t_twos : Nat → Int32) (t_settings : Nat → Int32) (t_tick : Int32) (t_energy : Int32) (t_valuesPut : Int32) (s_ring : Nat → SV) (s_oldest : Int32) (s_count : Int32) (x_signs : Nat → Int32) (x_length : Int32) (x_position : Int32) (x_complete : Int32) (x_orders : Int32) (x_kinds : Nat → Int32) (x_numbers : Nat → Int32) (x_values : Nat → Int32) (o_out : Nat → Int64) (p1 : Int32) (p2 : Int32) (p3 : Int32) {r : Int32} {r_out : Nat → Int64}  (hf : fL_fuse n_ones n_twos n_tick o_out p1 p2 p3 = some (r, r_out)) : MetH l yL_fuse cL_fuse 6 [(0, 12, 15, 13), (0, 12, 19, 15)] 8 125 2 12 [.ref ob, .int p1, .int p2, .int p3, .ref oa] (dC, dI) (tyL cyI cyC cyO cyJ) ((wAll cyI cyC cyO ob n0 n1 n2 n3 t0 t1 t2 t3 s0 aR ro r1 r2 r3 x0 x1 x2 x3 x4 n_ones n_twos n_settings n_tick n_energy n_valuesPut t_ones t_twos t_settings t_tick t_energy t_valuesPut s_ring s_oldest s_count x_signs x_length x_position x_complete x_orders x_kinds x_numbers x_values) ++ wO cyJ oa o_out) ((wAll cyI cyC cyO ob n0 n1 n2 n3 t0 t1 t2 t3 s0 aR ro r1 r2 r3 x0 x1 x2 x3 x4 n_ones n_twos n_settings n_tick n_energy n_valuesPut t_ones t_twos t_settings t_tick t_energy t_valuesPut s_ring s_oldest s_count x_signs x_length x_position x_complete x_orders x_kinds x_numbers x_values) ++ wO cyJ oa r_out) ad r := by
  refine metH_of (by decide) (Nat.le_of_ble_eq_true rfl) ?_
  intro p e s m below meth c ls hC hr hlk hex hP hK hD hE hN hl
  have hC : CallFix p m c cL_fuse 6 s [.ref ob, .int p1, .int p2, .int p3, .ref oa].toArray wA RL := hC
  obtain ⟨hx, hb, hml, hown, hts⟩ := id hC
  have hS : va_S (k_A ((wAll cyI cyC cyO ob n0 n1 n2 n3 t0 t1 t2 t3 s0 aR ro r1 r2 r3 x0 x1 x2 x3 x4 n_ones n_twos n_settings n_tick n_energy n_valuesPut t_ones t_twos t_settings t_tick t_energy t_valuesPut s_ring s_oldest s_count x_signs x_length x_position x_complete x_orders x_kinds x_numbers x_values) ++ wO cyJ oa o_out)) s.heap s.heap [] := va_S.rf
  have hl : lv_has ls 6 [(0, .ref ob), (1, .int p1), (2, .int p2), (3, .int p3), (4, .ref oa)] := hl
  have h := hf
  unfold fL_fuse at h
  have hK3 : va_K (dC, dI) vwCl (tyS cyI cyC cyO) s := hK.sub [0, 1, 2] rfl
  obtain ⟨k, z, hc, h⟩ := k_b2_e h
  refine lv_aload hx hb dL_fuse_0 (lv_at hl 4 rfl) ?_
  refine lv_iconst (v := 0) hx hb dL_fuse_2 (by decide) ?_
  refine lv_aload_n hx hb dL_fuse_3 rfl (lv_at hl 0 rfl) ?_
  refine lv_iload_n hx hb dL_fuse_4 rfl (lv_at hl 1 rfl) ?_
  refine lv_iload_n hx hb dL_fuse_5 rfl (lv_at hl 2 rfl) ?_
  refine lv_iload_n hx hb dL_fuse_6 rfl (lv_at hl 3 rfl) ?_
  refine g_callT_V (As := [.int p1, .int p2, .int p3]) (rest := [.int 0, .ref oa]) hC (mX4_fuse l dC dI cyI cyC cyO hl9 ad ob n0 n1 n2 n3 t0 t1 t2 t3 s0 aR ro r1 r2 r3 x0 x1 x2 x3 x4 n_ones n_twos n_settings n_tick n_energy n_valuesPut t_ones t_twos t_settings t_tick t_energy t_valuesPut s_ring s_oldest s_count x_signs x_length x_position x_complete x_orders x_kinds x_numbers x_values p1 p2 p3 hc) q649 q650 q651 q71 q652 3 hdX4_fuse ⟨Nat.le_of_ble_eq_true rfl, Nat.le_of_ble_eq_true rfl⟩ ⟨Nat.le_of_ble_eq_true rfl, Nat.le_of_ble_eq_true rfl⟩ rfl rfl hl.1 (Nat.le_of_ble_eq_true rfl) (hP.sub (ws' := (wAll cyI cyC cyO ob n0 n1 n2 n3 t0 t1 t2 t3 s0 aR ro r1 r2 r3 x0 x1 x2 x3 x4 n_ones n_twos n_settings n_tick n_energy n_valuesPut t_ones t_twos t_settings t_tick t_energy t_valuesPut s_ring s_oldest s_count x_signs x_length x_position x_complete x_orders x_kinds x_numbers x_values)) [0, 1, 2, 3, 4, 5, 6, 7, 8, 9, 10, 11, 12, 13, 14, 15, 16, 17, 18, 19, 20, 21, 22, 23, 24, 25, 26, 27, 28, 29, 30, 31, 32, 33, 34, 35, 36, 37, 38, 39] rfl) hK3 (hD.sub (ws' := (wAll cyI cyC cyO ob n0 n1 n2 n3 t0 t1 t2 t3 s0 aR ro r1 r2 r3 x0 x1 x2 x3 x4 n_ones n_twos n_settings n_tick n_energy n_valuesPut t_ones t_twos t_settings t_tick t_energy t_valuesPut s_ring s_oldest s_count x_signs x_length x_position x_complete x_orders x_kinds x_numbers x_values)) [0, 1, 2, 3, 4, 5, 6, 7, 8, 9, 10, 11, 12, 13, 14, 15, 16, 17, 18, 19, 20, 21, 22, 23, 24, 25, 26, 27, 28, 29, 30, 31, 32, 33, 34, 35, 36, 37, 38, 39] (by decide) rfl) (va_recv hK3 hP (ci := 3) (q0 := 0) rfl rfl) hS dL_fuse_7 hE (fun E ce q9 H locs hX hPn hk hS hce hcv hcl => ?_) (fun H locs hk0 hPn hk hS => ?_)
  · have hP : va_P (dC, dI) vwCl ((wAll cyI cyC cyO ob n0 n1 n2 n3 t0 t1 t2 t3 s0 aR ro r1 r2 r3 x0 x1 x2 x3 x4 n_ones n_twos n_settings n_tick n_energy n_valuesPut t_ones t_twos t_settings t_tick t_energy t_valuesPut s_ring s_oldest s_count x_signs x_length x_position x_complete x_orders x_kinds x_numbers x_values) ++ wO cyJ oa o_out) H := k_repl hP hD [0, 1, 2, 3, 4, 5, 6, 7, 8, 9, 10, 11, 12, 13, 14, 15, 16, 17, 18, 19, 20, 21, 22, 23, 24, 25, 26, 27, 28, 29, 30, 31, 32, 33, 34, 35, 36, 37, 38, 39] rfl hk hPn [.inr 0, .inr 1, .inr 2, .inr 3, .inr 4, .inr 5, .inr 6, .inr 7, .inr 8, .inr 9, .inr 10, .inr 11, .inr 12, .inr 13, .inr 14, .inr 15, .inr 16, .inr 17, .inr 18, .inr 19, .inr 20, .inr 21, .inr 22, .inr 23, .inr 24, .inr 25, .inr 26, .inr 27, .inr 28, .inr 29, .inr 30, .inr 31, .inr 32, .inr 33, .inr 34, .inr 35, .inr 36, .inr 37, .inr 38, .inr 39, .inl 40] rfl (by decide)
    rcases hX with ⟨hk9, hE9⟩ | ⟨hk9, hE9⟩ | ⟨hk9, hE9⟩
    · subst hk9; subst hE9
      have h := k_if_f h (by decide)
      have h := k_if_t h rfl
      obtain ⟨e0, e1⟩ := k_t2 h
      refine vx_catch hown [] ⟨0, 12, 15, 13⟩ [⟨0, 12, 19, 15⟩] (by rw [hex]; rfl) (fun z hz => nomatch hz) rfl (by decide) (hts _ q462) (k_castI hE) hce hcv hcl ?_
      refine lv_astore (lv' := [(5, .ref q9), (0, .ref ob), (1, .int p1), (2, .int p2), (3, .int p3), (4, .ref oa)]) hx hb dL_fuse_15 hl (by decide) rfl (fun ls hl => ?_)
      refine lv_iconst (v := 1) hx hb dL_fuse_17 (by decide) ?_
      exact g_retH hx hb hr hlk (Nat.le_of_ble_eq_true rfl) (Nat.le_of_ble_eq_true rfl) hS e0 (by rw [← e1]; exact hP) dL_fuse_18
    · subst hk9; subst hE9
      have h := k_if_f h (by decide)
      have h := k_if_f h (by decide)
      have h := k_if_t h rfl
      obtain ⟨e0, e1⟩ := k_t2 h
      refine vx_catch hown [⟨0, 12, 15, 13⟩] ⟨0, 12, 19, 15⟩ [] (by rw [hex]; rfl) (fun z hz => by
        simp only [List.mem_cons, List.not_mem_nil, or_false] at hz
        rcases hz with rfl
        · exact Or.inr ⟨by decide, "java/lang/IndexOutOfBoundsException", hts _ q462, hN.1⟩) rfl (by decide) (hts _ q463) (k_castA hE) hce hcv hcl ?_
      refine lv_astore (lv' := [(5, .ref q9), (0, .ref ob), (1, .int p1), (2, .int p2), (3, .int p3), (4, .ref oa)]) hx hb dL_fuse_19 hl (by decide) rfl (fun ls hl => ?_)
      refine lv_iconst (v := 2) hx hb dL_fuse_21 (by decide) ?_
      exact g_retH hx hb hr hlk (Nat.le_of_ble_eq_true rfl) (Nat.le_of_ble_eq_true rfl) hS e0 (by rw [← e1]; exact hP) dL_fuse_22
    · subst hk9; subst hE9
      have h := k_if_f h (by decide)
      have h := k_if_f h (by decide)
      have h := k_if_f h (by decide)
      cases h
  · have hP : va_P (dC, dI) vwCl ((wAll cyI cyC cyO ob n0 n1 n2 n3 t0 t1 t2 t3 s0 aR ro r1 r2 r3 x0 x1 x2 x3 x4 n_ones n_twos n_settings n_tick n_energy n_valuesPut t_ones t_twos t_settings t_tick t_energy t_valuesPut s_ring s_oldest s_count x_signs x_length x_position x_complete x_orders x_kinds x_numbers x_values) ++ wO cyJ oa o_out) H := k_repl hP hD [0, 1, 2, 3, 4, 5, 6, 7, 8, 9, 10, 11, 12, 13, 14, 15, 16, 17, 18, 19, 20, 21, 22, 23, 24, 25, 26, 27, 28, 29, 30, 31, 32, 33, 34, 35, 36, 37, 38, 39] rfl hk hPn [.inr 0, .inr 1, .inr 2, .inr 3, .inr 4, .inr 5, .inr 6, .inr 7, .inr 8, .inr 9, .inr 10, .inr 11, .inr 12, .inr 13, .inr 14, .inr 15, .inr 16, .inr 17, .inr 18, .inr 19, .inr 20, .inr 21, .inr 22, .inr 23, .inr 24, .inr 25, .inr 26, .inr 27, .inr 28, .inr 29, .inr 30, .inr 31, .inr 32, .inr 33, .inr 34, .inr 35, .inr 36, .inr 37, .inr 38, .inr 39, .inl 40] rfl (by decide)
    have hD : va_D (k_A ((wAll cyI cyC cyO ob n0 n1 n2 n3 t0 t1 t2 t3 s0 aR ro r1 r2 r3 x0 x1 x2 x3 x4 n_ones n_twos n_settings n_tick n_energy n_valuesPut t_ones t_twos t_settings t_tick t_energy t_valuesPut s_ring s_oldest s_count x_signs x_length x_position x_complete x_orders x_kinds x_numbers x_values) ++ wO cyJ oa o_out)) ((wAll cyI cyC cyO ob n0 n1 n2 n3 t0 t1 t2 t3 s0 aR ro r1 r2 r3 x0 x1 x2 x3 x4 n_ones n_twos n_settings n_tick n_energy n_valuesPut t_ones t_twos t_settings t_tick t_energy t_valuesPut s_ring s_oldest s_count x_signs x_length x_position x_complete x_orders x_kinds x_numbers x_values) ++ wO cyJ oa o_out) := k_Dm hD rfl
    have h := k_if_t h hk0.symm
    obtain ⟨e0, e1⟩ := k_t2 h
    refine lv_i2l hx hb dL_fuse_10 rfl ?_
    refine va_last hx hb hK hP hD hS 40 3 rfl rfl (by unfold vp_in; decide) dL_fuse_11 (fun H locs hP hD hS => ?_)
    have hP : va_P (dC, dI) vwCl ((wAll cyI cyC cyO ob n0 n1 n2 n3 t0 t1 t2 t3 s0 aR ro r1 r2 r3 x0 x1 x2 x3 x4 n_ones n_twos n_settings n_tick n_energy n_valuesPut t_ones t_twos t_settings t_tick t_energy t_valuesPut s_ring s_oldest s_count x_signs x_length x_position x_complete x_orders x_kinds x_numbers x_values) ++ wO cyJ oa (vp_updL o_out (0 : Int32).toNatClampNeg z.toInt64)) H := hP
    refine lv_goto (tgt := 23) hx hb dL_fuse_12 (by decide) ?_
    refine lv_iconst (v := 0) hx hb dL_fuse_23 (by decide) ?_
    exact g_retH hx hb hr hlk (Nat.le_of_ble_eq_true rfl) (Nat.le_of_ble_eq_true rfl) hS e0 (by rw [← e1]; exact hP) dL_fuse_24
def fL_row (n_ones : Nat → Int32) (n_twos : Nat → Int32) (n_settings : Nat → Int32) (n_tick : Int32) (o_out : Nat → Int64) (p1 : Int32) (p2 : Int32) : Option (Int32 × (Nat → Int64)) :=
  k_b2 (fX4_row n_ones n_twos n_settings n_tick p1 p2) fun (k : Nat) (z : Int32)  =>
  k_if (k = 0) (some (0, vp_updL o_out (0 : Int32).toNatClampNeg z.toInt64)) <|
  k_if (k = 1) (some (1, o_out)) <|
  k_if (k = 2) (some (2, o_out)) <|
  none
theorem hdL_row : yL_row.cls ≠ "java/lang/invoke/MethodHandle" ∧ yL_row.cls ≠ "java/lang/invoke/VarHandle" ∧ (parseMethodDescriptor yL_row.desc).map (fun d => d.parameters.length) = some 4 := by decide +kernel
set_option maxRecDepth 100000 in
set_option maxHeartbeats 4000000 in
theorem mL_row (l : Launch) (dC : Nat → ClassId) (dI : Nat → Nat → Nat) (cyI cyC cyO cyJ : ClassId) (hl9 : l.stackTraces = false) (ad : Nat → Nat) (ob : Nat) (n0 : Nat) (n1 : Nat) (n2 : Nat) (n3 : Nat) (t0 : Nat) (t1 : Nat) (t2 : Nat) (t3 : Nat) (s0 : Nat) (aR : Nat) (ro : Nat → Nat) (r1 : Nat → Nat) (r2 : Nat → Nat) (r3 : Nat → Nat) (x0 : Nat) (x1 : Nat) (x2 : Nat) (x3 : Nat) (x4 : Nat) (oa : Nat) (n_ones : Nat → Int32) (n_twos : Nat → Int32) (n_settings : Nat → Int32) (n_tick : Int32) (n_energy : Int32) (n_valuesPut : Int32) (t_ones : Nat → Int32) (t_twos : Nat → Int32) (t_settings : Nat → Int32) (t_tick : Int32) (t_energy : Int32) (t_valuesPut : Int32) (s_ring : Nat → SV) (s_oldest : Int32) (s_count : Int32) (x_signs : Nat → Int32) (x_length : Int32) (x_position : Int32) (x_complete : Int32) (x_orders : Int32) (x_kinds : Nat → Int32) (x_numbers : Nat → Int32) (x_values : Nat → Int32) (o_out : Nat → Int64) (p1 : Int32) (p2 : Int32) {r : Int32} {r_out : Nat → Int64}  (hf : fL_row n_ones n_twos n_settings n_tick o_out p1 p2 = some (r, r_out)) : MetH l yL_row cL_row 5 [(0, 10, 13, 13), (0, 10, 17, 15)] 8 124 2 12 [.ref ob, .int p1, .int p2, .ref oa] (dC, dI) (tyL cyI cyC cyO cyJ) ((wAll cyI cyC cyO ob n0 n1 n2 n3 t0 t1 t2 t3 s0 aR ro r1 r2 r3 x0 x1 x2 x3 x4 n_ones n_twos n_settings n_tick n_energy n_valuesPut t_ones t_twos t_settings t_tick t_energy t_valuesPut s_ring s_oldest s_count x_signs x_length x_position x_complete x_orders x_kinds x_numbers x_values) ++ wO cyJ oa o_out) ((wAll cyI cyC cyO ob n0 n1 n2 n3 t0 t1 t2 t3 s0 aR ro r1 r2 r3 x0 x1 x2 x3 x4 n_ones n_twos n_settings n_tick n_energy n_valuesPut t_ones t_twos t_settings t_tick t_energy t_valuesPut s_ring s_oldest s_count x_signs x_length x_position x_complete x_orders x_kinds x_numbers x_values) ++ wO cyJ oa r_out) ad r := by
  refine metH_of (by decide) (Nat.le_of_ble_eq_true rfl) ?_
  intro p e s m below meth c ls hC hr hlk hex hP hK hD hE hN hl
  have hC : CallFix p m c cL_row 5 s [.ref ob, .int p1, .int p2, .ref oa].toArray wA RL := hC
  obtain ⟨hx, hb, hml, hown, hts⟩ := id hC
  have hS : va_S (k_A ((wAll cyI cyC cyO ob n0 n1 n2 n3 t0 t1 t2 t3 s0 aR ro r1 r2 r3 x0 x1 x2 x3 x4 n_ones n_twos n_settings n_tick n_energy n_valuesPut t_ones t_twos t_settings t_tick t_energy t_valuesPut s_ring s_oldest s_count x_signs x_length x_position x_complete x_orders x_kinds x_numbers x_values) ++ wO cyJ oa o_out)) s.heap s.heap [] := va_S.rf
  have hl : lv_has ls 5 [(0, .ref ob), (1, .int p1), (2, .int p2), (3, .ref oa)] := hl
  have h := hf
  unfold fL_row at h
  have hK3 : va_K (dC, dI) vwCl (tyS cyI cyC cyO) s := hK.sub [0, 1, 2] rfl
  obtain ⟨k, z, hc, h⟩ := k_b2_e h
  refine lv_aload_n hx hb dL_row_0 rfl (lv_at hl 3 rfl) ?_
  refine lv_iconst (v := 0) hx hb dL_row_1 (by decide) ?_
  refine lv_aload_n hx hb dL_row_2 rfl (lv_at hl 0 rfl) ?_
  refine lv_iload_n hx hb dL_row_3 rfl (lv_at hl 1 rfl) ?_
  refine lv_iload_n hx hb dL_row_4 rfl (lv_at hl 2 rfl) ?_
  refine g_callT_V (As := [.int p1, .int p2]) (rest := [.int 0, .ref oa]) hC (mX4_row l dC dI cyI cyC cyO hl9 ad ob n0 n1 n2 n3 t0 t1 t2 t3 s0 aR ro r1 r2 r3 x0 x1 x2 x3 x4 n_ones n_twos n_settings n_tick n_energy n_valuesPut t_ones t_twos t_settings t_tick t_energy t_valuesPut s_ring s_oldest s_count x_signs x_length x_position x_complete x_orders x_kinds x_numbers x_values p1 p2 hc) q657 q658 q659 q71 q660 2 hdX4_row ⟨Nat.le_of_ble_eq_true rfl, Nat.le_of_ble_eq_true rfl⟩ ⟨Nat.le_of_ble_eq_true rfl, Nat.le_of_ble_eq_true rfl⟩ rfl rfl hl.1 (Nat.le_of_ble_eq_true rfl) (hP.sub (ws' := (wAll cyI cyC cyO ob n0 n1 n2 n3 t0 t1 t2 t3 s0 aR ro r1 r2 r3 x0 x1 x2 x3 x4 n_ones n_twos n_settings n_tick n_energy n_valuesPut t_ones t_twos t_settings t_tick t_energy t_valuesPut s_ring s_oldest s_count x_signs x_length x_position x_complete x_orders x_kinds x_numbers x_values)) [0, 1, 2, 3, 4, 5, 6, 7, 8, 9, 10, 11, 12, 13, 14, 15, 16, 17, 18, 19, 20, 21, 22, 23, 24, 25, 26, 27, 28, 29, 30, 31, 32, 33, 34, 35, 36, 37, 38, 39] rfl) hK3 (hD.sub (ws' := (wAll cyI cyC cyO ob n0 n1 n2 n3 t0 t1 t2 t3 s0 aR ro r1 r2 r3 x0 x1 x2 x3 x4 n_ones n_twos n_settings n_tick n_energy n_valuesPut t_ones t_twos t_settings t_tick t_energy t_valuesPut s_ring s_oldest s_count x_signs x_length x_position x_complete x_orders x_kinds x_numbers x_values)) [0, 1, 2, 3, 4, 5, 6, 7, 8, 9, 10, 11, 12, 13, 14, 15, 16, 17, 18, 19, 20, 21, 22, 23, 24, 25, 26, 27, 28, 29, 30, 31, 32, 33, 34, 35, 36, 37, 38, 39] (by decide) rfl) (va_recv hK3 hP (ci := 3) (q0 := 0) rfl rfl) hS dL_row_5 hE (fun E ce q9 H locs hX hPn hk hS hce hcv hcl => ?_) (fun H locs hk0 hPn hk hS => ?_)
  · have hP : va_P (dC, dI) vwCl ((wAll cyI cyC cyO ob n0 n1 n2 n3 t0 t1 t2 t3 s0 aR ro r1 r2 r3 x0 x1 x2 x3 x4 n_ones n_twos n_settings n_tick n_energy n_valuesPut t_ones t_twos t_settings t_tick t_energy t_valuesPut s_ring s_oldest s_count x_signs x_length x_position x_complete x_orders x_kinds x_numbers x_values) ++ wO cyJ oa o_out) H := k_repl hP hD [0, 1, 2, 3, 4, 5, 6, 7, 8, 9, 10, 11, 12, 13, 14, 15, 16, 17, 18, 19, 20, 21, 22, 23, 24, 25, 26, 27, 28, 29, 30, 31, 32, 33, 34, 35, 36, 37, 38, 39] rfl hk hPn [.inr 0, .inr 1, .inr 2, .inr 3, .inr 4, .inr 5, .inr 6, .inr 7, .inr 8, .inr 9, .inr 10, .inr 11, .inr 12, .inr 13, .inr 14, .inr 15, .inr 16, .inr 17, .inr 18, .inr 19, .inr 20, .inr 21, .inr 22, .inr 23, .inr 24, .inr 25, .inr 26, .inr 27, .inr 28, .inr 29, .inr 30, .inr 31, .inr 32, .inr 33, .inr 34, .inr 35, .inr 36, .inr 37, .inr 38, .inr 39, .inl 40] rfl (by decide)
    rcases hX with ⟨hk9, hE9⟩ | ⟨hk9, hE9⟩ | ⟨hk9, hE9⟩
    · subst hk9; subst hE9
      have h := k_if_f h (by decide)
      have h := k_if_t h rfl
      obtain ⟨e0, e1⟩ := k_t2 h
      refine vx_catch hown [] ⟨0, 10, 13, 13⟩ [⟨0, 10, 17, 15⟩] (by rw [hex]; rfl) (fun z hz => nomatch hz) rfl (by decide) (hts _ q462) (k_castI hE) hce hcv hcl ?_
      refine lv_astore (lv' := [(4, .ref q9), (0, .ref ob), (1, .int p1), (2, .int p2), (3, .ref oa)]) hx hb dL_row_13 hl (by decide) rfl (fun ls hl => ?_)
      refine lv_iconst (v := 1) hx hb dL_row_15 (by decide) ?_
      exact g_retH hx hb hr hlk (Nat.le_of_ble_eq_true rfl) (Nat.le_of_ble_eq_true rfl) hS e0 (by rw [← e1]; exact hP) dL_row_16
    · subst hk9; subst hE9
      have h := k_if_f h (by decide)
      have h := k_if_f h (by decide)
      have h := k_if_t h rfl
      obtain ⟨e0, e1⟩ := k_t2 h
      refine vx_catch hown [⟨0, 10, 13, 13⟩] ⟨0, 10, 17, 15⟩ [] (by rw [hex]; rfl) (fun z hz => by
        simp only [List.mem_cons, List.not_mem_nil, or_false] at hz
        rcases hz with rfl
        · exact Or.inr ⟨by decide, "java/lang/IndexOutOfBoundsException", hts _ q462, hN.1⟩) rfl (by decide) (hts _ q463) (k_castA hE) hce hcv hcl ?_
      refine lv_astore (lv' := [(4, .ref q9), (0, .ref ob), (1, .int p1), (2, .int p2), (3, .ref oa)]) hx hb dL_row_17 hl (by decide) rfl (fun ls hl => ?_)
      refine lv_iconst (v := 2) hx hb dL_row_19 (by decide) ?_
      exact g_retH hx hb hr hlk (Nat.le_of_ble_eq_true rfl) (Nat.le_of_ble_eq_true rfl) hS e0 (by rw [← e1]; exact hP) dL_row_20
    · subst hk9; subst hE9
      have h := k_if_f h (by decide)
      have h := k_if_f h (by decide)
      have h := k_if_f h (by decide)
      cases h
  · have hP : va_P (dC, dI) vwCl ((wAll cyI cyC cyO ob n0 n1 n2 n3 t0 t1 t2 t3 s0 aR ro r1 r2 r3 x0 x1 x2 x3 x4 n_ones n_twos n_settings n_tick n_energy n_valuesPut t_ones t_twos t_settings t_tick t_energy t_valuesPut s_ring s_oldest s_count x_signs x_length x_position x_complete x_orders x_kinds x_numbers x_values) ++ wO cyJ oa o_out) H := k_repl hP hD [0, 1, 2, 3, 4, 5, 6, 7, 8, 9, 10, 11, 12, 13, 14, 15, 16, 17, 18, 19, 20, 21, 22, 23, 24, 25, 26, 27, 28, 29, 30, 31, 32, 33, 34, 35, 36, 37, 38, 39] rfl hk hPn [.inr 0, .inr 1, .inr 2, .inr 3, .inr 4, .inr 5, .inr 6, .inr 7, .inr 8, .inr 9, .inr 10, .inr 11, .inr 12, .inr 13, .inr 14, .inr 15, .inr 16, .inr 17, .inr 18, .inr 19, .inr 20, .inr 21, .inr 22, .inr 23, .inr 24, .inr 25, .inr 26, .inr 27, .inr 28, .inr 29, .inr 30, .inr 31, .inr 32, .inr 33, .inr 34, .inr 35, .inr 36, .inr 37, .inr 38, .inr 39, .inl 40] rfl (by decide)
    have hD : va_D (k_A ((wAll cyI cyC cyO ob n0 n1 n2 n3 t0 t1 t2 t3 s0 aR ro r1 r2 r3 x0 x1 x2 x3 x4 n_ones n_twos n_settings n_tick n_energy n_valuesPut t_ones t_twos t_settings t_tick t_energy t_valuesPut s_ring s_oldest s_count x_signs x_length x_position x_complete x_orders x_kinds x_numbers x_values) ++ wO cyJ oa o_out)) ((wAll cyI cyC cyO ob n0 n1 n2 n3 t0 t1 t2 t3 s0 aR ro r1 r2 r3 x0 x1 x2 x3 x4 n_ones n_twos n_settings n_tick n_energy n_valuesPut t_ones t_twos t_settings t_tick t_energy t_valuesPut s_ring s_oldest s_count x_signs x_length x_position x_complete x_orders x_kinds x_numbers x_values) ++ wO cyJ oa o_out) := k_Dm hD rfl
    have h := k_if_t h hk0.symm
    obtain ⟨e0, e1⟩ := k_t2 h
    refine lv_i2l hx hb dL_row_8 rfl ?_
    refine va_last hx hb hK hP hD hS 40 3 rfl rfl (by unfold vp_in; decide) dL_row_9 (fun H locs hP hD hS => ?_)
    have hP : va_P (dC, dI) vwCl ((wAll cyI cyC cyO ob n0 n1 n2 n3 t0 t1 t2 t3 s0 aR ro r1 r2 r3 x0 x1 x2 x3 x4 n_ones n_twos n_settings n_tick n_energy n_valuesPut t_ones t_twos t_settings t_tick t_energy t_valuesPut s_ring s_oldest s_count x_signs x_length x_position x_complete x_orders x_kinds x_numbers x_values) ++ wO cyJ oa (vp_updL o_out (0 : Int32).toNatClampNeg z.toInt64)) H := hP
    refine lv_goto (tgt := 21) hx hb dL_row_10 (by decide) ?_
    refine lv_iconst (v := 0) hx hb dL_row_21 (by decide) ?_
    exact g_retH hx hb hr hlk (Nat.le_of_ble_eq_true rfl) (Nat.le_of_ble_eq_true rfl) hS e0 (by rw [← e1]; exact hP) dL_row_22
def fL_key (n_ones : Nat → Int32) (n_twos : Nat → Int32) (n_settings : Nat → Int32) (n_tick : Int32) (o_out : Nat → Int64) (p1 : Int32) (p2 : Int32) : Option (Int32 × (Nat → Int64)) :=
  k_b2 (fX4_key n_ones n_twos n_settings n_tick p1 p2) fun (k : Nat) (z : Int32)  =>
  k_if (k = 0) (some (0, vp_updL o_out (0 : Int32).toNatClampNeg z.toInt64)) <|
  k_if (k = 2) (some (1, o_out)) <|
  none
theorem hdL_key : yL_key.cls ≠ "java/lang/invoke/MethodHandle" ∧ yL_key.cls ≠ "java/lang/invoke/VarHandle" ∧ (parseMethodDescriptor yL_key.desc).map (fun d => d.parameters.length) = some 4 := by decide +kernel
set_option maxRecDepth 100000 in
set_option maxHeartbeats 4000000 in
theorem mL_key (l : Launch) (dC : Nat → ClassId) (dI : Nat → Nat → Nat) (cyI cyC cyO cyJ : ClassId) (hl9 : l.stackTraces = false) (ad : Nat → Nat) (ob : Nat) (n0 : Nat) (n1 : Nat) (n2 : Nat) (n3 : Nat) (t0 : Nat) (t1 : Nat) (t2 : Nat) (t3 : Nat) (s0 : Nat) (aR : Nat) (ro : Nat → Nat) (r1 : Nat → Nat) (r2 : Nat → Nat) (r3 : Nat → Nat) (x0 : Nat) (x1 : Nat) (x2 : Nat) (x3 : Nat) (x4 : Nat) (oa : Nat) (n_ones : Nat → Int32) (n_twos : Nat → Int32) (n_settings : Nat → Int32) (n_tick : Int32) (n_energy : Int32) (n_valuesPut : Int32) (t_ones : Nat → Int32) (t_twos : Nat → Int32) (t_settings : Nat → Int32) (t_tick : Int32) (t_energy : Int32) (t_valuesPut : Int32) (s_ring : Nat → SV) (s_oldest : Int32) (s_count : Int32) (x_signs : Nat → Int32) (x_length : Int32) (x_position : Int32) (x_complete : Int32) (x_orders : Int32) (x_kinds : Nat → Int32) (x_numbers : Nat → Int32) (x_values : Nat → Int32) (o_out : Nat → Int64) (p1 : Int32) (p2 : Int32) {r : Int32} {r_out : Nat → Int64}  (hf : fL_key n_ones n_twos n_settings n_tick o_out p1 p2 = some (r, r_out)) : MetH l yL_key cL_key 5 [(0, 10, 13, 15)] 8 158 1 6 [.ref ob, .int p1, .int p2, .ref oa] (dC, dI) (tyL cyI cyC cyO cyJ) ((wAll cyI cyC cyO ob n0 n1 n2 n3 t0 t1 t2 t3 s0 aR ro r1 r2 r3 x0 x1 x2 x3 x4 n_ones n_twos n_settings n_tick n_energy n_valuesPut t_ones t_twos t_settings t_tick t_energy t_valuesPut s_ring s_oldest s_count x_signs x_length x_position x_complete x_orders x_kinds x_numbers x_values) ++ wO cyJ oa o_out) ((wAll cyI cyC cyO ob n0 n1 n2 n3 t0 t1 t2 t3 s0 aR ro r1 r2 r3 x0 x1 x2 x3 x4 n_ones n_twos n_settings n_tick n_energy n_valuesPut t_ones t_twos t_settings t_tick t_energy t_valuesPut s_ring s_oldest s_count x_signs x_length x_position x_complete x_orders x_kinds x_numbers x_values) ++ wO cyJ oa r_out) ad r := by
  refine metH_of (by decide) (Nat.le_of_ble_eq_true rfl) ?_
  intro p e s m below meth c ls hC hr hlk hex hP hK hD hE hN hl
  have hC : CallFix p m c cL_key 5 s [.ref ob, .int p1, .int p2, .ref oa].toArray wA RL := hC
  obtain ⟨hx, hb, hml, hown, hts⟩ := id hC
  have hS : va_S (k_A ((wAll cyI cyC cyO ob n0 n1 n2 n3 t0 t1 t2 t3 s0 aR ro r1 r2 r3 x0 x1 x2 x3 x4 n_ones n_twos n_settings n_tick n_energy n_valuesPut t_ones t_twos t_settings t_tick t_energy t_valuesPut s_ring s_oldest s_count x_signs x_length x_position x_complete x_orders x_kinds x_numbers x_values) ++ wO cyJ oa o_out)) s.heap s.heap [] := va_S.rf
  have hl : lv_has ls 5 [(0, .ref ob), (1, .int p1), (2, .int p2), (3, .ref oa)] := hl
  have h := hf
  unfold fL_key at h
  have hK3 : va_K (dC, dI) vwCl (tyS cyI cyC cyO) s := hK.sub [0, 1, 2] rfl
  obtain ⟨k, z, hc, h⟩ := k_b2_e h
  refine lv_aload_n hx hb dL_key_0 rfl (lv_at hl 3 rfl) ?_
  refine lv_iconst (v := 0) hx hb dL_key_1 (by decide) ?_
  refine lv_aload_n hx hb dL_key_2 rfl (lv_at hl 0 rfl) ?_
  refine lv_iload_n hx hb dL_key_3 rfl (lv_at hl 1 rfl) ?_
  refine lv_iload_n hx hb dL_key_4 rfl (lv_at hl 2 rfl) ?_
  refine g_callT_V (As := [.int p1, .int p2]) (rest := [.int 0, .ref oa]) hC (mX4_key l dC dI cyI cyC cyO hl9 ad ob n0 n1 n2 n3 t0 t1 t2 t3 s0 aR ro r1 r2 r3 x0 x1 x2 x3 x4 n_ones n_twos n_settings n_tick n_energy n_valuesPut t_ones t_twos t_settings t_tick t_energy t_valuesPut s_ring s_oldest s_count x_signs x_length x_position x_complete x_orders x_kinds x_numbers x_values p1 p2 hc) q664 q665 q666 q71 q667 2 hdX4_key ⟨Nat.le_of_ble_eq_true rfl, Nat.le_of_ble_eq_true rfl⟩ ⟨Nat.le_of_ble_eq_true rfl, Nat.le_of_ble_eq_true rfl⟩ rfl rfl hl.1 (Nat.le_of_ble_eq_true rfl) (hP.sub (ws' := (wAll cyI cyC cyO ob n0 n1 n2 n3 t0 t1 t2 t3 s0 aR ro r1 r2 r3 x0 x1 x2 x3 x4 n_ones n_twos n_settings n_tick n_energy n_valuesPut t_ones t_twos t_settings t_tick t_energy t_valuesPut s_ring s_oldest s_count x_signs x_length x_position x_complete x_orders x_kinds x_numbers x_values)) [0, 1, 2, 3, 4, 5, 6, 7, 8, 9, 10, 11, 12, 13, 14, 15, 16, 17, 18, 19, 20, 21, 22, 23, 24, 25, 26, 27, 28, 29, 30, 31, 32, 33, 34, 35, 36, 37, 38, 39] rfl) hK3 (hD.sub (ws' := (wAll cyI cyC cyO ob n0 n1 n2 n3 t0 t1 t2 t3 s0 aR ro r1 r2 r3 x0 x1 x2 x3 x4 n_ones n_twos n_settings n_tick n_energy n_valuesPut t_ones t_twos t_settings t_tick t_energy t_valuesPut s_ring s_oldest s_count x_signs x_length x_position x_complete x_orders x_kinds x_numbers x_values)) [0, 1, 2, 3, 4, 5, 6, 7, 8, 9, 10, 11, 12, 13, 14, 15, 16, 17, 18, 19, 20, 21, 22, 23, 24, 25, 26, 27, 28, 29, 30, 31, 32, 33, 34, 35, 36, 37, 38, 39] (by decide) rfl) (va_recv hK3 hP (ci := 3) (q0 := 0) rfl rfl) hS dL_key_5 hE (fun E ce q9 H locs hX hPn hk hS hce hcv hcl => ?_) (fun H locs hk0 hPn hk hS => ?_)
  · have hP : va_P (dC, dI) vwCl ((wAll cyI cyC cyO ob n0 n1 n2 n3 t0 t1 t2 t3 s0 aR ro r1 r2 r3 x0 x1 x2 x3 x4 n_ones n_twos n_settings n_tick n_energy n_valuesPut t_ones t_twos t_settings t_tick t_energy t_valuesPut s_ring s_oldest s_count x_signs x_length x_position x_complete x_orders x_kinds x_numbers x_values) ++ wO cyJ oa o_out) H := k_repl hP hD [0, 1, 2, 3, 4, 5, 6, 7, 8, 9, 10, 11, 12, 13, 14, 15, 16, 17, 18, 19, 20, 21, 22, 23, 24, 25, 26, 27, 28, 29, 30, 31, 32, 33, 34, 35, 36, 37, 38, 39] rfl hk hPn [.inr 0, .inr 1, .inr 2, .inr 3, .inr 4, .inr 5, .inr 6, .inr 7, .inr 8, .inr 9, .inr 10, .inr 11, .inr 12, .inr 13, .inr 14, .inr 15, .inr 16, .inr 17, .inr 18, .inr 19, .inr 20, .inr 21, .inr 22, .inr 23, .inr 24, .inr 25, .inr 26, .inr 27, .inr 28, .inr 29, .inr 30, .inr 31, .inr 32, .inr 33, .inr 34, .inr 35, .inr 36, .inr 37, .inr 38, .inr 39, .inl 40] rfl (by decide)
    rcases hX with ⟨hk9, hE9⟩ | ⟨hk9, hE9⟩ | ⟨hk9, hE9⟩
    · subst hk9; subst hE9
      have h := k_if_f h (by decide)
      have h := k_if_f h (by decide)
      cases h
    · subst hk9; subst hE9
      have h := k_if_f h (by decide)
      have h := k_if_t h rfl
      obtain ⟨e0, e1⟩ := k_t2 h
      refine vx_catch hown [] ⟨0, 10, 13, 15⟩ [] (by rw [hex]; rfl) (fun z hz => nomatch hz) rfl (by decide) (hts _ q463) (k_castA hE) hce hcv hcl ?_
      refine lv_astore (lv' := [(4, .ref q9), (0, .ref ob), (1, .int p1), (2, .int p2), (3, .ref oa)]) hx hb dL_key_13 hl (by decide) rfl (fun ls hl => ?_)
      refine lv_iconst (v := 1) hx hb dL_key_15 (by decide) ?_
      exact g_retH hx hb hr hlk (Nat.le_of_ble_eq_true rfl) (Nat.le_of_ble_eq_true rfl) hS e0 (by rw [← e1]; exact hP) dL_key_16
    · subst hk9; subst hE9
      have h := k_if_f h (by decide)
      have h := k_if_f h (by decide)
      cases h
  · have hP : va_P (dC, dI) vwCl ((wAll cyI cyC cyO ob n0 n1 n2 n3 t0 t1 t2 t3 s0 aR ro r1 r2 r3 x0 x1 x2 x3 x4 n_ones n_twos n_settings n_tick n_energy n_valuesPut t_ones t_twos t_settings t_tick t_energy t_valuesPut s_ring s_oldest s_count x_signs x_length x_position x_complete x_orders x_kinds x_numbers x_values) ++ wO cyJ oa o_out) H := k_repl hP hD [0, 1, 2, 3, 4, 5, 6, 7, 8, 9, 10, 11, 12, 13, 14, 15, 16, 17, 18, 19, 20, 21, 22, 23, 24, 25, 26, 27, 28, 29, 30, 31, 32, 33, 34, 35, 36, 37, 38, 39] rfl hk hPn [.inr 0, .inr 1, .inr 2, .inr 3, .inr 4, .inr 5, .inr 6, .inr 7, .inr 8, .inr 9, .inr 10, .inr 11, .inr 12, .inr 13, .inr 14, .inr 15, .inr 16, .inr 17, .inr 18, .inr 19, .inr 20, .inr 21, .inr 22, .inr 23, .inr 24, .inr 25, .inr 26, .inr 27, .inr 28, .inr 29, .inr 30, .inr 31, .inr 32, .inr 33, .inr 34, .inr 35, .inr 36, .inr 37, .inr 38, .inr 39, .inl 40] rfl (by decide)
    have hD : va_D (k_A ((wAll cyI cyC cyO ob n0 n1 n2 n3 t0 t1 t2 t3 s0 aR ro r1 r2 r3 x0 x1 x2 x3 x4 n_ones n_twos n_settings n_tick n_energy n_valuesPut t_ones t_twos t_settings t_tick t_energy t_valuesPut s_ring s_oldest s_count x_signs x_length x_position x_complete x_orders x_kinds x_numbers x_values) ++ wO cyJ oa o_out)) ((wAll cyI cyC cyO ob n0 n1 n2 n3 t0 t1 t2 t3 s0 aR ro r1 r2 r3 x0 x1 x2 x3 x4 n_ones n_twos n_settings n_tick n_energy n_valuesPut t_ones t_twos t_settings t_tick t_energy t_valuesPut s_ring s_oldest s_count x_signs x_length x_position x_complete x_orders x_kinds x_numbers x_values) ++ wO cyJ oa o_out) := k_Dm hD rfl
    have h := k_if_t h hk0.symm
    obtain ⟨e0, e1⟩ := k_t2 h
    refine lv_i2l hx hb dL_key_8 rfl ?_
    refine va_last hx hb hK hP hD hS 40 3 rfl rfl (by unfold vp_in; decide) dL_key_9 (fun H locs hP hD hS => ?_)
    have hP : va_P (dC, dI) vwCl ((wAll cyI cyC cyO ob n0 n1 n2 n3 t0 t1 t2 t3 s0 aR ro r1 r2 r3 x0 x1 x2 x3 x4 n_ones n_twos n_settings n_tick n_energy n_valuesPut t_ones t_twos t_settings t_tick t_energy t_valuesPut s_ring s_oldest s_count x_signs x_length x_position x_complete x_orders x_kinds x_numbers x_values) ++ wO cyJ oa (vp_updL o_out (0 : Int32).toNatClampNeg z.toInt64)) H := hP
    refine lv_goto (tgt := 17) hx hb dL_key_10 (by decide) ?_
    refine lv_iconst (v := 0) hx hb dL_key_17 (by decide) ?_
    exact g_retH hx hb hr hlk (Nat.le_of_ble_eq_true rfl) (Nat.le_of_ble_eq_true rfl) hS e0 (by rw [← e1]; exact hP) dL_key_18
def fL_history (n_ones : Nat → Int32) (n_twos : Nat → Int32) (n_settings : Nat → Int32) (n_tick : Int32) (o_out : Nat → Int64) (p1 : Int32) (p2 : Int32) : Option (Int32 × (Nat → Int64)) :=
  k_b2 (fX4_history n_ones n_twos n_settings n_tick p1 p2) fun (k : Nat) (z : Int32)  =>
  k_if (k = 0) (some (0, vp_updL o_out (0 : Int32).toNatClampNeg z.toInt64)) <|
  k_if (k = 2) (some (1, o_out)) <|
  none
theorem hdL_history : yL_history.cls ≠ "java/lang/invoke/MethodHandle" ∧ yL_history.cls ≠ "java/lang/invoke/VarHandle" ∧ (parseMethodDescriptor yL_history.desc).map (fun d => d.parameters.length) = some 4 := by decide +kernel
set_option maxRecDepth 100000 in
set_option maxHeartbeats 4000000 in
theorem mL_history (l : Launch) (dC : Nat → ClassId) (dI : Nat → Nat → Nat) (cyI cyC cyO cyJ : ClassId) (hl9 : l.stackTraces = false) (ad : Nat → Nat) (ob : Nat) (n0 : Nat) (n1 : Nat) (n2 : Nat) (n3 : Nat) (t0 : Nat) (t1 : Nat) (t2 : Nat) (t3 : Nat) (s0 : Nat) (aR : Nat) (ro : Nat → Nat) (r1 : Nat → Nat) (r2 : Nat → Nat) (r3 : Nat → Nat) (x0 : Nat) (x1 : Nat) (x2 : Nat) (x3 : Nat) (x4 : Nat) (oa : Nat) (n_ones : Nat → Int32) (n_twos : Nat → Int32) (n_settings : Nat → Int32) (n_tick : Int32) (n_energy : Int32) (n_valuesPut : Int32) (t_ones : Nat → Int32) (t_twos : Nat → Int32) (t_settings : Nat → Int32) (t_tick : Int32) (t_energy : Int32) (t_valuesPut : Int32) (s_ring : Nat → SV) (s_oldest : Int32) (s_count : Int32) (x_signs : Nat → Int32) (x_length : Int32) (x_position : Int32) (x_complete : Int32) (x_orders : Int32) (x_kinds : Nat → Int32) (x_numbers : Nat → Int32) (x_values : Nat → Int32) (o_out : Nat → Int64) (p1 : Int32) (p2 : Int32) {r : Int32} {r_out : Nat → Int64}  (hf : fL_history n_ones n_twos n_settings n_tick o_out p1 p2 = some (r, r_out)) : MetH l yL_history cL_history 5 [(0, 10, 13, 15)] 8 124 1 6 [.ref ob, .int p1, .int p2, .ref oa] (dC, dI) (tyL cyI cyC cyO cyJ) ((wAll cyI cyC cyO ob n0 n1 n2 n3 t0 t1 t2 t3 s0 aR ro r1 r2 r3 x0 x1 x2 x3 x4 n_ones n_twos n_settings n_tick n_energy n_valuesPut t_ones t_twos t_settings t_tick t_energy t_valuesPut s_ring s_oldest s_count x_signs x_length x_position x_complete x_orders x_kinds x_numbers x_values) ++ wO cyJ oa o_out) ((wAll cyI cyC cyO ob n0 n1 n2 n3 t0 t1 t2 t3 s0 aR ro r1 r2 r3 x0 x1 x2 x3 x4 n_ones n_twos n_settings n_tick n_energy n_valuesPut t_ones t_twos t_settings t_tick t_energy t_valuesPut s_ring s_oldest s_count x_signs x_length x_position x_complete x_orders x_kinds x_numbers x_values) ++ wO cyJ oa r_out) ad r := by
  refine metH_of (by decide) (Nat.le_of_ble_eq_true rfl) ?_
  intro p e s m below meth c ls hC hr hlk hex hP hK hD hE hN hl
  have hC : CallFix p m c cL_history 5 s [.ref ob, .int p1, .int p2, .ref oa].toArray wA RL := hC
  obtain ⟨hx, hb, hml, hown, hts⟩ := id hC
  have hS : va_S (k_A ((wAll cyI cyC cyO ob n0 n1 n2 n3 t0 t1 t2 t3 s0 aR ro r1 r2 r3 x0 x1 x2 x3 x4 n_ones n_twos n_settings n_tick n_energy n_valuesPut t_ones t_twos t_settings t_tick t_energy t_valuesPut s_ring s_oldest s_count x_signs x_length x_position x_complete x_orders x_kinds x_numbers x_values) ++ wO cyJ oa o_out)) s.heap s.heap [] := va_S.rf
  have hl : lv_has ls 5 [(0, .ref ob), (1, .int p1), (2, .int p2), (3, .ref oa)] := hl
  have h := hf
  unfold fL_history at h
  have hK3 : va_K (dC, dI) vwCl (tyS cyI cyC cyO) s := hK.sub [0, 1, 2] rfl
  obtain ⟨k, z, hc, h⟩ := k_b2_e h
  refine lv_aload_n hx hb dL_history_0 rfl (lv_at hl 3 rfl) ?_
  refine lv_iconst (v := 0) hx hb dL_history_1 (by decide) ?_
  refine lv_aload_n hx hb dL_history_2 rfl (lv_at hl 0 rfl) ?_
  refine lv_iload_n hx hb dL_history_3 rfl (lv_at hl 1 rfl) ?_
  refine lv_iload_n hx hb dL_history_4 rfl (lv_at hl 2 rfl) ?_
  refine g_callT_V (As := [.int p1, .int p2]) (rest := [.int 0, .ref oa]) hC (mX4_history l dC dI cyI cyC cyO hl9 ad ob n0 n1 n2 n3 t0 t1 t2 t3 s0 aR ro r1 r2 r3 x0 x1 x2 x3 x4 n_ones n_twos n_settings n_tick n_energy n_valuesPut t_ones t_twos t_settings t_tick t_energy t_valuesPut s_ring s_oldest s_count x_signs x_length x_position x_complete x_orders x_kinds x_numbers x_values p1 p2 hc) q671 q672 q673 q71 q674 2 hdX4_history ⟨Nat.le_of_ble_eq_true rfl, Nat.le_of_ble_eq_true rfl⟩ ⟨Nat.le_of_ble_eq_true rfl, Nat.le_of_ble_eq_true rfl⟩ rfl rfl hl.1 (Nat.le_of_ble_eq_true rfl) (hP.sub (ws' := (wAll cyI cyC cyO ob n0 n1 n2 n3 t0 t1 t2 t3 s0 aR ro r1 r2 r3 x0 x1 x2 x3 x4 n_ones n_twos n_settings n_tick n_energy n_valuesPut t_ones t_twos t_settings t_tick t_energy t_valuesPut s_ring s_oldest s_count x_signs x_length x_position x_complete x_orders x_kinds x_numbers x_values)) [0, 1, 2, 3, 4, 5, 6, 7, 8, 9, 10, 11, 12, 13, 14, 15, 16, 17, 18, 19, 20, 21, 22, 23, 24, 25, 26, 27, 28, 29, 30, 31, 32, 33, 34, 35, 36, 37, 38, 39] rfl) hK3 (hD.sub (ws' := (wAll cyI cyC cyO ob n0 n1 n2 n3 t0 t1 t2 t3 s0 aR ro r1 r2 r3 x0 x1 x2 x3 x4 n_ones n_twos n_settings n_tick n_energy n_valuesPut t_ones t_twos t_settings t_tick t_energy t_valuesPut s_ring s_oldest s_count x_signs x_length x_position x_complete x_orders x_kinds x_numbers x_values)) [0, 1, 2, 3, 4, 5, 6, 7, 8, 9, 10, 11, 12, 13, 14, 15, 16, 17, 18, 19, 20, 21, 22, 23, 24, 25, 26, 27, 28, 29, 30, 31, 32, 33, 34, 35, 36, 37, 38, 39] (by decide) rfl) (va_recv hK3 hP (ci := 3) (q0 := 0) rfl rfl) hS dL_history_5 hE (fun E ce q9 H locs hX hPn hk hS hce hcv hcl => ?_) (fun H locs hk0 hPn hk hS => ?_)
  · have hP : va_P (dC, dI) vwCl ((wAll cyI cyC cyO ob n0 n1 n2 n3 t0 t1 t2 t3 s0 aR ro r1 r2 r3 x0 x1 x2 x3 x4 n_ones n_twos n_settings n_tick n_energy n_valuesPut t_ones t_twos t_settings t_tick t_energy t_valuesPut s_ring s_oldest s_count x_signs x_length x_position x_complete x_orders x_kinds x_numbers x_values) ++ wO cyJ oa o_out) H := k_repl hP hD [0, 1, 2, 3, 4, 5, 6, 7, 8, 9, 10, 11, 12, 13, 14, 15, 16, 17, 18, 19, 20, 21, 22, 23, 24, 25, 26, 27, 28, 29, 30, 31, 32, 33, 34, 35, 36, 37, 38, 39] rfl hk hPn [.inr 0, .inr 1, .inr 2, .inr 3, .inr 4, .inr 5, .inr 6, .inr 7, .inr 8, .inr 9, .inr 10, .inr 11, .inr 12, .inr 13, .inr 14, .inr 15, .inr 16, .inr 17, .inr 18, .inr 19, .inr 20, .inr 21, .inr 22, .inr 23, .inr 24, .inr 25, .inr 26, .inr 27, .inr 28, .inr 29, .inr 30, .inr 31, .inr 32, .inr 33, .inr 34, .inr 35, .inr 36, .inr 37, .inr 38, .inr 39, .inl 40] rfl (by decide)
    rcases hX with ⟨hk9, hE9⟩ | ⟨hk9, hE9⟩ | ⟨hk9, hE9⟩
    · subst hk9; subst hE9
      have h := k_if_f h (by decide)
      have h := k_if_f h (by decide)
      cases h
    · subst hk9; subst hE9
      have h := k_if_f h (by decide)
      have h := k_if_t h rfl
      obtain ⟨e0, e1⟩ := k_t2 h
      refine vx_catch hown [] ⟨0, 10, 13, 15⟩ [] (by rw [hex]; rfl) (fun z hz => nomatch hz) rfl (by decide) (hts _ q463) (k_castA hE) hce hcv hcl ?_
      refine lv_astore (lv' := [(4, .ref q9), (0, .ref ob), (1, .int p1), (2, .int p2), (3, .ref oa)]) hx hb dL_history_13 hl (by decide) rfl (fun ls hl => ?_)
      refine lv_iconst (v := 1) hx hb dL_history_15 (by decide) ?_
      exact g_retH hx hb hr hlk (Nat.le_of_ble_eq_true rfl) (Nat.le_of_ble_eq_true rfl) hS e0 (by rw [← e1]; exact hP) dL_history_16
    · subst hk9; subst hE9
      have h := k_if_f h (by decide)
      have h := k_if_f h (by decide)
      cases h
  · have hP : va_P (dC, dI) vwCl ((wAll cyI cyC cyO ob n0 n1 n2 n3 t0 t1 t2 t3 s0 aR ro r1 r2 r3 x0 x1 x2 x3 x4 n_ones n_twos n_settings n_tick n_energy n_valuesPut t_ones t_twos t_settings t_tick t_energy t_valuesPut s_ring s_oldest s_count x_signs x_length x_position x_complete x_orders x_kinds x_numbers x_values) ++ wO cyJ oa o_out) H := k_repl hP hD [0, 1, 2, 3, 4, 5, 6, 7, 8, 9, 10, 11, 12, 13, 14, 15, 16, 17, 18, 19, 20, 21, 22, 23, 24, 25, 26, 27, 28, 29, 30, 31, 32, 33, 34, 35, 36, 37, 38, 39] rfl hk hPn [.inr 0, .inr 1, .inr 2, .inr 3, .inr 4, .inr 5, .inr 6, .inr 7, .inr 8, .inr 9, .inr 10, .inr 11, .inr 12, .inr 13, .inr 14, .inr 15, .inr 16, .inr 17, .inr 18, .inr 19, .inr 20, .inr 21, .inr 22, .inr 23, .inr 24, .inr 25, .inr 26, .inr 27, .inr 28, .inr 29, .inr 30, .inr 31, .inr 32, .inr 33, .inr 34, .inr 35, .inr 36, .inr 37, .inr 38, .inr 39, .inl 40] rfl (by decide)
    have hD : va_D (k_A ((wAll cyI cyC cyO ob n0 n1 n2 n3 t0 t1 t2 t3 s0 aR ro r1 r2 r3 x0 x1 x2 x3 x4 n_ones n_twos n_settings n_tick n_energy n_valuesPut t_ones t_twos t_settings t_tick t_energy t_valuesPut s_ring s_oldest s_count x_signs x_length x_position x_complete x_orders x_kinds x_numbers x_values) ++ wO cyJ oa o_out)) ((wAll cyI cyC cyO ob n0 n1 n2 n3 t0 t1 t2 t3 s0 aR ro r1 r2 r3 x0 x1 x2 x3 x4 n_ones n_twos n_settings n_tick n_energy n_valuesPut t_ones t_twos t_settings t_tick t_energy t_valuesPut s_ring s_oldest s_count x_signs x_length x_position x_complete x_orders x_kinds x_numbers x_values) ++ wO cyJ oa o_out) := k_Dm hD rfl
    have h := k_if_t h hk0.symm
    obtain ⟨e0, e1⟩ := k_t2 h
    refine lv_i2l hx hb dL_history_8 rfl ?_
    refine va_last hx hb hK hP hD hS 40 3 rfl rfl (by unfold vp_in; decide) dL_history_9 (fun H locs hP hD hS => ?_)
    have hP : va_P (dC, dI) vwCl ((wAll cyI cyC cyO ob n0 n1 n2 n3 t0 t1 t2 t3 s0 aR ro r1 r2 r3 x0 x1 x2 x3 x4 n_ones n_twos n_settings n_tick n_energy n_valuesPut t_ones t_twos t_settings t_tick t_energy t_valuesPut s_ring s_oldest s_count x_signs x_length x_position x_complete x_orders x_kinds x_numbers x_values) ++ wO cyJ oa (vp_updL o_out (0 : Int32).toNatClampNeg z.toInt64)) H := hP
    refine lv_goto (tgt := 17) hx hb dL_history_10 (by decide) ?_
    refine lv_iconst (v := 0) hx hb dL_history_17 (by decide) ?_
    exact g_retH hx hb hr hlk (Nat.le_of_ble_eq_true rfl) (Nat.le_of_ble_eq_true rfl) hS e0 (by rw [← e1]; exact hP) dL_history_18
def fL_count (n_ones : Nat → Int32) (n_twos : Nat → Int32) (n_settings : Nat → Int32) (n_tick : Int32) (n_energy : Int32) (n_valuesPut : Int32) (s_count : Int32) (o_out : Nat → Int64) (p1 : Int32) : Option (Int32 × (Nat → Int64)) :=
  k_b2 (fX4_count n_ones n_twos n_settings n_tick n_energy n_valuesPut s_count p1) fun (k : Nat) (z : Int32)  =>
  k_if (k = 0) (some (0, vp_updL o_out (0 : Int32).toNatClampNeg z.toInt64)) <|
  k_if (k = 2) (some (1, o_out)) <|
  none
theorem hdL_count : yL_count.cls ≠ "java/lang/invoke/MethodHandle" ∧ yL_count.cls ≠ "java/lang/invoke/VarHandle" ∧ (parseMethodDescriptor yL_count.desc).map (fun d => d.parameters.length) = some 3 := by decide +kernel
set_option maxRecDepth 100000 in
set_option maxHeartbeats 4000000 in
theorem mL_count (l : Launch) (dC : Nat → ClassId) (dI : Nat → Nat → Nat) (cyI cyC cyO cyJ : ClassId) (hl9 : l.stackTraces = false) (ad : Nat → Nat) (ob : Nat) (n0 : Nat) (n1 : Nat) (n2 : Nat) (n3 : Nat) (t0 : Nat) (t1 : Nat) (t2 : Nat) (t3 : Nat) (s0 : Nat) (aR : Nat) (ro : Nat → Nat) (r1 : Nat → Nat) (r2 : Nat → Nat) (r3 : Nat → Nat) (x0 : Nat) (x1 : Nat) (x2 : Nat) (x3 : Nat) (x4 : Nat) (oa : Nat) (n_ones : Nat → Int32) (n_twos : Nat → Int32) (n_settings : Nat → Int32) (n_tick : Int32) (n_energy : Int32) (n_valuesPut : Int32) (t_ones : Nat → Int32) (t_twos : Nat → Int32) (t_settings : Nat → Int32) (t_tick : Int32) (t_energy : Int32) (t_valuesPut : Int32) (s_ring : Nat → SV) (s_oldest : Int32) (s_count : Int32) (x_signs : Nat → Int32) (x_length : Int32) (x_position : Int32) (x_complete : Int32) (x_orders : Int32) (x_kinds : Nat → Int32) (x_numbers : Nat → Int32) (x_values : Nat → Int32) (o_out : Nat → Int64) (p1 : Int32) {r : Int32} {r_out : Nat → Int64}  (hf : fL_count n_ones n_twos n_settings n_tick n_energy n_valuesPut s_count o_out p1 = some (r, r_out)) : MetH l yL_count cL_count 4 [(0, 9, 12, 15)] 8 134 1 6 [.ref ob, .int p1, .ref oa] (dC, dI) (tyL cyI cyC cyO cyJ) ((wAll cyI cyC cyO ob n0 n1 n2 n3 t0 t1 t2 t3 s0 aR ro r1 r2 r3 x0 x1 x2 x3 x4 n_ones n_twos n_settings n_tick n_energy n_valuesPut t_ones t_twos t_settings t_tick t_energy t_valuesPut s_ring s_oldest s_count x_signs x_length x_position x_complete x_orders x_kinds x_numbers x_values) ++ wO cyJ oa o_out) ((wAll cyI cyC cyO ob n0 n1 n2 n3 t0 t1 t2 t3 s0 aR ro r1 r2 r3 x0 x1 x2 x3 x4 n_ones n_twos n_settings n_tick n_energy n_valuesPut t_ones t_twos t_settings t_tick t_energy t_valuesPut s_ring s_oldest s_count x_signs x_length x_position x_complete x_orders x_kinds x_numbers x_values) ++ wO cyJ oa r_out) ad r := by
  refine metH_of (by decide) (Nat.le_of_ble_eq_true rfl) ?_
  intro p e s m below meth c ls hC hr hlk hex hP hK hD hE hN hl
  have hC : CallFix p m c cL_count 4 s [.ref ob, .int p1, .ref oa].toArray wA RL := hC
  obtain ⟨hx, hb, hml, hown, hts⟩ := id hC
  have hS : va_S (k_A ((wAll cyI cyC cyO ob n0 n1 n2 n3 t0 t1 t2 t3 s0 aR ro r1 r2 r3 x0 x1 x2 x3 x4 n_ones n_twos n_settings n_tick n_energy n_valuesPut t_ones t_twos t_settings t_tick t_energy t_valuesPut s_ring s_oldest s_count x_signs x_length x_position x_complete x_orders x_kinds x_numbers x_values) ++ wO cyJ oa o_out)) s.heap s.heap [] := va_S.rf
  have hl : lv_has ls 4 [(0, .ref ob), (1, .int p1), (2, .ref oa)] := hl
  have h := hf
  unfold fL_count at h
  have hK3 : va_K (dC, dI) vwCl (tyS cyI cyC cyO) s := hK.sub [0, 1, 2] rfl
  obtain ⟨k, z, hc, h⟩ := k_b2_e h
  refine lv_aload_n hx hb dL_count_0 rfl (lv_at hl 2 rfl) ?_
  refine lv_iconst (v := 0) hx hb dL_count_1 (by decide) ?_
  refine lv_aload_n hx hb dL_count_2 rfl (lv_at hl 0 rfl) ?_
  refine lv_iload_n hx hb dL_count_3 rfl (lv_at hl 1 rfl) ?_
  refine g_callT_V (As := [.int p1]) (rest := [.int 0, .ref oa]) hC (mX4_count l dC dI cyI cyC cyO hl9 ad ob n0 n1 n2 n3 t0 t1 t2 t3 s0 aR ro r1 r2 r3 x0 x1 x2 x3 x4 n_ones n_twos n_settings n_tick n_energy n_valuesPut t_ones t_twos t_settings t_tick t_energy t_valuesPut s_ring s_oldest s_count x_signs x_length x_position x_complete x_orders x_kinds x_numbers x_values p1 hc) q678 q679 q680 q71 q681 1 hdX4_count ⟨Nat.le_of_ble_eq_true rfl, Nat.le_of_ble_eq_true rfl⟩ ⟨Nat.le_of_ble_eq_true rfl, Nat.le_of_ble_eq_true rfl⟩ rfl rfl hl.1 (Nat.le_of_ble_eq_true rfl) (hP.sub (ws' := (wAll cyI cyC cyO ob n0 n1 n2 n3 t0 t1 t2 t3 s0 aR ro r1 r2 r3 x0 x1 x2 x3 x4 n_ones n_twos n_settings n_tick n_energy n_valuesPut t_ones t_twos t_settings t_tick t_energy t_valuesPut s_ring s_oldest s_count x_signs x_length x_position x_complete x_orders x_kinds x_numbers x_values)) [0, 1, 2, 3, 4, 5, 6, 7, 8, 9, 10, 11, 12, 13, 14, 15, 16, 17, 18, 19, 20, 21, 22, 23, 24, 25, 26, 27, 28, 29, 30, 31, 32, 33, 34, 35, 36, 37, 38, 39] rfl) hK3 (hD.sub (ws' := (wAll cyI cyC cyO ob n0 n1 n2 n3 t0 t1 t2 t3 s0 aR ro r1 r2 r3 x0 x1 x2 x3 x4 n_ones n_twos n_settings n_tick n_energy n_valuesPut t_ones t_twos t_settings t_tick t_energy t_valuesPut s_ring s_oldest s_count x_signs x_length x_position x_complete x_orders x_kinds x_numbers x_values)) [0, 1, 2, 3, 4, 5, 6, 7, 8, 9, 10, 11, 12, 13, 14, 15, 16, 17, 18, 19, 20, 21, 22, 23, 24, 25, 26, 27, 28, 29, 30, 31, 32, 33, 34, 35, 36, 37, 38, 39] (by decide) rfl) (va_recv hK3 hP (ci := 3) (q0 := 0) rfl rfl) hS dL_count_4 hE (fun E ce q9 H locs hX hPn hk hS hce hcv hcl => ?_) (fun H locs hk0 hPn hk hS => ?_)
  · have hP : va_P (dC, dI) vwCl ((wAll cyI cyC cyO ob n0 n1 n2 n3 t0 t1 t2 t3 s0 aR ro r1 r2 r3 x0 x1 x2 x3 x4 n_ones n_twos n_settings n_tick n_energy n_valuesPut t_ones t_twos t_settings t_tick t_energy t_valuesPut s_ring s_oldest s_count x_signs x_length x_position x_complete x_orders x_kinds x_numbers x_values) ++ wO cyJ oa o_out) H := k_repl hP hD [0, 1, 2, 3, 4, 5, 6, 7, 8, 9, 10, 11, 12, 13, 14, 15, 16, 17, 18, 19, 20, 21, 22, 23, 24, 25, 26, 27, 28, 29, 30, 31, 32, 33, 34, 35, 36, 37, 38, 39] rfl hk hPn [.inr 0, .inr 1, .inr 2, .inr 3, .inr 4, .inr 5, .inr 6, .inr 7, .inr 8, .inr 9, .inr 10, .inr 11, .inr 12, .inr 13, .inr 14, .inr 15, .inr 16, .inr 17, .inr 18, .inr 19, .inr 20, .inr 21, .inr 22, .inr 23, .inr 24, .inr 25, .inr 26, .inr 27, .inr 28, .inr 29, .inr 30, .inr 31, .inr 32, .inr 33, .inr 34, .inr 35, .inr 36, .inr 37, .inr 38, .inr 39, .inl 40] rfl (by decide)
    rcases hX with ⟨hk9, hE9⟩ | ⟨hk9, hE9⟩ | ⟨hk9, hE9⟩
    · subst hk9; subst hE9
      have h := k_if_f h (by decide)
      have h := k_if_f h (by decide)
      cases h
    · subst hk9; subst hE9
      have h := k_if_f h (by decide)
      have h := k_if_t h rfl
      obtain ⟨e0, e1⟩ := k_t2 h
      refine vx_catch hown [] ⟨0, 9, 12, 15⟩ [] (by rw [hex]; rfl) (fun z hz => nomatch hz) rfl (by decide) (hts _ q463) (k_castA hE) hce hcv hcl ?_
      refine lv_astore_n (lv' := [(3, .ref q9), (0, .ref ob), (1, .int p1), (2, .ref oa)]) hx hb dL_count_12 rfl hl (by decide) rfl (fun ls hl => ?_)
      refine lv_iconst (v := 1) hx hb dL_count_13 (by decide) ?_
      exact g_retH hx hb hr hlk (Nat.le_of_ble_eq_true rfl) (Nat.le_of_ble_eq_true rfl) hS e0 (by rw [← e1]; exact hP) dL_count_14
    · subst hk9; subst hE9
      have h := k_if_f h (by decide)
      have h := k_if_f h (by decide)
      cases h
  · have hP : va_P (dC, dI) vwCl ((wAll cyI cyC cyO ob n0 n1 n2 n3 t0 t1 t2 t3 s0 aR ro r1 r2 r3 x0 x1 x2 x3 x4 n_ones n_twos n_settings n_tick n_energy n_valuesPut t_ones t_twos t_settings t_tick t_energy t_valuesPut s_ring s_oldest s_count x_signs x_length x_position x_complete x_orders x_kinds x_numbers x_values) ++ wO cyJ oa o_out) H := k_repl hP hD [0, 1, 2, 3, 4, 5, 6, 7, 8, 9, 10, 11, 12, 13, 14, 15, 16, 17, 18, 19, 20, 21, 22, 23, 24, 25, 26, 27, 28, 29, 30, 31, 32, 33, 34, 35, 36, 37, 38, 39] rfl hk hPn [.inr 0, .inr 1, .inr 2, .inr 3, .inr 4, .inr 5, .inr 6, .inr 7, .inr 8, .inr 9, .inr 10, .inr 11, .inr 12, .inr 13, .inr 14, .inr 15, .inr 16, .inr 17, .inr 18, .inr 19, .inr 20, .inr 21, .inr 22, .inr 23, .inr 24, .inr 25, .inr 26, .inr 27, .inr 28, .inr 29, .inr 30, .inr 31, .inr 32, .inr 33, .inr 34, .inr 35, .inr 36, .inr 37, .inr 38, .inr 39, .inl 40] rfl (by decide)
    have hD : va_D (k_A ((wAll cyI cyC cyO ob n0 n1 n2 n3 t0 t1 t2 t3 s0 aR ro r1 r2 r3 x0 x1 x2 x3 x4 n_ones n_twos n_settings n_tick n_energy n_valuesPut t_ones t_twos t_settings t_tick t_energy t_valuesPut s_ring s_oldest s_count x_signs x_length x_position x_complete x_orders x_kinds x_numbers x_values) ++ wO cyJ oa o_out)) ((wAll cyI cyC cyO ob n0 n1 n2 n3 t0 t1 t2 t3 s0 aR ro r1 r2 r3 x0 x1 x2 x3 x4 n_ones n_twos n_settings n_tick n_energy n_valuesPut t_ones t_twos t_settings t_tick t_energy t_valuesPut s_ring s_oldest s_count x_signs x_length x_position x_complete x_orders x_kinds x_numbers x_values) ++ wO cyJ oa o_out) := k_Dm hD rfl
    have h := k_if_t h hk0.symm
    obtain ⟨e0, e1⟩ := k_t2 h
    refine lv_i2l hx hb dL_count_7 rfl ?_
    refine va_last hx hb hK hP hD hS 40 3 rfl rfl (by unfold vp_in; decide) dL_count_8 (fun H locs hP hD hS => ?_)
    have hP : va_P (dC, dI) vwCl ((wAll cyI cyC cyO ob n0 n1 n2 n3 t0 t1 t2 t3 s0 aR ro r1 r2 r3 x0 x1 x2 x3 x4 n_ones n_twos n_settings n_tick n_energy n_valuesPut t_ones t_twos t_settings t_tick t_energy t_valuesPut s_ring s_oldest s_count x_signs x_length x_position x_complete x_orders x_kinds x_numbers x_values) ++ wO cyJ oa (vp_updL o_out (0 : Int32).toNatClampNeg z.toInt64)) H := hP
    refine lv_goto (tgt := 15) hx hb dL_count_9 (by decide) ?_
    refine lv_iconst (v := 0) hx hb dL_count_15 (by decide) ?_
    exact g_retH hx hb hr hlk (Nat.le_of_ble_eq_true rfl) (Nat.le_of_ble_eq_true rfl) hS e0 (by rw [← e1]; exact hP) dL_count_16
def fL_setting (n_settings : Nat → Int32) (o_out : Nat → Int64) (p1 : Int32) : Option (Int32 × (Nat → Int64)) :=
  k_b2 (fX4_setting n_settings p1) fun (k : Nat) (z : Int32)  =>
  k_if (k = 0) (some (0, vp_updL o_out (0 : Int32).toNatClampNeg z.toInt64)) <|
  k_if (k = 1) (some (1, o_out)) <|
  none
theorem hdL_setting : yL_setting.cls ≠ "java/lang/invoke/MethodHandle" ∧ yL_setting.cls ≠ "java/lang/invoke/VarHandle" ∧ (parseMethodDescriptor yL_setting.desc).map (fun d => d.parameters.length) = some 3 := by decide +kernel
set_option maxRecDepth 100000 in
set_option maxHeartbeats 4000000 in
theorem mL_setting (l : Launch) (dC : Nat → ClassId) (dI : Nat → Nat → Nat) (cyI cyC cyO cyJ : ClassId) (hl9 : l.stackTraces = false) (ad : Nat → Nat) (ob : Nat) (n0 : Nat) (n1 : Nat) (n2 : Nat) (n3 : Nat) (t0 : Nat) (t1 : Nat) (t2 : Nat) (t3 : Nat) (s0 : Nat) (aR : Nat) (ro : Nat → Nat) (r1 : Nat → Nat) (r2 : Nat → Nat) (r3 : Nat → Nat) (x0 : Nat) (x1 : Nat) (x2 : Nat) (x3 : Nat) (x4 : Nat) (oa : Nat) (n_ones : Nat → Int32) (n_twos : Nat → Int32) (n_settings : Nat → Int32) (n_tick : Int32) (n_energy : Int32) (n_valuesPut : Int32) (t_ones : Nat → Int32) (t_twos : Nat → Int32) (t_settings : Nat → Int32) (t_tick : Int32) (t_energy : Int32) (t_valuesPut : Int32) (s_ring : Nat → SV) (s_oldest : Int32) (s_count : Int32) (x_signs : Nat → Int32) (x_length : Int32) (x_position : Int32) (x_complete : Int32) (x_orders : Int32) (x_kinds : Nat → Int32) (x_numbers : Nat → Int32) (x_values : Nat → Int32) (o_out : Nat → Int64) (p1 : Int32) {r : Int32} {r_out : Nat → Int64}  (hf : fL_setting n_settings o_out p1 = some (r, r_out)) : MetH l yL_setting cL_setting 4 [(0, 9, 12, 13)] 8 123 1 6 [.ref ob, .int p1, .ref oa] (dC, dI) (tyL cyI cyC cyO cyJ) ((wAll cyI cyC cyO ob n0 n1 n2 n3 t0 t1 t2 t3 s0 aR ro r1 r2 r3 x0 x1 x2 x3 x4 n_ones n_twos n_settings n_tick n_energy n_valuesPut t_ones t_twos t_settings t_tick t_energy t_valuesPut s_ring s_oldest s_count x_signs x_length x_position x_complete x_orders x_kinds x_numbers x_values) ++ wO cyJ oa o_out) ((wAll cyI cyC cyO ob n0 n1 n2 n3 t0 t1 t2 t3 s0 aR ro r1 r2 r3 x0 x1 x2 x3 x4 n_ones n_twos n_settings n_tick n_energy n_valuesPut t_ones t_twos t_settings t_tick t_energy t_valuesPut s_ring s_oldest s_count x_signs x_length x_position x_complete x_orders x_kinds x_numbers x_values) ++ wO cyJ oa r_out) ad r := by
  refine metH_of (by decide) (Nat.le_of_ble_eq_true rfl) ?_
  intro p e s m below meth c ls hC hr hlk hex hP hK hD hE hN hl
  have hC : CallFix p m c cL_setting 4 s [.ref ob, .int p1, .ref oa].toArray wA RL := hC
  obtain ⟨hx, hb, hml, hown, hts⟩ := id hC
  have hS : va_S (k_A ((wAll cyI cyC cyO ob n0 n1 n2 n3 t0 t1 t2 t3 s0 aR ro r1 r2 r3 x0 x1 x2 x3 x4 n_ones n_twos n_settings n_tick n_energy n_valuesPut t_ones t_twos t_settings t_tick t_energy t_valuesPut s_ring s_oldest s_count x_signs x_length x_position x_complete x_orders x_kinds x_numbers x_values) ++ wO cyJ oa o_out)) s.heap s.heap [] := va_S.rf
  have hl : lv_has ls 4 [(0, .ref ob), (1, .int p1), (2, .ref oa)] := hl
  have h := hf
  unfold fL_setting at h
  have hK3 : va_K (dC, dI) vwCl (tyS cyI cyC cyO) s := hK.sub [0, 1, 2] rfl
  obtain ⟨k, z, hc, h⟩ := k_b2_e h
  refine lv_aload_n hx hb dL_setting_0 rfl (lv_at hl 2 rfl) ?_
  refine lv_iconst (v := 0) hx hb dL_setting_1 (by decide) ?_
  refine lv_aload_n hx hb dL_setting_2 rfl (lv_at hl 0 rfl) ?_
  refine lv_iload_n hx hb dL_setting_3 rfl (lv_at hl 1 rfl) ?_
  refine g_callT_V (As := [.int p1]) (rest := [.int 0, .ref oa]) hC (mX4_setting l dC dI cyI cyC cyO hl9 ad ob n0 n1 n2 n3 t0 t1 t2 t3 s0 aR ro r1 r2 r3 x0 x1 x2 x3 x4 n_ones n_twos n_settings n_tick n_energy n_valuesPut t_ones t_twos t_settings t_tick t_energy t_valuesPut s_ring s_oldest s_count x_signs x_length x_position x_complete x_orders x_kinds x_numbers x_values p1 hc) q685 q686 q687 q71 q688 1 hdX4_setting ⟨Nat.le_of_ble_eq_true rfl, Nat.le_of_ble_eq_true rfl⟩ ⟨Nat.le_of_ble_eq_true rfl, Nat.le_of_ble_eq_true rfl⟩ rfl rfl hl.1 (Nat.le_of_ble_eq_true rfl) (hP.sub (ws' := (wAll cyI cyC cyO ob n0 n1 n2 n3 t0 t1 t2 t3 s0 aR ro r1 r2 r3 x0 x1 x2 x3 x4 n_ones n_twos n_settings n_tick n_energy n_valuesPut t_ones t_twos t_settings t_tick t_energy t_valuesPut s_ring s_oldest s_count x_signs x_length x_position x_complete x_orders x_kinds x_numbers x_values)) [0, 1, 2, 3, 4, 5, 6, 7, 8, 9, 10, 11, 12, 13, 14, 15, 16, 17, 18, 19, 20, 21, 22, 23, 24, 25, 26, 27, 28, 29, 30, 31, 32, 33, 34, 35, 36, 37, 38, 39] rfl) hK3 (hD.sub (ws' := (wAll cyI cyC cyO ob n0 n1 n2 n3 t0 t1 t2 t3 s0 aR ro r1 r2 r3 x0 x1 x2 x3 x4 n_ones n_twos n_settings n_tick n_energy n_valuesPut t_ones t_twos t_settings t_tick t_energy t_valuesPut s_ring s_oldest s_count x_signs x_length x_position x_complete x_orders x_kinds x_numbers x_values)) [0, 1, 2, 3, 4, 5, 6, 7, 8, 9, 10, 11, 12, 13, 14, 15, 16, 17, 18, 19, 20, 21, 22, 23, 24, 25, 26, 27, 28, 29, 30, 31, 32, 33, 34, 35, 36, 37, 38, 39] (by decide) rfl) (va_recv hK3 hP (ci := 3) (q0 := 0) rfl rfl) hS dL_setting_4 hE (fun E ce q9 H locs hX hPn hk hS hce hcv hcl => ?_) (fun H locs hk0 hPn hk hS => ?_)
  · have hP : va_P (dC, dI) vwCl ((wAll cyI cyC cyO ob n0 n1 n2 n3 t0 t1 t2 t3 s0 aR ro r1 r2 r3 x0 x1 x2 x3 x4 n_ones n_twos n_settings n_tick n_energy n_valuesPut t_ones t_twos t_settings t_tick t_energy t_valuesPut s_ring s_oldest s_count x_signs x_length x_position x_complete x_orders x_kinds x_numbers x_values) ++ wO cyJ oa o_out) H := k_repl hP hD [0, 1, 2, 3, 4, 5, 6, 7, 8, 9, 10, 11, 12, 13, 14, 15, 16, 17, 18, 19, 20, 21, 22, 23, 24, 25, 26, 27, 28, 29, 30, 31, 32, 33, 34, 35, 36, 37, 38, 39] rfl hk hPn [.inr 0, .inr 1, .inr 2, .inr 3, .inr 4, .inr 5, .inr 6, .inr 7, .inr 8, .inr 9, .inr 10, .inr 11, .inr 12, .inr 13, .inr 14, .inr 15, .inr 16, .inr 17, .inr 18, .inr 19, .inr 20, .inr 21, .inr 22, .inr 23, .inr 24, .inr 25, .inr 26, .inr 27, .inr 28, .inr 29, .inr 30, .inr 31, .inr 32, .inr 33, .inr 34, .inr 35, .inr 36, .inr 37, .inr 38, .inr 39, .inl 40] rfl (by decide)
    rcases hX with ⟨hk9, hE9⟩ | ⟨hk9, hE9⟩ | ⟨hk9, hE9⟩
    · subst hk9; subst hE9
      have h := k_if_f h (by decide)
      have h := k_if_t h rfl
      obtain ⟨e0, e1⟩ := k_t2 h
      refine vx_catch hown [] ⟨0, 9, 12, 13⟩ [] (by rw [hex]; rfl) (fun z hz => nomatch hz) rfl (by decide) (hts _ q462) (k_castI hE) hce hcv hcl ?_
      refine lv_astore_n (lv' := [(3, .ref q9), (0, .ref ob), (1, .int p1), (2, .ref oa)]) hx hb dL_setting_12 rfl hl (by decide) rfl (fun ls hl => ?_)
      refine lv_iconst (v := 1) hx hb dL_setting_13 (by decide) ?_
      exact g_retH hx hb hr hlk (Nat.le_of_ble_eq_true rfl) (Nat.le_of_ble_eq_true rfl) hS e0 (by rw [← e1]; exact hP) dL_setting_14
    · subst hk9; subst hE9
      have h := k_if_f h (by decide)
      have h := k_if_f h (by decide)
      cases h
    · subst hk9; subst hE9
      have h := k_if_f h (by decide)
      have h := k_if_f h (by decide)
      cases h
  · have hP : va_P (dC, dI) vwCl ((wAll cyI cyC cyO ob n0 n1 n2 n3 t0 t1 t2 t3 s0 aR ro r1 r2 r3 x0 x1 x2 x3 x4 n_ones n_twos n_settings n_tick n_energy n_valuesPut t_ones t_twos t_settings t_tick t_energy t_valuesPut s_ring s_oldest s_count x_signs x_length x_position x_complete x_orders x_kinds x_numbers x_values) ++ wO cyJ oa o_out) H := k_repl hP hD [0, 1, 2, 3, 4, 5, 6, 7, 8, 9, 10, 11, 12, 13, 14, 15, 16, 17, 18, 19, 20, 21, 22, 23, 24, 25, 26, 27, 28, 29, 30, 31, 32, 33, 34, 35, 36, 37, 38, 39] rfl hk hPn [.inr 0, .inr 1, .inr 2, .inr 3, .inr 4, .inr 5, .inr 6, .inr 7, .inr 8, .inr 9, .inr 10, .inr 11, .inr 12, .inr 13, .inr 14, .inr 15, .inr 16, .inr 17, .inr 18, .inr 19, .inr 20, .inr 21, .inr 22, .inr 23, .inr 24, .inr 25, .inr 26, .inr 27, .inr 28, .inr 29, .inr 30, .inr 31, .inr 32, .inr 33, .inr 34, .inr 35, .inr 36, .inr 37, .inr 38, .inr 39, .inl 40] rfl (by decide)
    have hD : va_D (k_A ((wAll cyI cyC cyO ob n0 n1 n2 n3 t0 t1 t2 t3 s0 aR ro r1 r2 r3 x0 x1 x2 x3 x4 n_ones n_twos n_settings n_tick n_energy n_valuesPut t_ones t_twos t_settings t_tick t_energy t_valuesPut s_ring s_oldest s_count x_signs x_length x_position x_complete x_orders x_kinds x_numbers x_values) ++ wO cyJ oa o_out)) ((wAll cyI cyC cyO ob n0 n1 n2 n3 t0 t1 t2 t3 s0 aR ro r1 r2 r3 x0 x1 x2 x3 x4 n_ones n_twos n_settings n_tick n_energy n_valuesPut t_ones t_twos t_settings t_tick t_energy t_valuesPut s_ring s_oldest s_count x_signs x_length x_position x_complete x_orders x_kinds x_numbers x_values) ++ wO cyJ oa o_out) := k_Dm hD rfl
    have h := k_if_t h hk0.symm
    obtain ⟨e0, e1⟩ := k_t2 h
    refine lv_i2l hx hb dL_setting_7 rfl ?_
    refine va_last hx hb hK hP hD hS 40 3 rfl rfl (by unfold vp_in; decide) dL_setting_8 (fun H locs hP hD hS => ?_)
    have hP : va_P (dC, dI) vwCl ((wAll cyI cyC cyO ob n0 n1 n2 n3 t0 t1 t2 t3 s0 aR ro r1 r2 r3 x0 x1 x2 x3 x4 n_ones n_twos n_settings n_tick n_energy n_valuesPut t_ones t_twos t_settings t_tick t_energy t_valuesPut s_ring s_oldest s_count x_signs x_length x_position x_complete x_orders x_kinds x_numbers x_values) ++ wO cyJ oa (vp_updL o_out (0 : Int32).toNatClampNeg z.toInt64)) H := hP
    refine lv_goto (tgt := 15) hx hb dL_setting_9 (by decide) ?_
    refine lv_iconst (v := 0) hx hb dL_setting_15 (by decide) ?_
    exact g_retH hx hb hr hlk (Nat.le_of_ble_eq_true rfl) (Nat.le_of_ble_eq_true rfl) hS e0 (by rw [← e1]; exact hP) dL_setting_16
def fL_ifPut (n_ones : Nat → Int32) (n_twos : Nat → Int32) (n_settings : Nat → Int32) (n_tick : Int32) (n_energy : Int32) (n_valuesPut : Int32) (t_ones : Nat → Int32) (t_twos : Nat → Int32) (t_settings : Nat → Int32) (t_tick : Int32) (t_energy : Int32) (t_valuesPut : Int32) (o_out : Nat → Int64) (p1 : Int32) (p2 : Int32) (p3 : Int32) : Option (Int32 × (Nat → Int64) × (Nat → Int32) × (Nat → Int32) × (Nat → Int32) × (Int32) × (Int32) × (Int32)) :=
  k_b8 (fX4_ifPut n_ones n_twos n_settings n_tick n_energy n_valuesPut t_ones t_twos t_settings t_tick t_energy t_valuesPut p1 p2 p3) fun (k : Nat) (z : Int32) (c0 : Nat → Int32) (c1 : Nat → Int32) (c2 : Nat → Int32) (c3 : Int32) (c4 : Int32) (c5 : Int32) =>
  k_if (k = 0) (some (0, vp_updL o_out (0 : Int32).toNatClampNeg z.toInt64, c0, c1, c2, c3, c4, c5)) <|
  k_if (k = 2) (some (1, o_out, c0, c1, c2, c3, c4, c5)) <|
  none
theorem hdL_ifPut : yL_ifPut.cls ≠ "java/lang/invoke/MethodHandle" ∧ yL_ifPut.cls ≠ "java/lang/invoke/VarHandle" ∧ (parseMethodDescriptor yL_ifPut.desc).map (fun d => d.parameters.length) = some 5 := by decide +kernel
set_option maxRecDepth 100000 in
set_option maxHeartbeats 4000000 in
theorem mL_ifPut (l : Launch) (dC : Nat → ClassId) (dI : Nat → Nat → Nat) (cyI cyC cyO cyJ : ClassId) (hl9 : l.stackTraces = false) (ad : Nat → Nat) (ob : Nat) (n0 : Nat) (n1 : Nat) (n2 : Nat) (n3 : Nat) (t0 : Nat) (t1 : Nat) (t2 : Nat) (t3 : Nat) (s0 : Nat) (aR : Nat) (ro : Nat → Nat) (r1 : Nat → Nat) (r2 : Nat → Nat) (r3 : Nat → Nat) (x0 : Nat) (x1 : Nat) (x2 : Nat) (x3 : Nat) (x4 : Nat) (oa : Nat) (n_ones : Nat → Int32) (n_twos : Nat → Int32) (n_settings : Nat → Int32) (n_tick : Int32) (n_energy : Int32) (n_valuesPut : Int32) (t_ones : Nat → Int32) (t_twos : Nat → Int32) (t_settings : Nat → Int32) (t_tick : Int32) (t_energy : Int32) (t_valuesPut : Int32) (s_ring : Nat → SV) (s_oldest : Int32) (s_count : Int32) (x_signs : Nat → Int32) (x_length : Int32) (x_position : Int32) (x_complete : Int32) (x_orders : Int32) (x_kinds : Nat → Int32) (x_numbers : Nat → Int32) (x_values : Nat → Int32) (o_out : Nat → Int64) (p1 : Int32) (p2 : Int32) (p3 : Int32) {r : Int32} {r_out : Nat → Int64} {r_t_ones : Nat → Int32} {r_t_twos : Nat → Int32} {r_t_settings : Nat → Int32} {r_t_tick : Int32} {r_t_energy : Int32} {r_t_valuesPut : Int32} (hf : fL_ifPut n_ones n_twos n_settings n_tick n_energy n_valuesPut t_ones t_twos t_settings t_tick t_energy t_valuesPut o_out p1 p2 p3 = some (r, r_out, r_t_ones, r_t_twos, r_t_settings, r_t_tick, r_t_energy, r_t_valuesPut)) : MetH l yL_ifPut cL_ifPut 6 [(0, 12, 15, 15)] 8 160 1 6 [.ref ob, .int p1, .int p2, .int p3, .ref oa] (dC, dI) (tyL cyI cyC cyO cyJ) ((wAll cyI cyC cyO ob n0 n1 n2 n3 t0 t1 t2 t3 s0 aR ro r1 r2 r3 x0 x1 x2 x3 x4 n_ones n_twos n_settings n_tick n_energy n_valuesPut t_ones t_twos t_settings t_tick t_energy t_valuesPut s_ring s_oldest s_count x_signs x_length x_position x_complete x_orders x_kinds x_numbers x_values) ++ wO cyJ oa o_out) ((wAll cyI cyC cyO ob n0 n1 n2 n3 t0 t1 t2 t3 s0 aR ro r1 r2 r3 x0 x1 x2 x3 x4 n_ones n_twos n_settings n_tick n_energy n_valuesPut r_t_ones r_t_twos r_t_settings r_t_tick r_t_energy r_t_valuesPut s_ring s_oldest s_count x_signs x_length x_position x_complete x_orders x_kinds x_numbers x_values) ++ wO cyJ oa r_out) ad r := by
  refine metH_of (by decide) (Nat.le_of_ble_eq_true rfl) ?_
  intro p e s m below meth c ls hC hr hlk hex hP hK hD hE hN hl
  have hC : CallFix p m c cL_ifPut 6 s [.ref ob, .int p1, .int p2, .int p3, .ref oa].toArray wA RL := hC
  obtain ⟨hx, hb, hml, hown, hts⟩ := id hC
  have hS : va_S (k_A ((wAll cyI cyC cyO ob n0 n1 n2 n3 t0 t1 t2 t3 s0 aR ro r1 r2 r3 x0 x1 x2 x3 x4 n_ones n_twos n_settings n_tick n_energy n_valuesPut t_ones t_twos t_settings t_tick t_energy t_valuesPut s_ring s_oldest s_count x_signs x_length x_position x_complete x_orders x_kinds x_numbers x_values) ++ wO cyJ oa o_out)) s.heap s.heap [] := va_S.rf
  have hl : lv_has ls 6 [(0, .ref ob), (1, .int p1), (2, .int p2), (3, .int p3), (4, .ref oa)] := hl
  have h := hf
  unfold fL_ifPut at h
  have hK3 : va_K (dC, dI) vwCl (tyS cyI cyC cyO) s := hK.sub [0, 1, 2] rfl
  obtain ⟨k, z, c0, c1, c2, c3, c4, c5, hc, h⟩ := k_b8_e h
  refine lv_aload hx hb dL_ifPut_0 (lv_at hl 4 rfl) ?_
  refine lv_iconst (v := 0) hx hb dL_ifPut_2 (by decide) ?_
  refine lv_aload_n hx hb dL_ifPut_3 rfl (lv_at hl 0 rfl) ?_
  refine lv_iload_n hx hb dL_ifPut_4 rfl (lv_at hl 1 rfl) ?_
  refine lv_iload_n hx hb dL_ifPut_5 rfl (lv_at hl 2 rfl) ?_
  refine lv_iload_n hx hb dL_ifPut_6 rfl (lv_at hl 3 rfl) ?_
  refine g_callT_V (As := [.int p1, .int p2, .int p3]) (rest := [.int 0, .ref oa]) hC (mX4_ifPut l dC dI cyI cyC cyO hl9 ad ob n0 n1 n2 n3 t0 t1 t2 t3 s0 aR ro r1 r2 r3 x0 x1 x2 x3 x4 n_ones n_twos n_settings n_tick n_energy n_valuesPut t_ones t_twos t_settings t_tick t_energy t_valuesPut s_ring s_oldest s_count x_signs x_length x_position x_complete x_orders x_kinds x_numbers x_values p1 p2 p3 hc) q692 q693 q694 q71 q695 3 hdX4_ifPut ⟨Nat.le_of_ble_eq_true rfl, Nat.le_of_ble_eq_true rfl⟩ ⟨Nat.le_of_ble_eq_true rfl, Nat.le_of_ble_eq_true rfl⟩ rfl rfl hl.1 (Nat.le_of_ble_eq_true rfl) (hP.sub (ws' := (wAll cyI cyC cyO ob n0 n1 n2 n3 t0 t1 t2 t3 s0 aR ro r1 r2 r3 x0 x1 x2 x3 x4 n_ones n_twos n_settings n_tick n_energy n_valuesPut t_ones t_twos t_settings t_tick t_energy t_valuesPut s_ring s_oldest s_count x_signs x_length x_position x_complete x_orders x_kinds x_numbers x_values)) [0, 1, 2, 3, 4, 5, 6, 7, 8, 9, 10, 11, 12, 13, 14, 15, 16, 17, 18, 19, 20, 21, 22, 23, 24, 25, 26, 27, 28, 29, 30, 31, 32, 33, 34, 35, 36, 37, 38, 39] rfl) hK3 (hD.sub (ws' := (wAll cyI cyC cyO ob n0 n1 n2 n3 t0 t1 t2 t3 s0 aR ro r1 r2 r3 x0 x1 x2 x3 x4 n_ones n_twos n_settings n_tick n_energy n_valuesPut t_ones t_twos t_settings t_tick t_energy t_valuesPut s_ring s_oldest s_count x_signs x_length x_position x_complete x_orders x_kinds x_numbers x_values)) [0, 1, 2, 3, 4, 5, 6, 7, 8, 9, 10, 11, 12, 13, 14, 15, 16, 17, 18, 19, 20, 21, 22, 23, 24, 25, 26, 27, 28, 29, 30, 31, 32, 33, 34, 35, 36, 37, 38, 39] (by decide) rfl) (va_recv hK3 hP (ci := 3) (q0 := 0) rfl rfl) hS dL_ifPut_7 hE (fun E ce q9 H locs hX hPn hk hS hce hcv hcl => ?_) (fun H locs hk0 hPn hk hS => ?_)
  · have hP : va_P (dC, dI) vwCl ((wAll cyI cyC cyO ob n0 n1 n2 n3 t0 t1 t2 t3 s0 aR ro r1 r2 r3 x0 x1 x2 x3 x4 n_ones n_twos n_settings n_tick n_energy n_valuesPut c0 c1 c2 c3 c4 c5 s_ring s_oldest s_count x_signs x_length x_position x_complete x_orders x_kinds x_numbers x_values) ++ wO cyJ oa o_out) H := k_repl hP hD [0, 1, 2, 3, 4, 5, 6, 7, 8, 9, 10, 11, 12, 13, 14, 15, 16, 17, 18, 19, 20, 21, 22, 23, 24, 25, 26, 27, 28, 29, 30, 31, 32, 33, 34, 35, 36, 37, 38, 39] rfl hk hPn [.inr 0, .inr 1, .inr 2, .inr 3, .inr 4, .inr 5, .inr 6, .inr 7, .inr 8, .inr 9, .inr 10, .inr 11, .inr 12, .inr 13, .inr 14, .inr 15, .inr 16, .inr 17, .inr 18, .inr 19, .inr 20, .inr 21, .inr 22, .inr 23, .inr 24, .inr 25, .inr 26, .inr 27, .inr 28, .inr 29, .inr 30, .inr 31, .inr 32, .inr 33, .inr 34, .inr 35, .inr 36, .inr 37, .inr 38, .inr 39, .inl 40] rfl (by decide)
    rcases hX with ⟨hk9, hE9⟩ | ⟨hk9, hE9⟩ | ⟨hk9, hE9⟩
    · subst hk9; subst hE9
      have h := k_if_f h (by decide)
      have h := k_if_f h (by decide)
      cases h
    · subst hk9; subst hE9
      have h := k_if_f h (by decide)
      have h := k_if_t h rfl
      obtain ⟨e0, e1, e2, e3, e4, e5, e6, e7⟩ := k_t8 h
      refine vx_catch hown [] ⟨0, 12, 15, 15⟩ [] (by rw [hex]; rfl) (fun z hz => nomatch hz) rfl (by decide) (hts _ q463) (k_castA hE) hce hcv hcl ?_
      refine lv_astore (lv' := [(5, .ref q9), (0, .ref ob), (1, .int p1), (2, .int p2), (3, .int p3), (4, .ref oa)]) hx hb dL_ifPut_15 hl (by decide) rfl (fun ls hl => ?_)
      refine lv_iconst (v := 1) hx hb dL_ifPut_17 (by decide) ?_
      exact g_retH hx hb hr hlk (Nat.le_of_ble_eq_true rfl) (Nat.le_of_ble_eq_true rfl) hS e0 (by rw [← e1, ← e2, ← e3, ← e4, ← e5, ← e6, ← e7]; exact hP) dL_ifPut_18
    · subst hk9; subst hE9
      have h := k_if_f h (by decide)
      have h := k_if_f h (by decide)
      cases h
  · have hP : va_P (dC, dI) vwCl ((wAll cyI cyC cyO ob n0 n1 n2 n3 t0 t1 t2 t3 s0 aR ro r1 r2 r3 x0 x1 x2 x3 x4 n_ones n_twos n_settings n_tick n_energy n_valuesPut c0 c1 c2 c3 c4 c5 s_ring s_oldest s_count x_signs x_length x_position x_complete x_orders x_kinds x_numbers x_values) ++ wO cyJ oa o_out) H := k_repl hP hD [0, 1, 2, 3, 4, 5, 6, 7, 8, 9, 10, 11, 12, 13, 14, 15, 16, 17, 18, 19, 20, 21, 22, 23, 24, 25, 26, 27, 28, 29, 30, 31, 32, 33, 34, 35, 36, 37, 38, 39] rfl hk hPn [.inr 0, .inr 1, .inr 2, .inr 3, .inr 4, .inr 5, .inr 6, .inr 7, .inr 8, .inr 9, .inr 10, .inr 11, .inr 12, .inr 13, .inr 14, .inr 15, .inr 16, .inr 17, .inr 18, .inr 19, .inr 20, .inr 21, .inr 22, .inr 23, .inr 24, .inr 25, .inr 26, .inr 27, .inr 28, .inr 29, .inr 30, .inr 31, .inr 32, .inr 33, .inr 34, .inr 35, .inr 36, .inr 37, .inr 38, .inr 39, .inl 40] rfl (by decide)
    have hD : va_D (k_A ((wAll cyI cyC cyO ob n0 n1 n2 n3 t0 t1 t2 t3 s0 aR ro r1 r2 r3 x0 x1 x2 x3 x4 n_ones n_twos n_settings n_tick n_energy n_valuesPut t_ones t_twos t_settings t_tick t_energy t_valuesPut s_ring s_oldest s_count x_signs x_length x_position x_complete x_orders x_kinds x_numbers x_values) ++ wO cyJ oa o_out)) ((wAll cyI cyC cyO ob n0 n1 n2 n3 t0 t1 t2 t3 s0 aR ro r1 r2 r3 x0 x1 x2 x3 x4 n_ones n_twos n_settings n_tick n_energy n_valuesPut c0 c1 c2 c3 c4 c5 s_ring s_oldest s_count x_signs x_length x_position x_complete x_orders x_kinds x_numbers x_values) ++ wO cyJ oa o_out) := k_Dm hD rfl
    have h := k_if_t h hk0.symm
    obtain ⟨e0, e1, e2, e3, e4, e5, e6, e7⟩ := k_t8 h
    refine lv_i2l hx hb dL_ifPut_10 rfl ?_
    refine va_last hx hb hK hP hD hS 40 3 rfl rfl (by unfold vp_in; decide) dL_ifPut_11 (fun H locs hP hD hS => ?_)
    have hP : va_P (dC, dI) vwCl ((wAll cyI cyC cyO ob n0 n1 n2 n3 t0 t1 t2 t3 s0 aR ro r1 r2 r3 x0 x1 x2 x3 x4 n_ones n_twos n_settings n_tick n_energy n_valuesPut c0 c1 c2 c3 c4 c5 s_ring s_oldest s_count x_signs x_length x_position x_complete x_orders x_kinds x_numbers x_values) ++ wO cyJ oa (vp_updL o_out (0 : Int32).toNatClampNeg z.toInt64)) H := hP
    refine lv_goto (tgt := 19) hx hb dL_ifPut_12 (by decide) ?_
    refine lv_iconst (v := 0) hx hb dL_ifPut_19 (by decide) ?_
    exact g_retH hx hb hr hlk (Nat.le_of_ble_eq_true rfl) (Nat.le_of_ble_eq_true rfl) hS e0 (by rw [← e1, ← e2, ← e3, ← e4, ← e5, ← e6, ← e7]; exact hP) dL_ifPut_20
def fL_ifHeated (n_ones : Nat → Int32) (n_twos : Nat → Int32) (n_settings : Nat → Int32) (n_tick : Int32) (n_energy : Int32) (n_valuesPut : Int32) (t_ones : Nat → Int32) (t_twos : Nat → Int32) (t_settings : Nat → Int32) (t_tick : Int32) (t_energy : Int32) (t_valuesPut : Int32) (o_out : Nat → Int64) (p1 : Int32) (p2 : Int32) : Option (Int32 × (Nat → Int64) × (Nat → Int32) × (Nat → Int32) × (Nat → Int32) × (Int32) × (Int32) × (Int32)) :=
  k_b8 (fX4_ifHeated n_ones n_twos n_settings n_tick n_energy n_valuesPut t_ones t_twos t_settings t_tick t_energy t_valuesPut p1 p2) fun (k : Nat) (z : Int32) (c0 : Nat → Int32) (c1 : Nat → Int32) (c2 : Nat → Int32) (c3 : Int32) (c4 : Int32) (c5 : Int32) =>
  k_if (k = 0) (some (0, vp_updL o_out (0 : Int32).toNatClampNeg z.toInt64, c0, c1, c2, c3, c4, c5)) <|
  k_if (k = 2) (some (1, o_out, c0, c1, c2, c3, c4, c5)) <|
  none
theorem hdL_ifHeated : yL_ifHeated.cls ≠ "java/lang/invoke/MethodHandle" ∧ yL_ifHeated.cls ≠ "java/lang/invoke/VarHandle" ∧ (parseMethodDescriptor yL_ifHeated.desc).map (fun d => d.parameters.length) = some 4 := by decide +kernel
set_option maxRecDepth 100000 in
set_option maxHeartbeats 4000000 in
theorem mL_ifHeated (l : Launch) (dC : Nat → ClassId) (dI : Nat → Nat → Nat) (cyI cyC cyO cyJ : ClassId) (hl9 : l.stackTraces = false) (ad : Nat → Nat) (ob : Nat) (n0 : Nat) (n1 : Nat) (n2 : Nat) (n3 : Nat) (t0 : Nat) (t1 : Nat) (t2 : Nat) (t3 : Nat) (s0 : Nat) (aR : Nat) (ro : Nat → Nat) (r1 : Nat → Nat) (r2 : Nat → Nat) (r3 : Nat → Nat) (x0 : Nat) (x1 : Nat) (x2 : Nat) (x3 : Nat) (x4 : Nat) (oa : Nat) (n_ones : Nat → Int32) (n_twos : Nat → Int32) (n_settings : Nat → Int32) (n_tick : Int32) (n_energy : Int32) (n_valuesPut : Int32) (t_ones : Nat → Int32) (t_twos : Nat → Int32) (t_settings : Nat → Int32) (t_tick : Int32) (t_energy : Int32) (t_valuesPut : Int32) (s_ring : Nat → SV) (s_oldest : Int32) (s_count : Int32) (x_signs : Nat → Int32) (x_length : Int32) (x_position : Int32) (x_complete : Int32) (x_orders : Int32) (x_kinds : Nat → Int32) (x_numbers : Nat → Int32) (x_values : Nat → Int32) (o_out : Nat → Int64) (p1 : Int32) (p2 : Int32) {r : Int32} {r_out : Nat → Int64} {r_t_ones : Nat → Int32} {r_t_twos : Nat → Int32} {r_t_settings : Nat → Int32} {r_t_tick : Int32} {r_t_energy : Int32} {r_t_valuesPut : Int32} (hf : fL_ifHeated n_ones n_twos n_settings n_tick n_energy n_valuesPut t_ones t_twos t_settings t_tick t_energy t_valuesPut o_out p1 p2 = some (r, r_out, r_t_ones, r_t_twos, r_t_settings, r_t_tick, r_t_energy, r_t_valuesPut)) : MetH l yL_ifHeated cL_ifHeated 5 [(0, 10, 13, 15)] 8 158 1 6 [.ref ob, .int p1, .int p2, .ref oa] (dC, dI) (tyL cyI cyC cyO cyJ) ((wAll cyI cyC cyO ob n0 n1 n2 n3 t0 t1 t2 t3 s0 aR ro r1 r2 r3 x0 x1 x2 x3 x4 n_ones n_twos n_settings n_tick n_energy n_valuesPut t_ones t_twos t_settings t_tick t_energy t_valuesPut s_ring s_oldest s_count x_signs x_length x_position x_complete x_orders x_kinds x_numbers x_values) ++ wO cyJ oa o_out) ((wAll cyI cyC cyO ob n0 n1 n2 n3 t0 t1 t2 t3 s0 aR ro r1 r2 r3 x0 x1 x2 x3 x4 n_ones n_twos n_settings n_tick n_energy n_valuesPut r_t_ones r_t_twos r_t_settings r_t_tick r_t_energy r_t_valuesPut s_ring s_oldest s_count x_signs x_length x_position x_complete x_orders x_kinds x_numbers x_values) ++ wO cyJ oa r_out) ad r := by
  refine metH_of (by decide) (Nat.le_of_ble_eq_true rfl) ?_
  intro p e s m below meth c ls hC hr hlk hex hP hK hD hE hN hl
  have hC : CallFix p m c cL_ifHeated 5 s [.ref ob, .int p1, .int p2, .ref oa].toArray wA RL := hC
  obtain ⟨hx, hb, hml, hown, hts⟩ := id hC
  have hS : va_S (k_A ((wAll cyI cyC cyO ob n0 n1 n2 n3 t0 t1 t2 t3 s0 aR ro r1 r2 r3 x0 x1 x2 x3 x4 n_ones n_twos n_settings n_tick n_energy n_valuesPut t_ones t_twos t_settings t_tick t_energy t_valuesPut s_ring s_oldest s_count x_signs x_length x_position x_complete x_orders x_kinds x_numbers x_values) ++ wO cyJ oa o_out)) s.heap s.heap [] := va_S.rf
  have hl : lv_has ls 5 [(0, .ref ob), (1, .int p1), (2, .int p2), (3, .ref oa)] := hl
  have h := hf
  unfold fL_ifHeated at h
  have hK3 : va_K (dC, dI) vwCl (tyS cyI cyC cyO) s := hK.sub [0, 1, 2] rfl
  obtain ⟨k, z, c0, c1, c2, c3, c4, c5, hc, h⟩ := k_b8_e h
  refine lv_aload_n hx hb dL_ifHeated_0 rfl (lv_at hl 3 rfl) ?_
  refine lv_iconst (v := 0) hx hb dL_ifHeated_1 (by decide) ?_
  refine lv_aload_n hx hb dL_ifHeated_2 rfl (lv_at hl 0 rfl) ?_
  refine lv_iload_n hx hb dL_ifHeated_3 rfl (lv_at hl 1 rfl) ?_
  refine lv_iload_n hx hb dL_ifHeated_4 rfl (lv_at hl 2 rfl) ?_
  refine g_callT_V (As := [.int p1, .int p2]) (rest := [.int 0, .ref oa]) hC (mX4_ifHeated l dC dI cyI cyC cyO hl9 ad ob n0 n1 n2 n3 t0 t1 t2 t3 s0 aR ro r1 r2 r3 x0 x1 x2 x3 x4 n_ones n_twos n_settings n_tick n_energy n_valuesPut t_ones t_twos t_settings t_tick t_energy t_valuesPut s_ring s_oldest s_count x_signs x_length x_position x_complete x_orders x_kinds x_numbers x_values p1 p2 hc) q699 q700 q701 q71 q702 2 hdX4_ifHeated ⟨Nat.le_of_ble_eq_true rfl, Nat.le_of_ble_eq_true rfl⟩ ⟨Nat.le_of_ble_eq_true rfl, Nat.le_of_ble_eq_true rfl⟩ rfl rfl hl.1 (Nat.le_of_ble_eq_true rfl) (hP.sub (ws' := (wAll cyI cyC cyO ob n0 n1 n2 n3 t0 t1 t2 t3 s0 aR ro r1 r2 r3 x0 x1 x2 x3 x4 n_ones n_twos n_settings n_tick n_energy n_valuesPut t_ones t_twos t_settings t_tick t_energy t_valuesPut s_ring s_oldest s_count x_signs x_length x_position x_complete x_orders x_kinds x_numbers x_values)) [0, 1, 2, 3, 4, 5, 6, 7, 8, 9, 10, 11, 12, 13, 14, 15, 16, 17, 18, 19, 20, 21, 22, 23, 24, 25, 26, 27, 28, 29, 30, 31, 32, 33, 34, 35, 36, 37, 38, 39] rfl) hK3 (hD.sub (ws' := (wAll cyI cyC cyO ob n0 n1 n2 n3 t0 t1 t2 t3 s0 aR ro r1 r2 r3 x0 x1 x2 x3 x4 n_ones n_twos n_settings n_tick n_energy n_valuesPut t_ones t_twos t_settings t_tick t_energy t_valuesPut s_ring s_oldest s_count x_signs x_length x_position x_complete x_orders x_kinds x_numbers x_values)) [0, 1, 2, 3, 4, 5, 6, 7, 8, 9, 10, 11, 12, 13, 14, 15, 16, 17, 18, 19, 20, 21, 22, 23, 24, 25, 26, 27, 28, 29, 30, 31, 32, 33, 34, 35, 36, 37, 38, 39] (by decide) rfl) (va_recv hK3 hP (ci := 3) (q0 := 0) rfl rfl) hS dL_ifHeated_5 hE (fun E ce q9 H locs hX hPn hk hS hce hcv hcl => ?_) (fun H locs hk0 hPn hk hS => ?_)
  · have hP : va_P (dC, dI) vwCl ((wAll cyI cyC cyO ob n0 n1 n2 n3 t0 t1 t2 t3 s0 aR ro r1 r2 r3 x0 x1 x2 x3 x4 n_ones n_twos n_settings n_tick n_energy n_valuesPut c0 c1 c2 c3 c4 c5 s_ring s_oldest s_count x_signs x_length x_position x_complete x_orders x_kinds x_numbers x_values) ++ wO cyJ oa o_out) H := k_repl hP hD [0, 1, 2, 3, 4, 5, 6, 7, 8, 9, 10, 11, 12, 13, 14, 15, 16, 17, 18, 19, 20, 21, 22, 23, 24, 25, 26, 27, 28, 29, 30, 31, 32, 33, 34, 35, 36, 37, 38, 39] rfl hk hPn [.inr 0, .inr 1, .inr 2, .inr 3, .inr 4, .inr 5, .inr 6, .inr 7, .inr 8, .inr 9, .inr 10, .inr 11, .inr 12, .inr 13, .inr 14, .inr 15, .inr 16, .inr 17, .inr 18, .inr 19, .inr 20, .inr 21, .inr 22, .inr 23, .inr 24, .inr 25, .inr 26, .inr 27, .inr 28, .inr 29, .inr 30, .inr 31, .inr 32, .inr 33, .inr 34, .inr 35, .inr 36, .inr 37, .inr 38, .inr 39, .inl 40] rfl (by decide)
    rcases hX with ⟨hk9, hE9⟩ | ⟨hk9, hE9⟩ | ⟨hk9, hE9⟩
    · subst hk9; subst hE9
      have h := k_if_f h (by decide)
      have h := k_if_f h (by decide)
      cases h
    · subst hk9; subst hE9
      have h := k_if_f h (by decide)
      have h := k_if_t h rfl
      obtain ⟨e0, e1, e2, e3, e4, e5, e6, e7⟩ := k_t8 h
      refine vx_catch hown [] ⟨0, 10, 13, 15⟩ [] (by rw [hex]; rfl) (fun z hz => nomatch hz) rfl (by decide) (hts _ q463) (k_castA hE) hce hcv hcl ?_
      refine lv_astore (lv' := [(4, .ref q9), (0, .ref ob), (1, .int p1), (2, .int p2), (3, .ref oa)]) hx hb dL_ifHeated_13 hl (by decide) rfl (fun ls hl => ?_)
      refine lv_iconst (v := 1) hx hb dL_ifHeated_15 (by decide) ?_
      exact g_retH hx hb hr hlk (Nat.le_of_ble_eq_true rfl) (Nat.le_of_ble_eq_true rfl) hS e0 (by rw [← e1, ← e2, ← e3, ← e4, ← e5, ← e6, ← e7]; exact hP) dL_ifHeated_16
    · subst hk9; subst hE9
      have h := k_if_f h (by decide)
      have h := k_if_f h (by decide)
      cases h
  · have hP : va_P (dC, dI) vwCl ((wAll cyI cyC cyO ob n0 n1 n2 n3 t0 t1 t2 t3 s0 aR ro r1 r2 r3 x0 x1 x2 x3 x4 n_ones n_twos n_settings n_tick n_energy n_valuesPut c0 c1 c2 c3 c4 c5 s_ring s_oldest s_count x_signs x_length x_position x_complete x_orders x_kinds x_numbers x_values) ++ wO cyJ oa o_out) H := k_repl hP hD [0, 1, 2, 3, 4, 5, 6, 7, 8, 9, 10, 11, 12, 13, 14, 15, 16, 17, 18, 19, 20, 21, 22, 23, 24, 25, 26, 27, 28, 29, 30, 31, 32, 33, 34, 35, 36, 37, 38, 39] rfl hk hPn [.inr 0, .inr 1, .inr 2, .inr 3, .inr 4, .inr 5, .inr 6, .inr 7, .inr 8, .inr 9, .inr 10, .inr 11, .inr 12, .inr 13, .inr 14, .inr 15, .inr 16, .inr 17, .inr 18, .inr 19, .inr 20, .inr 21, .inr 22, .inr 23, .inr 24, .inr 25, .inr 26, .inr 27, .inr 28, .inr 29, .inr 30, .inr 31, .inr 32, .inr 33, .inr 34, .inr 35, .inr 36, .inr 37, .inr 38, .inr 39, .inl 40] rfl (by decide)
    have hD : va_D (k_A ((wAll cyI cyC cyO ob n0 n1 n2 n3 t0 t1 t2 t3 s0 aR ro r1 r2 r3 x0 x1 x2 x3 x4 n_ones n_twos n_settings n_tick n_energy n_valuesPut t_ones t_twos t_settings t_tick t_energy t_valuesPut s_ring s_oldest s_count x_signs x_length x_position x_complete x_orders x_kinds x_numbers x_values) ++ wO cyJ oa o_out)) ((wAll cyI cyC cyO ob n0 n1 n2 n3 t0 t1 t2 t3 s0 aR ro r1 r2 r3 x0 x1 x2 x3 x4 n_ones n_twos n_settings n_tick n_energy n_valuesPut c0 c1 c2 c3 c4 c5 s_ring s_oldest s_count x_signs x_length x_position x_complete x_orders x_kinds x_numbers x_values) ++ wO cyJ oa o_out) := k_Dm hD rfl
    have h := k_if_t h hk0.symm
    obtain ⟨e0, e1, e2, e3, e4, e5, e6, e7⟩ := k_t8 h
    refine lv_i2l hx hb dL_ifHeated_8 rfl ?_
    refine va_last hx hb hK hP hD hS 40 3 rfl rfl (by unfold vp_in; decide) dL_ifHeated_9 (fun H locs hP hD hS => ?_)
    have hP : va_P (dC, dI) vwCl ((wAll cyI cyC cyO ob n0 n1 n2 n3 t0 t1 t2 t3 s0 aR ro r1 r2 r3 x0 x1 x2 x3 x4 n_ones n_twos n_settings n_tick n_energy n_valuesPut c0 c1 c2 c3 c4 c5 s_ring s_oldest s_count x_signs x_length x_position x_complete x_orders x_kinds x_numbers x_values) ++ wO cyJ oa (vp_updL o_out (0 : Int32).toNatClampNeg z.toInt64)) H := hP
    refine lv_goto (tgt := 17) hx hb dL_ifHeated_10 (by decide) ?_
    refine lv_iconst (v := 0) hx hb dL_ifHeated_17 (by decide) ?_
    exact g_retH hx hb hr hlk (Nat.le_of_ble_eq_true rfl) (Nat.le_of_ble_eq_true rfl) hS e0 (by rw [← e1, ← e2, ← e3, ← e4, ← e5, ← e6, ← e7]; exact hP) dL_ifHeated_18
def fL_ifRead (n_ones : Nat → Int32) (n_twos : Nat → Int32) (n_settings : Nat → Int32) (n_tick : Int32) (o_out : Nat → Int64) (p1 : Int32) (p2 : Int32) : Option (Int32 × (Nat → Int64)) :=
  k_b2 (fX4_ifRead n_ones n_twos n_settings n_tick p1 p2) fun (k : Nat) (z : Int32)  =>
  k_if (k = 0) (some (0, vp_updL o_out (0 : Int32).toNatClampNeg z.toInt64)) <|
  k_if (k = 2) (some (1, o_out)) <|
  none
theorem hdL_ifRead : yL_ifRead.cls ≠ "java/lang/invoke/MethodHandle" ∧ yL_ifRead.cls ≠ "java/lang/invoke/VarHandle" ∧ (parseMethodDescriptor yL_ifRead.desc).map (fun d => d.parameters.length) = some 4 := by decide +kernel
set_option maxRecDepth 100000 in
set_option maxHeartbeats 4000000 in
theorem mL_ifRead (l : Launch) (dC : Nat → ClassId) (dI : Nat → Nat → Nat) (cyI cyC cyO cyJ : ClassId) (hl9 : l.stackTraces = false) (ad : Nat → Nat) (ob : Nat) (n0 : Nat) (n1 : Nat) (n2 : Nat) (n3 : Nat) (t0 : Nat) (t1 : Nat) (t2 : Nat) (t3 : Nat) (s0 : Nat) (aR : Nat) (ro : Nat → Nat) (r1 : Nat → Nat) (r2 : Nat → Nat) (r3 : Nat → Nat) (x0 : Nat) (x1 : Nat) (x2 : Nat) (x3 : Nat) (x4 : Nat) (oa : Nat) (n_ones : Nat → Int32) (n_twos : Nat → Int32) (n_settings : Nat → Int32) (n_tick : Int32) (n_energy : Int32) (n_valuesPut : Int32) (t_ones : Nat → Int32) (t_twos : Nat → Int32) (t_settings : Nat → Int32) (t_tick : Int32) (t_energy : Int32) (t_valuesPut : Int32) (s_ring : Nat → SV) (s_oldest : Int32) (s_count : Int32) (x_signs : Nat → Int32) (x_length : Int32) (x_position : Int32) (x_complete : Int32) (x_orders : Int32) (x_kinds : Nat → Int32) (x_numbers : Nat → Int32) (x_values : Nat → Int32) (o_out : Nat → Int64) (p1 : Int32) (p2 : Int32) {r : Int32} {r_out : Nat → Int64}  (hf : fL_ifRead n_ones n_twos n_settings n_tick o_out p1 p2 = some (r, r_out)) : MetH l yL_ifRead cL_ifRead 5 [(0, 10, 13, 15)] 8 157 1 6 [.ref ob, .int p1, .int p2, .ref oa] (dC, dI) (tyL cyI cyC cyO cyJ) ((wAll cyI cyC cyO ob n0 n1 n2 n3 t0 t1 t2 t3 s0 aR ro r1 r2 r3 x0 x1 x2 x3 x4 n_ones n_twos n_settings n_tick n_energy n_valuesPut t_ones t_twos t_settings t_tick t_energy t_valuesPut s_ring s_oldest s_count x_signs x_length x_position x_complete x_orders x_kinds x_numbers x_values) ++ wO cyJ oa o_out) ((wAll cyI cyC cyO ob n0 n1 n2 n3 t0 t1 t2 t3 s0 aR ro r1 r2 r3 x0 x1 x2 x3 x4 n_ones n_twos n_settings n_tick n_energy n_valuesPut t_ones t_twos t_settings t_tick t_energy t_valuesPut s_ring s_oldest s_count x_signs x_length x_position x_complete x_orders x_kinds x_numbers x_values) ++ wO cyJ oa r_out) ad r := by
  refine metH_of (by decide) (Nat.le_of_ble_eq_true rfl) ?_
  intro p e s m below meth c ls hC hr hlk hex hP hK hD hE hN hl
  have hC : CallFix p m c cL_ifRead 5 s [.ref ob, .int p1, .int p2, .ref oa].toArray wA RL := hC
  obtain ⟨hx, hb, hml, hown, hts⟩ := id hC
  have hS : va_S (k_A ((wAll cyI cyC cyO ob n0 n1 n2 n3 t0 t1 t2 t3 s0 aR ro r1 r2 r3 x0 x1 x2 x3 x4 n_ones n_twos n_settings n_tick n_energy n_valuesPut t_ones t_twos t_settings t_tick t_energy t_valuesPut s_ring s_oldest s_count x_signs x_length x_position x_complete x_orders x_kinds x_numbers x_values) ++ wO cyJ oa o_out)) s.heap s.heap [] := va_S.rf
  have hl : lv_has ls 5 [(0, .ref ob), (1, .int p1), (2, .int p2), (3, .ref oa)] := hl
  have h := hf
  unfold fL_ifRead at h
  have hK3 : va_K (dC, dI) vwCl (tyS cyI cyC cyO) s := hK.sub [0, 1, 2] rfl
  obtain ⟨k, z, hc, h⟩ := k_b2_e h
  refine lv_aload_n hx hb dL_ifRead_0 rfl (lv_at hl 3 rfl) ?_
  refine lv_iconst (v := 0) hx hb dL_ifRead_1 (by decide) ?_
  refine lv_aload_n hx hb dL_ifRead_2 rfl (lv_at hl 0 rfl) ?_
  refine lv_iload_n hx hb dL_ifRead_3 rfl (lv_at hl 1 rfl) ?_
  refine lv_iload_n hx hb dL_ifRead_4 rfl (lv_at hl 2 rfl) ?_
  refine g_callT_V (As := [.int p1, .int p2]) (rest := [.int 0, .ref oa]) hC (mX4_ifRead l dC dI cyI cyC cyO hl9 ad ob n0 n1 n2 n3 t0 t1 t2 t3 s0 aR ro r1 r2 r3 x0 x1 x2 x3 x4 n_ones n_twos n_settings n_tick n_energy n_valuesPut t_ones t_twos t_settings t_tick t_energy t_valuesPut s_ring s_oldest s_count x_signs x_length x_position x_complete x_orders x_kinds x_numbers x_values p1 p2 hc) q706 q707 q708 q71 q709 2 hdX4_ifRead ⟨Nat.le_of_ble_eq_true rfl, Nat.le_of_ble_eq_true rfl⟩ ⟨Nat.le_of_ble_eq_true rfl, Nat.le_of_ble_eq_true rfl⟩ rfl rfl hl.1 (Nat.le_of_ble_eq_true rfl) (hP.sub (ws' := (wAll cyI cyC cyO ob n0 n1 n2 n3 t0 t1 t2 t3 s0 aR ro r1 r2 r3 x0 x1 x2 x3 x4 n_ones n_twos n_settings n_tick n_energy n_valuesPut t_ones t_twos t_settings t_tick t_energy t_valuesPut s_ring s_oldest s_count x_signs x_length x_position x_complete x_orders x_kinds x_numbers x_values)) [0, 1, 2, 3, 4, 5, 6, 7, 8, 9, 10, 11, 12, 13, 14, 15, 16, 17, 18, 19, 20, 21, 22, 23, 24, 25, 26, 27, 28, 29, 30, 31, 32, 33, 34, 35, 36, 37, 38, 39] rfl) hK3 (hD.sub (ws' := (wAll cyI cyC cyO ob n0 n1 n2 n3 t0 t1 t2 t3 s0 aR ro r1 r2 r3 x0 x1 x2 x3 x4 n_ones n_twos n_settings n_tick n_energy n_valuesPut t_ones t_twos t_settings t_tick t_energy t_valuesPut s_ring s_oldest s_count x_signs x_length x_position x_complete x_orders x_kinds x_numbers x_values)) [0, 1, 2, 3, 4, 5, 6, 7, 8, 9, 10, 11, 12, 13, 14, 15, 16, 17, 18, 19, 20, 21, 22, 23, 24, 25, 26, 27, 28, 29, 30, 31, 32, 33, 34, 35, 36, 37, 38, 39] (by decide) rfl) (va_recv hK3 hP (ci := 3) (q0 := 0) rfl rfl) hS dL_ifRead_5 hE (fun E ce q9 H locs hX hPn hk hS hce hcv hcl => ?_) (fun H locs hk0 hPn hk hS => ?_)
  · have hP : va_P (dC, dI) vwCl ((wAll cyI cyC cyO ob n0 n1 n2 n3 t0 t1 t2 t3 s0 aR ro r1 r2 r3 x0 x1 x2 x3 x4 n_ones n_twos n_settings n_tick n_energy n_valuesPut t_ones t_twos t_settings t_tick t_energy t_valuesPut s_ring s_oldest s_count x_signs x_length x_position x_complete x_orders x_kinds x_numbers x_values) ++ wO cyJ oa o_out) H := k_repl hP hD [0, 1, 2, 3, 4, 5, 6, 7, 8, 9, 10, 11, 12, 13, 14, 15, 16, 17, 18, 19, 20, 21, 22, 23, 24, 25, 26, 27, 28, 29, 30, 31, 32, 33, 34, 35, 36, 37, 38, 39] rfl hk hPn [.inr 0, .inr 1, .inr 2, .inr 3, .inr 4, .inr 5, .inr 6, .inr 7, .inr 8, .inr 9, .inr 10, .inr 11, .inr 12, .inr 13, .inr 14, .inr 15, .inr 16, .inr 17, .inr 18, .inr 19, .inr 20, .inr 21, .inr 22, .inr 23, .inr 24, .inr 25, .inr 26, .inr 27, .inr 28, .inr 29, .inr 30, .inr 31, .inr 32, .inr 33, .inr 34, .inr 35, .inr 36, .inr 37, .inr 38, .inr 39, .inl 40] rfl (by decide)
    rcases hX with ⟨hk9, hE9⟩ | ⟨hk9, hE9⟩ | ⟨hk9, hE9⟩
    · subst hk9; subst hE9
      have h := k_if_f h (by decide)
      have h := k_if_f h (by decide)
      cases h
    · subst hk9; subst hE9
      have h := k_if_f h (by decide)
      have h := k_if_t h rfl
      obtain ⟨e0, e1⟩ := k_t2 h
      refine vx_catch hown [] ⟨0, 10, 13, 15⟩ [] (by rw [hex]; rfl) (fun z hz => nomatch hz) rfl (by decide) (hts _ q463) (k_castA hE) hce hcv hcl ?_
      refine lv_astore (lv' := [(4, .ref q9), (0, .ref ob), (1, .int p1), (2, .int p2), (3, .ref oa)]) hx hb dL_ifRead_13 hl (by decide) rfl (fun ls hl => ?_)
      refine lv_iconst (v := 1) hx hb dL_ifRead_15 (by decide) ?_
      exact g_retH hx hb hr hlk (Nat.le_of_ble_eq_true rfl) (Nat.le_of_ble_eq_true rfl) hS e0 (by rw [← e1]; exact hP) dL_ifRead_16
    · subst hk9; subst hE9
      have h := k_if_f h (by decide)
      have h := k_if_f h (by decide)
      cases h
  · have hP : va_P (dC, dI) vwCl ((wAll cyI cyC cyO ob n0 n1 n2 n3 t0 t1 t2 t3 s0 aR ro r1 r2 r3 x0 x1 x2 x3 x4 n_ones n_twos n_settings n_tick n_energy n_valuesPut t_ones t_twos t_settings t_tick t_energy t_valuesPut s_ring s_oldest s_count x_signs x_length x_position x_complete x_orders x_kinds x_numbers x_values) ++ wO cyJ oa o_out) H := k_repl hP hD [0, 1, 2, 3, 4, 5, 6, 7, 8, 9, 10, 11, 12, 13, 14, 15, 16, 17, 18, 19, 20, 21, 22, 23, 24, 25, 26, 27, 28, 29, 30, 31, 32, 33, 34, 35, 36, 37, 38, 39] rfl hk hPn [.inr 0, .inr 1, .inr 2, .inr 3, .inr 4, .inr 5, .inr 6, .inr 7, .inr 8, .inr 9, .inr 10, .inr 11, .inr 12, .inr 13, .inr 14, .inr 15, .inr 16, .inr 17, .inr 18, .inr 19, .inr 20, .inr 21, .inr 22, .inr 23, .inr 24, .inr 25, .inr 26, .inr 27, .inr 28, .inr 29, .inr 30, .inr 31, .inr 32, .inr 33, .inr 34, .inr 35, .inr 36, .inr 37, .inr 38, .inr 39, .inl 40] rfl (by decide)
    have hD : va_D (k_A ((wAll cyI cyC cyO ob n0 n1 n2 n3 t0 t1 t2 t3 s0 aR ro r1 r2 r3 x0 x1 x2 x3 x4 n_ones n_twos n_settings n_tick n_energy n_valuesPut t_ones t_twos t_settings t_tick t_energy t_valuesPut s_ring s_oldest s_count x_signs x_length x_position x_complete x_orders x_kinds x_numbers x_values) ++ wO cyJ oa o_out)) ((wAll cyI cyC cyO ob n0 n1 n2 n3 t0 t1 t2 t3 s0 aR ro r1 r2 r3 x0 x1 x2 x3 x4 n_ones n_twos n_settings n_tick n_energy n_valuesPut t_ones t_twos t_settings t_tick t_energy t_valuesPut s_ring s_oldest s_count x_signs x_length x_position x_complete x_orders x_kinds x_numbers x_values) ++ wO cyJ oa o_out) := k_Dm hD rfl
    have h := k_if_t h hk0.symm
    obtain ⟨e0, e1⟩ := k_t2 h
    refine lv_i2l hx hb dL_ifRead_8 rfl ?_
    refine va_last hx hb hK hP hD hS 40 3 rfl rfl (by unfold vp_in; decide) dL_ifRead_9 (fun H locs hP hD hS => ?_)
    have hP : va_P (dC, dI) vwCl ((wAll cyI cyC cyO ob n0 n1 n2 n3 t0 t1 t2 t3 s0 aR ro r1 r2 r3 x0 x1 x2 x3 x4 n_ones n_twos n_settings n_tick n_energy n_valuesPut t_ones t_twos t_settings t_tick t_energy t_valuesPut s_ring s_oldest s_count x_signs x_length x_position x_complete x_orders x_kinds x_numbers x_values) ++ wO cyJ oa (vp_updL o_out (0 : Int32).toNatClampNeg z.toInt64)) H := hP
    refine lv_goto (tgt := 17) hx hb dL_ifRead_10 (by decide) ?_
    refine lv_iconst (v := 0) hx hb dL_ifRead_17 (by decide) ?_
    exact g_retH hx hb hr hlk (Nat.le_of_ble_eq_true rfl) (Nat.le_of_ble_eq_true rfl) hS e0 (by rw [← e1]; exact hP) dL_ifRead_18
