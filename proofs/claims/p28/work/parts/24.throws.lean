/-! requireIndex and its like, where they let the call go on -/
abbrev k_rmx (f n mc ms : Nat) : Room := { frames := f, cells := mc, slots := ms, locals := n }
theorem k_req_e {β : Type} {v : Int32} {b : Option β} {r : β} (h : k_if (v = 0) none b = some r) : ¬ v = 0 ∧ b = some r := by
  unfold k_if at h
  split at h
  · cases h
  · exact ⟨by assumption, h⟩
abbrev MetRV (l : Launch) (y : MethodName) (c : ByteArray) (n : Nat) (rt : Option FieldType) (f L : Nat) (As : List Value) (D : va_G) (tys : List (ClassId × FieldType)) (ws : va_W) : Prop := Met l y (wM y c n rt) (k_rm f L) (va_Pc As (k_PR D tys ws)) (va_Qv (fun (_ : Unit) => True) (fun _ _ => True) kF) 0 0 kF
theorem metRV_of {l : Launch} {y : MethodName} {cc : ByteArray} {n : Nat} {rt : Option FieldType} {f L : Nat} {As : List Value} {D : va_G} {tys : List (ClassId × FieldType)} {ws : va_W} (hy : plainName y.cls = true) (hn : (lg_sl As).length ≤ n)
    (body : ∀ (p : Program) (e : Env) (s : State) (m : MethodId) (below : List Frame) (meth : Method) (c : Code) (ls : Array Slot), CallFix p m c cc n s As.toArray wA y.cls → meth.sig.returnType = rt → meth.locks = false → va_P D vwCl ws s.heap → va_K D vwCl tys s → lv_has ls n (lv_args 0 As) →
      W p l e (k_rm f L) s m As.toArray below meth c s.heap [] 0 0 (MQ below (va_Qv (fun (_ : Unit) => True) (fun _ _ => True) kF) As.toArray s 0 0 kF) (F0 m 0 ls [])) : MetRV l y cc n rt f L As D tys ws := by
  refine Met.ofW (cc := cc) (maxL := n) (ret := rt) hy rfl ?_
  intro p e s m args below meth c s₁ B hml hv
  obtain ⟨rfl, hv⟩ := hv
  have hts := atoms_spec (ws := wM y cc n rt) B.pre
  have hown : s.vm.findClass y.cls = some m.cls := findClass_of_methodNamed B.named
  rw [lg_entry_eq]
  exact body p e s m below meth c _ ⟨B.exec, B.bytes, hml, hown, fun w h => hts w (List.mem_cons_of_mem _ h)⟩ B.returns B.notSynchronized hv.1 hv.2 (lv_entry As hn)
section KT
variable {p : Program} {l : Launch} {e : Env} {R : Room} {s : State} {m : MethodId} {args : Array Value} {below : List Frame} {meth : Method} {c : Code} {H : Heap} {locs : List Loc} {cells slots : Nat} {Q : State → Prop}
variable {cc : ByteArray} {pc nL : Nat} {ls : Array Slot} {rest st0 As : List Value} {D : va_G} {tys : List (ClassId × FieldType)} {ws ws2 wc wc2 : va_W} {own C : String} {index maxL f L b : Nat} {y : MethodName} {bytes : ByteArray} {ret : Option FieldType} {A0 : Nat → Prop}
theorem g_callRV_S (hC : CallFix p m c cc nL s args wA own) (hM : MetRV l y bytes maxL ret f L As D tys wc) (q1 : (.methodLink own index y : Cond) ∈ wA) (q2 : (.static y : Cond) ∈ wA) (q4 : (.initialized y.cls : Cond) ∈ wA) (q5 : (.code y bytes maxL ret : Cond) ∈ wA) (n : Nat) (hd : y.cls ≠ "java/lang/invoke/MethodHandle" ∧ y.cls ≠ "java/lang/invoke/VarHandle" ∧ (parseMethodDescriptor y.desc).map (fun d => d.parameters.length) = some n) (hR : f + 1 ≤ R.frames ∧ 8 + (maxL + 11) + L ≤ R.locals) (hcs : cells + 0 ≤ R.cells ∧ slots + 0 ≤ R.slots) (hn : As.length = n) (hst : st0 = As.reverse ++ rest) (hlen : ls.size = nL) (hcat : (rest.map fun v => v.category).sum ≤ 8) (hPc : va_P D vwCl wc H) (hKc : va_K D vwCl tys s) (hS : va_S A0 s.heap H locs) (d : decode cc pc = .ok (.invokestatic index, 3))
    (kk : ∀ (H1 : Heap) (locs1 : List Loc), (∀ q : Nat, q < H.size → H1[q]? = H[q]?) → va_S A0 s.heap H1 locs1 → W p l e R s m args below meth c H1 locs1 cells slots Q (F0 m (pc + 3) ls rest)) : W p l e R s m args below meth c H locs cells slots Q (F0 m pc ls st0) :=
  va_callv (va_runS (As := As) (rest := rest) hC hM (va_cwS n hC.2.2.2.2 (wM_S q1 q2 q4 q5) rfl rfl rfl hd hR) ⟨fun a U g mk q => ⟨q.1, q.2.1, va_K.moved (u := U) (U := U.calling g mk a) (Vm.Alike.refl U.vm) q.2.2⟩, fun U hU hW => ⟨rfl, by rw [hU]; exact hPc, va_K.moved hW.alike hKc⟩⟩ rfl hn (hlen : (F0 m pc ls st0).locals.size = nL) hst (lv_room hcat) d hcs) hS (fun q _ h => h.elim) (fun q h => h.elim) (fun u t H1 locs1 ht hvm hw hB hz1 hk1 hS => kk H1 locs1 (fun q h => hk1 q h id) hS)
theorem g_retRV0 (hx : p.tables.exec = Jvm.exec) (hb : c.code = cc) (hr : meth.sig.returnType = none) (hlk : meth.locks = false) (hS : va_S kF s.heap H locs) (d : decode cc pc = .ok (.return_, 1)) : W p l e R s m args below meth c H locs cells slots (MQ below (va_Qv (fun (_ : Unit) => True) (fun _ _ => True) kF) args s cells slots kF) (F0 m pc ls []) :=
  W.vret hx hb hr (fun t ht _ => ⟨⟨(), rfl, trivial, trivial⟩, hS.F ht⟩) hS.2.2 d hlk
end KT
theorem hdX4_requireIndex : yX4_requireIndex.cls ≠ "java/lang/invoke/MethodHandle" ∧ yX4_requireIndex.cls ≠ "java/lang/invoke/VarHandle" ∧ (parseMethodDescriptor yX4_requireIndex.desc).map (fun d => d.parameters.length) = some 1 := by decide +kernel
theorem mX4_requireIndex (l : Launch) (D : va_G) (tys : List (ClassId × FieldType)) (v : Int32) (hv : ¬ v = 0) : MetRV l yX4_requireIndex cX4_requireIndex 1 none 0 0 [.int v] D tys [] := by
  refine metRV_of (by decide) (Nat.le_of_ble_eq_true rfl) ?_
  intro p e s m below meth c ls hC hr hlk hP hK hl
  have hC : CallFix p m c cX4_requireIndex 1 s [.int v].toArray wA RX4 := hC
  obtain ⟨hx, hb, hml, hown, hts⟩ := id hC
  have hS : va_S kF s.heap s.heap [] := va_S.rf
  have hl : lv_has ls 1 [(0, .int v)] := hl
  refine lv_iload_n hx hb dX4_requireIndex_0 rfl (lv_at hl 0 rfl) ?_
  refine lv_if_ne (tgt := 14) hx hb dX4_requireIndex_1 (by decide) (fun _ => ?_) (fun h9 => absurd h9 hv)
  exact g_retRV0 hx hb hr hlk hS dX4_requireIndex_14
theorem hdX4_requireArgument : yX4_requireArgument.cls ≠ "java/lang/invoke/MethodHandle" ∧ yX4_requireArgument.cls ≠ "java/lang/invoke/VarHandle" ∧ (parseMethodDescriptor yX4_requireArgument.desc).map (fun d => d.parameters.length) = some 1 := by decide +kernel
theorem mX4_requireArgument (l : Launch) (D : va_G) (tys : List (ClassId × FieldType)) (v : Int32) (hv : ¬ v = 0) : MetRV l yX4_requireArgument cX4_requireArgument 1 none 0 0 [.int v] D tys [] := by
  refine metRV_of (by decide) (Nat.le_of_ble_eq_true rfl) ?_
  intro p e s m below meth c ls hC hr hlk hP hK hl
  have hC : CallFix p m c cX4_requireArgument 1 s [.int v].toArray wA RX4 := hC
  obtain ⟨hx, hb, hml, hown, hts⟩ := id hC
  have hS : va_S kF s.heap s.heap [] := va_S.rf
  have hl : lv_has ls 1 [(0, .int v)] := hl
  refine lv_iload_n hx hb dX4_requireArgument_0 rfl (lv_at hl 0 rfl) ?_
  refine lv_if_ne (tgt := 14) hx hb dX4_requireArgument_1 (by decide) (fun _ => ?_) (fun h9 => absurd h9 hv)
  exact g_retRV0 hx hb hr hlk hS dX4_requireArgument_14
theorem hdX4_requireState : yX4_requireState.cls ≠ "java/lang/invoke/MethodHandle" ∧ yX4_requireState.cls ≠ "java/lang/invoke/VarHandle" ∧ (parseMethodDescriptor yX4_requireState.desc).map (fun d => d.parameters.length) = some 1 := by decide +kernel
theorem mX4_requireState (l : Launch) (D : va_G) (tys : List (ClassId × FieldType)) (v : Int32) (hv : ¬ v = 0) : MetRV l yX4_requireState cX4_requireState 1 none 0 0 [.int v] D tys [] := by
  refine metRV_of (by decide) (Nat.le_of_ble_eq_true rfl) ?_
  intro p e s m below meth c ls hC hr hlk hP hK hl
  have hC : CallFix p m c cX4_requireState 1 s [.int v].toArray wA RX4 := hC
  obtain ⟨hx, hb, hml, hown, hts⟩ := id hC
  have hS : va_S kF s.heap s.heap [] := va_S.rf
  have hl : lv_has ls 1 [(0, .int v)] := hl
  refine lv_iload_n hx hb dX4_requireState_0 rfl (lv_at hl 0 rfl) ?_
  refine lv_if_ne (tgt := 14) hx hb dX4_requireState_1 (by decide) (fun _ => ?_) (fun h9 => absurd h9 hv)
  exact g_retRV0 hx hb hr hlk hS dX4_requireState_14
