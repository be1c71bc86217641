/-! methods that throw; k says how it ends: 0 it returns; 1, 2, 3: it throws the class of that number -/
def k_X (k : Nat) (E : String) : Prop := (k = 1 ∧ E = "java/lang/IndexOutOfBoundsException") ∨ (k = 2 ∧ E = "java/lang/IllegalArgumentException") ∨ (k = 3 ∧ E = "java/lang/IllegalStateException")
abbrev k_rmx (f n mc ms : Nat) : Room := { frames := f, cells := mc, slots := ms, locals := n }
abbrev qTI (k : Nat) (r : Int32) (D : va_G) (ws ws2 : va_W) : Array Value → State → Outcome → State → Prop := va_Qi (fun (x : Int32) (_ : Unit) => k = 0 ∧ x = r) (fun _ t => va_P D vwCl ws2 t.heap) (k_A ws)
abbrev qTX (k : Nat) (D : va_G) (ws ws2 : va_W) : String → State → State → Prop := vx_X (fun (_ : Unit) => True) (fun E _ t => k_X k E ∧ va_P D vwCl ws2 t.heap) (k_A ws)
abbrev MetT (l : Launch) (y : MethodName) (c : ByteArray) (n : Nat) (rt : Option FieldType) (f L mc ms : Nat) (As : List Value) (D : va_G) (tys : List (ClassId × FieldType)) (ws ws2 : va_W) (ad : Nat → Nat) (k : Nat) (r : Int32) : Prop := vx_Met l y (wM y c n rt) (k_rmx f L mc ms) (va_Pc As (k_PMe D tys ws ad)) (qTI k r D ws ws2) (qTX k D ws ws2) mc ms (k_A ws)
theorem metT_of {l : Launch} {y : MethodName} {cc : ByteArray} {n : Nat} {rt : Option FieldType} {f L mc ms : Nat} {As : List Value} {D : va_G} {tys : List (ClassId × FieldType)} {ws ws2 : va_W} {ad : Nat → Nat} {k : Nat} {r : Int32} (hy : plainName y.cls = true) (hn : (lg_sl As).length ≤ n)
    (body : ∀ (p : Program) (e : Env) (s : State) (m : MethodId) (below : List Frame) (meth : Method) (c : Code) (ls : Array Slot), CallFix p m c cc n s As.toArray wA y.cls → meth.sig.returnType = rt → meth.locks = false → (∀ x ∈ c.exceptionTable.toList, False) → va_P D vwCl ws s.heap → va_K D vwCl tys s → va_D (k_A ws) ws → k_E ad (k_A ws) s s.heap → lv_has ls n (lv_args 0 As) →
      W p l e (k_rmx f L mc ms) s m As.toArray below meth c s.heap [] 0 0 (vx_MQ below (qTI k r D ws ws2) (qTX k D ws ws2) As.toArray s mc ms (k_A ws)) (F0 m 0 ls [])) : MetT l y cc n rt f L mc ms As D tys ws ws2 ad k r := by
  refine vx_ofW (cc := cc) (maxL := n) (ret := rt) hy rfl ?_
  intro p e s m args below meth c s₁ B hml hex hv
  obtain ⟨rfl, hv⟩ := hv
  have hts := atoms_spec (ws := wM y cc n rt) B.pre
  have hown : s.vm.findClass y.cls = some m.cls := findClass_of_methodNamed B.named
  rw [lg_entry_eq]
  exact body p e s m below meth c _ ⟨B.exec, B.bytes, hml, hown, fun w h => hts w (List.mem_cons_of_mem _ h)⟩ B.returns B.notSynchronized hex hv.1 hv.2.1 (k_Ds hv.2.2.1) hv.2.2.2 (lv_entry As hn)
abbrev MetQ (l : Launch) (y : MethodName) (c : ByteArray) (k : Nat) (ad : Nat → Nat) (v : Int32) : Prop := vx_Met l y (wM y c 1 none) (k_rmx 6 82 1 6) (va_Pc [.int v] (fun U => k_E ad kF U U.heap)) (va_Qv (fun (_ : Unit) => ¬ v = 0) (fun _ _ => True) kF) (vx_X (fun (_ : Unit) => v = 0) (fun E _ _ => k_X k E) kF) 1 6 kF
section KT
variable {p : Program} {l : Launch} {e : Env} {R : Room} {s : State} {m : MethodId} {args : Array Value} {below : List Frame} {meth : Method} {c : Code} {H : Heap} {locs : List Loc} {cells slots : Nat} {Q : State → Prop}
variable {cc : ByteArray} {pc nL : Nat} {ls : Array Slot} {rest st0 As : List Value} {D : va_G} {tys : List (ClassId × FieldType)} {ws ws2 ws3 : va_W} {own C : String} {index maxL f L b : Nat} {y : MethodName} {bytes : ByteArray} {ret : Option FieldType} {A0 : Nat → Prop} {ad : Nat → Nat} {k mc ms : Nat} {r : Int32}
theorem g_retT {v : Int32} (hx : p.tables.exec = Jvm.exec) (hb : c.code = cc) (hr : meth.sig.returnType = some .int) (hlk : meth.locks = false) (hc : cells ≤ mc) (hs : slots ≤ ms) (hS : va_S (k_A ws) s.heap H locs) (h0 : 0 = k) (h : v = r) (hP : va_P D vwCl ws2 H) (d : decode cc pc = .ok (.ireturn, 1)) : W p l e R s m args below meth c H locs cells slots (vx_MQ below (qTI k r D ws ws2) (qTX k D ws ws2) args s mc ms (k_A ws)) (F0 m pc ls [.int v]) :=
  W.widen hc hs (vx_ret (W.iret hx hb hr (fun t ht _ => ⟨⟨v, (), rfl, ⟨h0.symm, h⟩, by show va_P D vwCl ws2 t.heap; rw [ht]; exact hP⟩, hS.F ht⟩) hS.2.2 d hlk))
/-- a call of requireIndex and its like out of a method that throws -/
theorem g_req {β : Type} {rr : Option β} {a b : Option β} {k9 : Nat} {v : Int32} (hC : CallFix p m c cc nL s args wA own) (hlk : meth.locks = false) (hex : ∀ x ∈ c.exceptionTable.toList, False) (hM : MetQ l y bytes k9 ad v) (q1 : (.methodLink own index y : Cond) ∈ wA) (q2 : (.static y : Cond) ∈ wA) (q4 : (.initialized y.cls : Cond) ∈ wA) (q5 : (.code y bytes 1 none : Cond) ∈ wA)
    (hd : y.cls ≠ "java/lang/invoke/MethodHandle" ∧ y.cls ≠ "java/lang/invoke/VarHandle" ∧ (parseMethodDescriptor y.desc).map (fun d => d.parameters.length) = some 1) (hR : 6 + 1 ≤ R.frames ∧ 8 + (1 + 11) + 82 ≤ R.locals) (hcs : cells + 1 ≤ R.cells ∧ slots + 6 ≤ R.slots) (hm : cells + 1 ≤ mc ∧ slots + 6 ≤ ms) (hlen : ls.size = nL) (hcat : (rest.map fun v => v.category).sum ≤ 8) (hS : va_S (k_A ws) s.heap H locs) (hE : k_E ad (k_A ws) s s.heap) (hP : va_P D vwCl ws2 H) (d : decode cc pc = .ok (.invokestatic index, 3))
    (h : k_if (v = 0) a b = rr) (kx : a = rr → k9 = k) (kk : ∀ (H1 : Heap) (locs1 : List Loc), b = rr → (∀ q : Nat, q < H.size → H1[q]? = H[q]?) → va_S (k_A ws) s.heap H1 locs1 → W p l e R s m args below meth c H1 locs1 (cells + 1) (slots + 6) (vx_MQ below (qTI k r D ws ws3) (qTX k D ws ws3) args s mc ms (k_A ws)) (F0 m (pc + 3) ls rest)) (hw : a = rr → va_P D vwCl ws3 H) :
    W p l e R s m args below meth c H locs cells slots (vx_MQ below (qTI k r D ws ws3) (qTX k D ws ws3) args s mc ms (k_A ws)) (F0 m pc ls (.int v :: rest)) := by
  refine vx_callv (vx_runS (As := [.int v]) (rest := rest) hC hM ⟨callB_of 1 hC.2.2.2.2 (wM_in q5) rfl rfl rfl (hC.2.2.2.2 _ q4) (hC.2.2.2.2 _ q1) hd hR, hC.2.2.2.2 _ q2⟩ ⟨fun a U g mk q => ⟨q.1, k_E_blind q.2⟩, fun U hU hW => ⟨rfl, k_E_pay hE hS (fun _ h => h.elim) hU hW⟩⟩ rfl rfl (hlen : (F0 m pc ls (.int v :: rest)).locals.size = nL) rfl (lv_room hcat) d hcs) hS (fun q _ h => h.elim) (fun q h => h.elim) (fun q _ h => h.elim) ?_ ?_
  · intro E ce q9 u t H1 locs1 ht hvm hpx hBX hz hk hS1 hce hcv hcl
    have hv := k_if_t h hpx
    refine vx_out (fun x hx9 => (hex x hx9).elim) hlk hce hcv hcl (fun t9 ht9 _ => ⟨(), trivial, ⟨by rw [← kx hv]; exact hBX, ?_⟩, hS1.F ht9⟩) hS1.2.2 hm.1 hm.2
    rw [ht9]
    exact k_kept (hw hv) (fun q h9 => hk q h9 id)
  · intro u t H1 locs1 ht hvm hpo hB hz hk hS1
    exact kk H1 locs1 (k_if_f h hpo) (fun q h9 => hk q h9 id) hS1
end KT
theorem hdX4_requireIndex : yX4_requireIndex.cls ≠ "java/lang/invoke/MethodHandle" ∧ yX4_requireIndex.cls ≠ "java/lang/invoke/VarHandle" ∧ (parseMethodDescriptor yX4_requireIndex.desc).map (fun d => d.parameters.length) = some 1 := by decide +kernel
theorem hgX4_requireIndex : ∀ w ∈ (vx_atS RX4 204 "java/lang/IndexOutOfBoundsException" ["java/lang/RuntimeException", "java/lang/Exception"]).filter goodWord, w ∈ wA := by decide +kernel
theorem hnX4_requireIndex : ∀ w ∈ (vx_atS RX4 204 "java/lang/IndexOutOfBoundsException" ["java/lang/RuntimeException", "java/lang/Exception"]).filter (fun w => !goodWord w), w ∈ k_wN := by decide +kernel
theorem hoX4_requireIndex : ∀ w ∈ Cond.classLink RX4 200 "java/lang/IndexOutOfBoundsException" :: Cond.initialized "java/lang/IndexOutOfBoundsException" :: (vx_atS RX4 204 "java/lang/IndexOutOfBoundsException" ["java/lang/RuntimeException", "java/lang/Exception"]), vx_ot w = true := by decide +kernel
set_option maxRecDepth 100000 in
set_option maxHeartbeats 4000000 in
theorem mX4_requireIndex (l : Launch) (hl9 : l.stackTraces = false) (ad : Nat → Nat) (v : Int32) : MetQ l yX4_requireIndex cX4_requireIndex 1 ad v := by
  refine vx_ofW (cc := cX4_requireIndex) (maxL := 1) (ret := none) (by decide) rfl ?_
  intro p e s m args below meth c s₁ B hml hex hv
  obtain ⟨rfl, hE⟩ := hv
  have hx := B.exec
  have hb := B.bytes
  have hr := B.returns
  have hts0 := atoms_spec (ws := wM yX4_requireIndex cX4_requireIndex 1 none) B.pre
  have hts : ∀ w ∈ wA, w.before _ s = true := fun w h => hts0 w (List.mem_cons_of_mem _ h)
  have hown : s.vm.findClass RX4 = some m.cls := findClass_of_methodNamed B.named
  have hlk := B.notSynchronized
  have hl := lv_entry ([.int v]) (n := 1) (Nat.le_of_ble_eq_true rfl)
  rw [lg_entry_eq]
  generalize (lg_sl ([.int v]) ++ List.replicate (1 - (lg_sl ([.int v])).length) Slot.unset).toArray = ls at hl ⊢
  have hl : lv_has ls 1 [(0, .int v)] := hl
  have hS : va_S kF s.heap s.heap [] := va_S.rf
  refine lv_iload_n hx hb dX4_requireIndex_0 rfl (lv_at hl 0 rfl) ?_
  refine lv_if_ne (tgt := 14) hx hb dX4_requireIndex_1 (by decide) (fun hv => ?_) (fun hv => ?_)
  · refine W.widen (k := 1) (n := 6) (by decide) (by decide) ?_
    refine vx_ret ?_
    exact W.vret hx hb hr (fun t ht _ => ⟨⟨(), rfl, hv, trivial⟩, hS.F ht⟩) hS.2.2 dX4_requireIndex_14 hlk
  · have hat : ∀ w ∈ (vx_atS RX4 204 "java/lang/IndexOutOfBoundsException" ["java/lang/RuntimeException", "java/lang/Exception"]), w.before _ s = true := vx_hat (fun w h => hts w (hgX4_requireIndex w h)) hnX4_requireIndex (fun w h => va_Nw.use (A := #[Value.int v]) (by
      simp only [k_wN, List.mem_cons, List.not_mem_nil, or_false] at h
      rcases h with rfl | rfl | rfl | rfl | rfl | rfl <;> rfl) (hE.1.2.2.2 w h))
    refine vx_throwS (A := kF) hx hb hl9 hown (by decide +kernel) (by decide +kernel) (hts _ q475) (hts _ q79) (hE.1.2.1.1) hat hoX4_requireIndex hE.2.2.2.2.2.2.2.2.2.2.2.2.1 hE.2.2.2.2.2.2.2.2.2.2.2.2.2 hS (by rw [hl.1, hml]) dX4_requireIndex_4 dX4_requireIndex_7 dX4_requireIndex_8 dX4_requireIndex_10 dX4_requireIndex_13 (fun x h => (hex x h).elim) (Nat.le_of_ble_eq_true rfl) (Nat.le_of_ble_eq_true rfl) (Nat.le_of_ble_eq_true rfl) (Nat.le_of_ble_eq_true rfl) hlk (fun t hvm hz hk => ⟨(), hv, Or.inl ⟨rfl, rfl⟩, hz, fun q h9 _ => hk q h9⟩) hS.2.2 (Nat.le_of_ble_eq_true rfl) (Nat.le_of_ble_eq_true rfl)
theorem hdX4_requireArgument : yX4_requireArgument.cls ≠ "java/lang/invoke/MethodHandle" ∧ yX4_requireArgument.cls ≠ "java/lang/invoke/VarHandle" ∧ (parseMethodDescriptor yX4_requireArgument.desc).map (fun d => d.parameters.length) = some 1 := by decide +kernel
theorem hgX4_requireArgument : ∀ w ∈ (vx_atS RX4 211 "java/lang/IllegalArgumentException" ["java/lang/RuntimeException", "java/lang/Exception"]).filter goodWord, w ∈ wA := by decide +kernel
theorem hnX4_requireArgument : ∀ w ∈ (vx_atS RX4 211 "java/lang/IllegalArgumentException" ["java/lang/RuntimeException", "java/lang/Exception"]).filter (fun w => !goodWord w), w ∈ k_wN := by decide +kernel
theorem hoX4_requireArgument : ∀ w ∈ Cond.classLink RX4 207 "java/lang/IllegalArgumentException" :: Cond.initialized "java/lang/IllegalArgumentException" :: (vx_atS RX4 211 "java/lang/IllegalArgumentException" ["java/lang/RuntimeException", "java/lang/Exception"]), vx_ot w = true := by decide +kernel
set_option maxRecDepth 100000 in
set_option maxHeartbeats 4000000 in
theorem mX4_requireArgument (l : Launch) (hl9 : l.stackTraces = false) (ad : Nat → Nat) (v : Int32) : MetQ l yX4_requireArgument cX4_requireArgument 2 ad v := by
  refine vx_ofW (cc := cX4_requireArgument) (maxL := 1) (ret := none) (by decide) rfl ?_
  intro p e s m args below meth c s₁ B hml hex hv
  obtain ⟨rfl, hE⟩ := hv
  have hx := B.exec
  have hb := B.bytes
  have hr := B.returns
  have hts0 := atoms_spec (ws := wM yX4_requireArgument cX4_requireArgument 1 none) B.pre
  have hts : ∀ w ∈ wA, w.before _ s = true := fun w h => hts0 w (List.mem_cons_of_mem _ h)
  have hown : s.vm.findClass RX4 = some m.cls := findClass_of_methodNamed B.named
  have hlk := B.notSynchronized
  have hl := lv_entry ([.int v]) (n := 1) (Nat.le_of_ble_eq_true rfl)
  rw [lg_entry_eq]
  generalize (lg_sl ([.int v]) ++ List.replicate (1 - (lg_sl ([.int v])).length) Slot.unset).toArray = ls at hl ⊢
  have hl : lv_has ls 1 [(0, .int v)] := hl
  have hS : va_S kF s.heap s.heap [] := va_S.rf
  refine lv_iload_n hx hb dX4_requireArgument_0 rfl (lv_at hl 0 rfl) ?_
  refine lv_if_ne (tgt := 14) hx hb dX4_requireArgument_1 (by decide) (fun hv => ?_) (fun hv => ?_)
  · refine W.widen (k := 1) (n := 6) (by decide) (by decide) ?_
    refine vx_ret ?_
    exact W.vret hx hb hr (fun t ht _ => ⟨⟨(), rfl, hv, trivial⟩, hS.F ht⟩) hS.2.2 dX4_requireArgument_14 hlk
  · have hat : ∀ w ∈ (vx_atS RX4 211 "java/lang/IllegalArgumentException" ["java/lang/RuntimeException", "java/lang/Exception"]), w.before _ s = true := vx_hat (fun w h => hts w (hgX4_requireArgument w h)) hnX4_requireArgument (fun w h => va_Nw.use (A := #[Value.int v]) (by
      simp only [k_wN, List.mem_cons, List.not_mem_nil, or_false] at h
      rcases h with rfl | rfl | rfl | rfl | rfl | rfl <;> rfl) (hE.1.2.2.2 w h))
    refine vx_throwS (A := kF) hx hb hl9 hown (by decide +kernel) (by decide +kernel) (hts _ q516) (hts _ q80) (hE.1.2.1.2.1) hat hoX4_requireArgument hE.2.2.2.2.2.2.2.2.2.2.2.2.1 hE.2.2.2.2.2.2.2.2.2.2.2.2.2 hS (by rw [hl.1, hml]) dX4_requireArgument_4 dX4_requireArgument_7 dX4_requireArgument_8 dX4_requireArgument_10 dX4_requireArgument_13 (fun x h => (hex x h).elim) (Nat.le_of_ble_eq_true rfl) (Nat.le_of_ble_eq_true rfl) (Nat.le_of_ble_eq_true rfl) (Nat.le_of_ble_eq_true rfl) hlk (fun t hvm hz hk => ⟨(), hv, Or.inr (Or.inl ⟨rfl, rfl⟩), hz, fun q h9 _ => hk q h9⟩) hS.2.2 (Nat.le_of_ble_eq_true rfl) (Nat.le_of_ble_eq_true rfl)
theorem hdX4_requireState : yX4_requireState.cls ≠ "java/lang/invoke/MethodHandle" ∧ yX4_requireState.cls ≠ "java/lang/invoke/VarHandle" ∧ (parseMethodDescriptor yX4_requireState.desc).map (fun d => d.parameters.length) = some 1 := by decide +kernel
theorem hgX4_requireState : ∀ w ∈ (vx_atS RX4 216 "java/lang/IllegalStateException" ["java/lang/RuntimeException", "java/lang/Exception"]).filter goodWord, w ∈ wA := by decide +kernel
theorem hnX4_requireState : ∀ w ∈ (vx_atS RX4 216 "java/lang/IllegalStateException" ["java/lang/RuntimeException", "java/lang/Exception"]).filter (fun w => !goodWord w), w ∈ k_wN := by decide +kernel
theorem hoX4_requireState : ∀ w ∈ Cond.classLink RX4 212 "java/lang/IllegalStateException" :: Cond.initialized "java/lang/IllegalStateException" :: (vx_atS RX4 216 "java/lang/IllegalStateException" ["java/lang/RuntimeException", "java/lang/Exception"]), vx_ot w = true := by decide +kernel
set_option maxRecDepth 100000 in
set_option maxHeartbeats 4000000 in
theorem mX4_requireState (l : Launch) (hl9 : l.stackTraces = false) (ad : Nat → Nat) (v : Int32) : MetQ l yX4_requireState cX4_requireState 3 ad v := by
  refine vx_ofW (cc := cX4_requireState) (maxL := 1) (ret := none) (by decide) rfl ?_
  intro p e s m args below meth c s₁ B hml hex hv
  obtain ⟨rfl, hE⟩ := hv
  have hx := B.exec
  have hb := B.bytes
  have hr := B.returns
  have hts0 := atoms_spec (ws := wM yX4_requireState cX4_requireState 1 none) B.pre
  have hts : ∀ w ∈ wA, w.before _ s = true := fun w h => hts0 w (List.mem_cons_of_mem _ h)
  have hown : s.vm.findClass RX4 = some m.cls := findClass_of_methodNamed B.named
  have hlk := B.notSynchronized
  have hl := lv_entry ([.int v]) (n := 1) (Nat.le_of_ble_eq_true rfl)
  rw [lg_entry_eq]
  generalize (lg_sl ([.int v]) ++ List.replicate (1 - (lg_sl ([.int v])).length) Slot.unset).toArray = ls at hl ⊢
  have hl : lv_has ls 1 [(0, .int v)] := hl
  have hS : va_S kF s.heap s.heap [] := va_S.rf
  refine lv_iload_n hx hb dX4_requireState_0 rfl (lv_at hl 0 rfl) ?_
  refine lv_if_ne (tgt := 14) hx hb dX4_requireState_1 (by decide) (fun hv => ?_) (fun hv => ?_)
  · refine W.widen (k := 1) (n := 6) (by decide) (by decide) ?_
    refine vx_ret ?_
    exact W.vret hx hb hr (fun t ht _ => ⟨⟨(), rfl, hv, trivial⟩, hS.F ht⟩) hS.2.2 dX4_requireState_14 hlk
  · have hat : ∀ w ∈ (vx_atS RX4 216 "java/lang/IllegalStateException" ["java/lang/RuntimeException", "java/lang/Exception"]), w.before _ s = true := vx_hat (fun w h => hts w (hgX4_requireState w h)) hnX4_requireState (fun w h => va_Nw.use (A := #[Value.int v]) (by
      simp only [k_wN, List.mem_cons, List.not_mem_nil, or_false] at h
      rcases h with rfl | rfl | rfl | rfl | rfl | rfl <;> rfl) (hE.1.2.2.2 w h))
    refine vx_throwS (A := kF) hx hb hl9 hown (by decide +kernel) (by decide +kernel) (hts _ q527) (hts _ q81) (hE.1.2.1.2.2) hat hoX4_requireState hE.2.2.2.2.2.2.2.2.2.2.2.2.1 hE.2.2.2.2.2.2.2.2.2.2.2.2.2 hS (by rw [hl.1, hml]) dX4_requireState_4 dX4_requireState_7 dX4_requireState_8 dX4_requireState_10 dX4_requireState_13 (fun x h => (hex x h).elim) (Nat.le_of_ble_eq_true rfl) (Nat.le_of_ble_eq_true rfl) (Nat.le_of_ble_eq_true rfl) (Nat.le_of_ble_eq_true rfl) hlk (fun t hvm hz hk => ⟨(), hv, Or.inr (Or.inr ⟨rfl, rfl⟩), hz, fun q h9 _ => hk q h9⟩) hS.2.2 (Nat.le_of_ble_eq_true rfl) (Nat.le_of_ble_eq_true rfl)
