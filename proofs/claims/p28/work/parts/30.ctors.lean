/-! constructors: a blank object becomes a world; what comes is new -/
def k_C (U : State) : Prop := va_Nw (.methodLinkNest RX4 9 yX3_init RX4) U ∧ va_Nw (.methodLinkNest RX2 15 yX3_init RX4) U ∧ va_Nw (.methodLinkNest RX4 28 yX1_init RX4) U ∧ va_AO "FuseRows$State" U
theorem k_C.warm {s U : State} (hW : s.WarmedH U.vm) (h : k_C s) : k_C U := ⟨va_Nw.warmM hW h.1, va_Nw.warmM hW h.2.1, va_Nw.warmM hW h.2.2.1, va_AO.moved hW.alike h.2.2.2⟩
abbrev k_PC (D : va_G) (tys : List (ClassId × FieldType)) (w0 : va_W) (sz : Nat) : State → Prop := fun U => U.heap.size = sz ∧ va_P D vwCl w0 U.heap ∧ va_K D vwCl tys U ∧ va_D (fun _ => True) w0 ∧ k_C U
abbrev qC {S : Type} (D : va_G) (w0 : va_W) (sz : Nat) (w : S → va_W) : Array Value → State → Outcome → State → Prop := va_Qv (fun (_ : S) => True) (fun u t => va_P D vwCl (w u) t.heap ∧ va_D (va_A w0 sz) (w u)) (va_A w0 sz)
abbrev MetC {S : Type} (l : Launch) (y : MethodName) (c : ByteArray) (n f L mc ms : Nat) (ob : Nat) (D : va_G) (tys : List (ClassId × FieldType)) (w0 : va_W) (sz : Nat) (w : S → va_W) : Prop := Met l y (wM y c n none) (k_rmx f L mc ms) (va_Pc [.ref ob] (k_PC D tys w0 sz)) (qC D w0 sz w) mc ms (va_A w0 sz)
theorem metC_of {S : Type} {l : Launch} {y : MethodName} {cc : ByteArray} {n f L mc ms ob : Nat} {D : va_G} {tys : List (ClassId × FieldType)} {w0 : va_W} {sz : Nat} {w : S → va_W} (hy : plainName y.cls = true) (hn : (lg_sl [.ref ob]).length ≤ n) (hi : y.name = "<init>")
    (body : ∀ (p : Program) (e : Env) (s : State) (m : MethodId) (below : List Frame) (meth : Method) (c : Code) (ls : Array Slot) (A : Nat → Prop), CallFix p m c cc n s [.ref ob].toArray wA y.cls → meth.sig.returnType = none → meth.locks = false → meth.name = "<init>" → va_P D vwCl w0 s.heap → va_K D vwCl tys s → va_D A w0 → (∀ q : Nat, s.heap.size ≤ q → A q) → k_C s → lv_has ls n (lv_args 0 [.ref ob]) →
      W p l e (k_rmx f L mc ms) s m [.ref ob].toArray below meth c s.heap [] 0 0 (MQ below (va_Qv (fun (_ : S) => True) (fun u t => va_P D vwCl (w u) t.heap ∧ va_D A (w u)) A) [.ref ob].toArray s mc ms A) (F0 m 0 ls [])) : MetC l y cc n f L mc ms ob D tys w0 sz w := by
  refine Met.ofW (cc := cc) (maxL := n) (ret := none) hy rfl ?_
  intro p e s m args below meth c s₁ B hml hv
  obtain ⟨rfl, hsz, hP, hK, hD, hC⟩ := hv
  have hts := atoms_spec (ws := wM y cc n none) B.pre
  have hown : s.vm.findClass y.cls = some m.cls := findClass_of_methodNamed B.named
  subst hsz
  rw [lg_entry_eq]
  exact body p e s m below meth c _ _ ⟨B.exec, B.bytes, hml, hown, fun w h => hts w (List.mem_cons_of_mem _ h)⟩ B.returns B.notSynchronized ((name_of_methodNamed B.named B.method).1.trans hi) hP hK hD.self (fun q h => Or.inr h) hC (lv_entry [.ref ob] hn)
theorem k_cls {D : va_G} {cl : List vw_C} {tys : List (ClassId × FieldType)} {s : State} {cA cB : ClassId} {ty : FieldType} (hK : va_K D cl (tys ++ [(cA, ty)]) s) (t0 : Nat) (ht : tys[t0]? = some (cB, ty)) : cA = cB := by
  have h1 := (hK.2 tys.length (cA, ty) (by simp)).2
  have hl := (List.getElem?_eq_some_iff.mp ht).1
  have h2 := (hK.2 t0 (cB, ty) (by rw [List.getElem?_append_left hl]; exact ht)).2
  cases ty with
  | object C =>
    obtain ⟨kA, comp, -, -, -, h3⟩ := h1
    obtain ⟨kB, comp2, -, -, -, h4⟩ := h2
    exact Option.some.inj (h3.symm.trans h4)
  | _ =>
    have h3 : s.vm.findClass _ = some cA := h1
    have h4 : s.vm.findClass _ = some cB := h2
    exact Option.some.inj (h3.symm.trans h4)
theorem k_joinC {A : Nat → Prop} {D : va_G} {cl : List vw_C} {ws w1 : va_W} {q : Nat} {e0 : va_E} {H H1 : Heap} (hP : va_P D cl (ws ++ [(q, e0)]) H) (hD : va_D A (ws ++ [(q, e0)])) (hk : ∀ x : Nat, x < H.size → ¬ va_A [(q, e0)] H.size x → H1[x]? = H[x]?) (hF : ∀ x, va_A [(q, e0)] H.size x → A x) (hP1 : va_P D cl w1 H1) (hD1 : va_D (va_A [(q, e0)] H.size) w1) : va_P D cl (ws ++ w1) H1 ∧ va_D A (ws ++ w1) := by
  have hq : (ws ++ [(q, e0)])[ws.length]? = some (q, e0) := by simp
  have hl : ∀ (k : Nat) (x : Nat × va_E), ws[k]? = some x → (ws ++ [(q, e0)])[k]? = some x := fun k x hx => by
    rw [List.getElem?_append_left (List.getElem?_eq_some_iff.mp hx).1]; exact hx
  have apart : ∀ (k : Nat) (x : Nat × va_E), ws[k]? = some x → x.1 < H.size ∧ ¬ va_A [(q, e0)] H.size x.1 := by
    intro k x hx
    have h1 := (hP k x (hl k x hx)).lt
    refine ⟨h1, fun h => ?_⟩
    rcases h with ⟨k2, e2, h2⟩ | h2
    · have hk2 : k2 < 1 := (List.getElem?_eq_some_iff.mp h2).1
      obtain rfl : k2 = 0 := by omega
      have h3 : q = x.1 := by
        have := Option.some.inj h2
        exact congrArg Prod.fst this
      have := hD.1 k ws.length x (q, e0) (hl k x hx) hq h3.symm
      have := (List.getElem?_eq_some_iff.mp hx).1
      omega
    · omega
  refine ⟨va_P.app (fun k x hx => ((hP k x (hl k x hx)).kept (hk x.1 (apart k x hx).1 (apart k x hx).2))) hP1, va_D.app ⟨fun i j x y hx hy e => hD.1 i j x y (hl i x hx) (hl j y hy) e, fun k x hx => hD.2 k x (hl k x hx)⟩ (hD1.weaken (fun k x _ h => hF x.1 h)) (fun i j x y hx hy e => ?_)⟩
  exact (apart i x hx).2 (by rw [e]; exact hD1.2 j y hy)
theorem k_refs {cy : ClassId} {n : Nat} {f g : Nat → Option Nat} (h : ∀ j, j < n → f j = g j) : vp_cell cy (n, .inr (.inr (.inr (.inr f)))) = vp_cell cy (n, .inr (.inr (.inr (.inr g)))) := by
  simp only [vp_cell, arrV]
  congr 1
  apply Array.ext
  · simp
  · intro i h1 h2
    simp only [Array.getElem_ofFn]
    rw [h i (by simpa using h1)]
section KCT
variable {p : Program} {l : Launch} {e : Env} {R : Room} {s : State} {m : MethodId} {args : Array Value} {below : List Frame} {meth : Method} {c : Code} {H : Heap} {locs : List Loc} {cells slots : Nat} {Q : State → Prop}
variable {cc : ByteArray} {pc nL : Nat} {ls : Array Slot} {rest st0 : List Value} {D : va_G} {tys : List (ClassId × FieldType)} {ws w0 : va_W} {own host : String} {index maxL f L mc ms q : Nat} {y : MethodName} {bytes : ByteArray} {A : Nat → Prop}
theorem g_newa (hx : p.tables.exec = Jvm.exec) (hb : c.code = cc) {atype : ArrayType} (harr : (Cond.arrayClass (newarray.typeOf atype)).before args s = true) {ty : FieldType} (hty : newarray.typeOf atype = ty) (t0 : Nat) {cy : ClassId} (ht : tys[t0]? = some (cy, ty)) (hK : va_K D vwCl tys s) (hP : va_P D vwCl ws H) (hD : va_D A ws) (hS : va_S A s.heap H locs) (hA : ∀ q, s.heap.size ≤ q → A q)
    {n : Int32} {N : Nat} {a0 : vp_A} (ha : ∀ cA : ClassId, vp_cell cA a0 = arrV cA N (fun _ => defaultValue ty)) (hn : ¬ n < 0) (hN : n.toNatClampNeg = N) (hbytes : N * componentBytes ty ≤ 536870912) (hcells : cells + 1 ≤ R.cells) (hslots : slots + N ≤ R.slots) (d : decode cc pc = .ok (.newarray atype, 2))
    (kk : ∀ (q : Nat) (H1 : Heap), va_P D vwCl (ws ++ [(q, .inl (cy, a0))]) H1 → va_D A (ws ++ [(q, .inl (cy, a0))]) → va_S A s.heap H1 locs →
      W p l e R s m args below meth c H1 locs (cells + 1) (slots + N) Q (F0 m (pc + 2) ls (.ref q :: rest))) : W p l e R s m args below meth c H locs cells slots Q (F0 m pc ls (.int n :: rest)) :=
  va_newa hx hb harr hty hK hP hD hS hA ha hn hN hbytes hcells hslots d (fun q cA H1 hK1 hP1 hD1 hS1 => by
    have e := k_cls hK1 t0 ht
    subst e
    exact kk q H1 hP1 hD1 hS1)
theorem g_newq (hx : p.tables.exec = Jvm.exec) (hb : c.code = cc) {C : String} (hown : s.vm.findClass own = some m.cls) (hclink : (Cond.classLink own index C).before args s = true) (hover : va_AO C s) (t0 : Nat) {cy : ClassId} (ht : tys[t0]? = some (cy, .object C)) (hK : va_K D vwCl tys s) (hP : va_P D vwCl ws H) (hD : va_D A ws) (hS : va_S A s.heap H locs) (hA : ∀ q, s.heap.size ≤ q → A q)
    {n : Int32} {N : Nat} (hn : ¬ n < 0) (hN : n.toNatClampNeg = N) (hbytes : N * 4 ≤ 536870912) (hcells : cells + 1 ≤ R.cells) (hslots : slots + N ≤ R.slots) (d : decode cc pc = .ok (.anewarray index, 3))
    (kk : ∀ (q : Nat) (H1 : Heap), va_P D vwCl (ws ++ [(q, .inl (cy, N, .inr (.inr (.inr (.inr (fun _ => none))))))]) H1 → va_D A (ws ++ [(q, .inl (cy, N, .inr (.inr (.inr (.inr (fun _ => none))))))]) → va_S A s.heap H1 locs →
      W p l e R s m args below meth c H1 locs (cells + 1) (slots + N) Q (F0 m (pc + 3) ls (.ref q :: rest))) : W p l e R s m args below meth c H locs cells slots Q (F0 m pc ls (.int n :: rest)) :=
  va_newq hx hb hown hclink hover hK hP hD hS hA hn hN hbytes hcells hslots d (fun q cA H1 hK1 hP1 hD1 hS1 => by
    have e := k_cls hK1 t0 ht
    subst e
    exact kk q H1 hP1 hD1 hS1)
theorem g_ctorN {S : Type} {e0 : va_E} {w : S → va_W} (hC : CallFix p m c cc nL s args wA own) (hM : MetC l y bytes maxL f L mc ms q D tys [(q, e0)] H.size w) (q1 : va_Nw (.methodLinkNest own index y host) s) (q4 : (.initialized y.cls : Cond) ∈ wA) (q5 : (.code y bytes maxL none : Cond) ∈ wA) (qi : (.instanceMethod y : Cond) ∈ wA) (hi : y.name = "<init>")
    (hd : y.cls ≠ "java/lang/invoke/MethodHandle" ∧ y.cls ≠ "java/lang/invoke/VarHandle" ∧ (parseMethodDescriptor y.desc).map (fun d => d.parameters.length) = some 0) (hR : f + 1 ≤ R.frames ∧ 8 + (maxL + 11) + L ≤ R.locals) (hcs : cells + mc ≤ R.cells ∧ slots + ms ≤ R.slots) (hlen : ls.size = nL) (hcat : (rest.map fun v => v.category).sum ≤ 8) (hP : va_P D vwCl (ws ++ [(q, e0)]) H) (hK : va_K D vwCl tys s) (hD : va_D A (ws ++ [(q, e0)])) (hS : va_S A s.heap H locs) (hA : ∀ q, s.heap.size ≤ q → A q) (hkC : k_C s) (d : decode cc pc = .ok (.invokespecial index, 3))
    (kk : ∀ (u : S) (H1 : Heap) (locs1 : List Loc), va_P D vwCl (ws ++ w u) H1 → va_D A (ws ++ w u) → va_S A s.heap H1 locs1 → W p l e R s m args below meth c H1 locs1 (cells + mc) (slots + ms) Q (F0 m (pc + 3) ls rest)) : W p l e R s m args below meth c H locs cells slots Q (F0 m pc ls (.ref q :: rest)) := by
  have hq : (ws ++ [(q, e0)])[ws.length]? = some (q, e0) := by simp
  have hPc : va_P D vwCl [(q, e0)] H := hP.sub [ws.length] (by simp)
  have hDc : va_D A [(q, e0)] := hD.sub [ws.length] rfl (by simp)
  have hF : ∀ x, va_A [(q, e0)] H.size x → A x := fun x h => by
    rcases h with ⟨k2, e2, h2⟩ | h2
    · exact hDc.2 k2 (x, e2) h2
    · exact hA x (Nat.le_trans hS.1 h2)
  refine va_callv (va_runIN (As := []) (rest := rest) hC hM ⟨va_cnB 0 hC.2.2.2.2 (wM_in q5) rfl rfl rfl q1 (hC.2.2.2.2 _ q4) hd hR, hi, hC.2.2.2.2 _ qi⟩ ⟨fun a U g mk q => ⟨q.1, q.2.1, q.2.2.1, va_K.moved (u := U) (U := U.calling g mk a) (Vm.Alike.refl U.vm) q.2.2.2.1, q.2.2.2.2.1, k_C.warm (s := U) (U := U.calling g mk a) (State.WarmedH.refl U) q.2.2.2.2.2⟩, fun U hU hW => ⟨rfl, by rw [hU], by rw [hU]; exact hPc, va_K.moved hW.alike hK, hDc.weaken (fun _ _ _ _ => trivial), k_C.warm hW hkC⟩⟩ rfl rfl (hlen : (F0 m pc ls (.ref q :: rest)).locals.size = nL) rfl (lv_room hcat) d hcs) hS (fun x _ h => hF x h) hF (fun u t H1 locs1 ht hvm hw hB hz1 hk1 hS1 => ?_)
  obtain ⟨hB1, hB2⟩ := hB
  rw [ht] at hB1
  obtain ⟨hP2, hD2⟩ := k_joinC hP hD hk1 hF hB1 hB2
  exact kk u H1 locs1 hP2 hD2 hS1
theorem g_ctorI {S : Type} {e0 : va_E} {w : S → va_W} (hC : CallFix p m c cc nL s args wA own) (hM : MetC l y bytes maxL f L mc ms q D tys [(q, e0)] H.size w) (q1 : (.methodLink own index y : Cond) ∈ wA) (q4 : (.initialized y.cls : Cond) ∈ wA) (q5 : (.code y bytes maxL none : Cond) ∈ wA) (qi : (.instanceMethod y : Cond) ∈ wA) (hi : y.name = "<init>")
    (hd : y.cls ≠ "java/lang/invoke/MethodHandle" ∧ y.cls ≠ "java/lang/invoke/VarHandle" ∧ (parseMethodDescriptor y.desc).map (fun d => d.parameters.length) = some 0) (hR : f + 1 ≤ R.frames ∧ 8 + (maxL + 11) + L ≤ R.locals) (hcs : cells + mc ≤ R.cells ∧ slots + ms ≤ R.slots) (hlen : ls.size = nL) (hcat : (rest.map fun v => v.category).sum ≤ 8) (hP : va_P D vwCl (ws ++ [(q, e0)]) H) (hK : va_K D vwCl tys s) (hD : va_D A (ws ++ [(q, e0)])) (hS : va_S A s.heap H locs) (hA : ∀ q, s.heap.size ≤ q → A q) (hkC : k_C s) (d : decode cc pc = .ok (.invokespecial index, 3))
    (kk : ∀ (u : S) (H1 : Heap) (locs1 : List Loc), va_P D vwCl (ws ++ w u) H1 → va_D A (ws ++ w u) → va_S A s.heap H1 locs1 → W p l e R s m args below meth c H1 locs1 (cells + mc) (slots + ms) Q (F0 m (pc + 3) ls rest)) : W p l e R s m args below meth c H locs cells slots Q (F0 m pc ls (.ref q :: rest)) := by
  have hq : (ws ++ [(q, e0)])[ws.length]? = some (q, e0) := by simp
  have hPc : va_P D vwCl [(q, e0)] H := hP.sub [ws.length] (by simp)
  have hDc : va_D A [(q, e0)] := hD.sub [ws.length] rfl (by simp)
  have hF : ∀ x, va_A [(q, e0)] H.size x → A x := fun x h => by
    rcases h with ⟨k2, e2, h2⟩ | h2
    · exact hDc.2 k2 (x, e2) h2
    · exact hA x (Nat.le_trans hS.1 h2)
  refine va_callv (va_runI (As := []) (rest := rest) hC hM (cwI 0 hC.2.2.2.2 (wM_in q5) rfl rfl rfl (hC.2.2.2.2 _ q4) (hC.2.2.2.2 _ q1) (hC.2.2.2.2 _ qi) hi hd hR) ⟨fun a U g mk q => ⟨q.1, q.2.1, q.2.2.1, va_K.moved (u := U) (U := U.calling g mk a) (Vm.Alike.refl U.vm) q.2.2.2.1, q.2.2.2.2.1, k_C.warm (s := U) (U := U.calling g mk a) (State.WarmedH.refl U) q.2.2.2.2.2⟩, fun U hU hW => ⟨rfl, by rw [hU], by rw [hU]; exact hPc, va_K.moved hW.alike hK, hDc.weaken (fun _ _ _ _ => trivial), k_C.warm hW hkC⟩⟩ rfl rfl (hlen : (F0 m pc ls (.ref q :: rest)).locals.size = nL) rfl (lv_room hcat) d hcs) hS (fun x _ h => hF x h) hF (fun u t H1 locs1 ht hvm hw hB hz1 hk1 hS1 => ?_)
  obtain ⟨hB1, hB2⟩ := hB
  rw [ht] at hB1
  obtain ⟨hP2, hD2⟩ := k_joinC hP hD hk1 hF hB1 hB2
  exact kk u H1 locs1 hP2 hD2 hS1
end KCT
def v0 : Nat → Int32 := fun _ => 0
def set0 : Nat → Int32 := upd (upd (upd (upd (fun _ => 0) (0 : Int32).toNatClampNeg 1) (1 : Int32).toNatClampNeg 3) (2 : Int32).toNatClampNeg 1) (3 : Int32).toNatClampNeg 1
theorem hdX3_init : yX3_init.cls ≠ "java/lang/invoke/MethodHandle" ∧ yX3_init.cls ≠ "java/lang/invoke/VarHandle" ∧ (parseMethodDescriptor yX3_init.desc).map (fun d => d.parameters.length) = some 0 := by decide +kernel
set_option maxRecDepth 100000 in
set_option maxHeartbeats 8000000 in
theorem mX3_init (l : Launch) (dC : Nat → ClassId) (dI : Nat → Nat → Nat) (cyI cyC cyO : ClassId) (ob sz : Nat) : MetC l yX3_init cX3_init 1 1 12 3 44 ob (dC, dI) (tyS cyI cyC cyO) [(ob, .inr (2, [.null, .null, .null, .int 0, .int 0, .int 0]))] sz (fun u : Nat × Nat × Nat => wX3 cyI cyC ob u.1 u.2.1 u.2.2 v0 v0 set0 0 0 0) := by
  refine metC_of (by decide) (Nat.le_of_ble_eq_true rfl) rfl ?_
  intro p e s m below meth c ls A hC hr hlk hin hP hK hD hA hkC hl
  have hC : CallFix p m c cX3_init 1 s [.ref ob].toArray wA RX3 := hC
  obtain ⟨hx, hb, hml, hown, hts⟩ := id hC
  have hS : va_S A s.heap s.heap [] := va_S.rf
  have hl : lv_has ls 1 [(0, .ref ob)] := hl
  refine lv_aload_n hx hb dX3_init_0 rfl (lv_at hl 0 rfl) ?_
  refine W.objInit hx hb hown (hts _ q35) (hts _ q28) (hts _ q29) rfl (by rw [hml]; exact hl.1) rfl dX3_init_1 (Nat.le_of_ble_eq_true rfl) (Nat.le_of_ble_eq_true rfl) ?_
  refine W.eq (g2 := F0 m 4 ls []) rfl ?_
  refine lv_aload_n hx hb dX3_init_4 rfl (lv_at hl 0 rfl) ?_
  refine lv_bipush (v := 20) hx hb dX3_init_5 (by decide) ?_
  refine g_newa (atype := .int) (ty := .int) hx hb (hts _ q48) rfl 0 rfl hK hP hD hS hA (n := 20) (N := 20) (a0 := (20, .inl (fun _ => 0))) (fun _ => rfl) (by decide) (by decide) (Nat.le_of_ble_eq_true rfl) (Nat.le_of_ble_eq_true rfl) (Nat.le_of_ble_eq_true rfl) dX3_init_7 (fun e1 H hP hD hS => ?_)
  have hP : va_P (dC, dI) vwCl [(ob, .inr (2, [.null, .null, .null, .int 0, .int 0, .int 0])), (e1, .inl (cyI, 20, .inl (fun _ => 0)))] H := hP
  have hD : va_D A [(ob, .inr (2, [.null, .null, .null, .int 0, .int 0, .int 0])), (e1, .inl (cyI, 20, .inl (fun _ => 0)))] := hD
  refine va_putF (D := (dC, dI)) (ci := 2) (v := .ref e1) (ty := .array .int) (C := RX3) (T := TX3) (N := 6) hx hb hts iaX3 tyX3 tyX3_ok nmX3 hown hK hP hD hS 0 rfl rfl 0 (by decide) (hts _ q36) (fun _ h9 => h9) rfl hin rfl (by decide +kernel) rfl rfl (Nat.le_of_ble_eq_true rfl) dX3_init_9 (fun H locs hP hD hS => ?_)
  have hP : va_P (dC, dI) vwCl [(ob, .inr (2, [.ref e1, .null, .null, .int 0, .int 0, .int 0])), (e1, .inl (cyI, 20, .inl (fun _ => 0)))] H := hP
  have hD : va_D A [(ob, .inr (2, [.ref e1, .null, .null, .int 0, .int 0, .int 0])), (e1, .inl (cyI, 20, .inl (fun _ => 0)))] := hD
  refine lv_aload_n hx hb dX3_init_12 rfl (lv_at hl 0 rfl) ?_
  refine lv_bipush (v := 20) hx hb dX3_init_13 (by decide) ?_
  refine g_newa (atype := .int) (ty := .int) hx hb (hts _ q48) rfl 0 rfl hK hP hD hS hA (n := 20) (N := 20) (a0 := (20, .inl (fun _ => 0))) (fun _ => rfl) (by decide) (by decide) (Nat.le_of_ble_eq_true rfl) (Nat.le_of_ble_eq_true rfl) (Nat.le_of_ble_eq_true rfl) dX3_init_15 (fun e2 H hP hD hS => ?_)
  have hP : va_P (dC, dI) vwCl [(ob, .inr (2, [.ref e1, .null, .null, .int 0, .int 0, .int 0])), (e1, .inl (cyI, 20, .inl (fun _ => 0))), (e2, .inl (cyI, 20, .inl (fun _ => 0)))] H := hP
  have hD : va_D A [(ob, .inr (2, [.ref e1, .null, .null, .int 0, .int 0, .int 0])), (e1, .inl (cyI, 20, .inl (fun _ => 0))), (e2, .inl (cyI, 20, .inl (fun _ => 0)))] := hD
  refine va_putF (D := (dC, dI)) (ci := 2) (v := .ref e2) (ty := .array .int) (C := RX3) (T := TX3) (N := 6) hx hb hts iaX3 tyX3 tyX3_ok nmX3 hown hK hP hD hS 0 rfl rfl 1 (by decide) (hts _ q38) (fun _ h9 => h9) rfl hin rfl (by decide +kernel) rfl rfl (Nat.le_of_ble_eq_true rfl) dX3_init_17 (fun H locs hP hD hS => ?_)
  have hP : va_P (dC, dI) vwCl [(ob, .inr (2, [.ref e1, .ref e2, .null, .int 0, .int 0, .int 0])), (e1, .inl (cyI, 20, .inl (fun _ => 0))), (e2, .inl (cyI, 20, .inl (fun _ => 0)))] H := hP
  have hD : va_D A [(ob, .inr (2, [.ref e1, .ref e2, .null, .int 0, .int 0, .int 0])), (e1, .inl (cyI, 20, .inl (fun _ => 0))), (e2, .inl (cyI, 20, .inl (fun _ => 0)))] := hD
  refine lv_aload_n hx hb dX3_init_20 rfl (lv_at hl 0 rfl) ?_
  refine lv_iconst (v := 4) hx hb dX3_init_21 (by decide) ?_
  refine g_newa (atype := .int) (ty := .int) hx hb (hts _ q48) rfl 0 rfl hK hP hD hS hA (n := 4) (N := 4) (a0 := (4, .inl (fun _ => 0))) (fun _ => rfl) (by decide) (by decide) (Nat.le_of_ble_eq_true rfl) (Nat.le_of_ble_eq_true rfl) (Nat.le_of_ble_eq_true rfl) dX3_init_22 (fun e3 H hP hD hS => ?_)
  have hP : va_P (dC, dI) vwCl [(ob, .inr (2, [.ref e1, .ref e2, .null, .int 0, .int 0, .int 0])), (e1, .inl (cyI, 20, .inl (fun _ => 0))), (e2, .inl (cyI, 20, .inl (fun _ => 0))), (e3, .inl (cyI, 4, .inl (fun _ => 0)))] H := hP
  have hD : va_D A [(ob, .inr (2, [.ref e1, .ref e2, .null, .int 0, .int 0, .int 0])), (e1, .inl (cyI, 20, .inl (fun _ => 0))), (e2, .inl (cyI, 20, .inl (fun _ => 0))), (e3, .inl (cyI, 4, .inl (fun _ => 0)))] := hD
  refine lv_dup hx hb dX3_init_24 rfl ?_
  refine lv_iconst (v := 0) hx hb dX3_init_25 (by decide) ?_
  refine lv_iconst (v := 1) hx hb dX3_init_26 (by decide) ?_
  refine va_iast hx hb hK hP hD hS 3 0 rfl rfl (by unfold vp_in; decide) dX3_init_27 (fun H locs hP hD hS => ?_)
  have hP : va_P (dC, dI) vwCl [(ob, .inr (2, [.ref e1, .ref e2, .null, .int 0, .int 0, .int 0])), (e1, .inl (cyI, 20, .inl (fun _ => 0))), (e2, .inl (cyI, 20, .inl (fun _ => 0))), (e3, .inl (cyI, 4, .inl (upd (fun _ => 0) (0 : Int32).toNatClampNeg 1)))] H := hP
  have hD : va_D A [(ob, .inr (2, [.ref e1, .ref e2, .null, .int 0, .int 0, .int 0])), (e1, .inl (cyI, 20, .inl (fun _ => 0))), (e2, .inl (cyI, 20, .inl (fun _ => 0))), (e3, .inl (cyI, 4, .inl (upd (fun _ => 0) (0 : Int32).toNatClampNeg 1)))] := hD
  refine lv_dup hx hb dX3_init_28 rfl ?_
  refine lv_iconst (v := 1) hx hb dX3_init_29 (by decide) ?_
  refine lv_iconst (v := 3) hx hb dX3_init_30 (by decide) ?_
  refine va_iast hx hb hK hP hD hS 3 0 rfl rfl (by unfold vp_in; decide) dX3_init_31 (fun H locs hP hD hS => ?_)
  have hP : va_P (dC, dI) vwCl [(ob, .inr (2, [.ref e1, .ref e2, .null, .int 0, .int 0, .int 0])), (e1, .inl (cyI, 20, .inl (fun _ => 0))), (e2, .inl (cyI, 20, .inl (fun _ => 0))), (e3, .inl (cyI, 4, .inl (upd (upd (fun _ => 0) (0 : Int32).toNatClampNeg 1) (1 : Int32).toNatClampNeg 3)))] H := hP
  have hD : va_D A [(ob, .inr (2, [.ref e1, .ref e2, .null, .int 0, .int 0, .int 0])), (e1, .inl (cyI, 20, .inl (fun _ => 0))), (e2, .inl (cyI, 20, .inl (fun _ => 0))), (e3, .inl (cyI, 4, .inl (upd (upd (fun _ => 0) (0 : Int32).toNatClampNeg 1) (1 : Int32).toNatClampNeg 3)))] := hD
  refine lv_dup hx hb dX3_init_32 rfl ?_
  refine lv_iconst (v := 2) hx hb dX3_init_33 (by decide) ?_
  refine lv_iconst (v := 1) hx hb dX3_init_34 (by decide) ?_
  refine va_iast hx hb hK hP hD hS 3 0 rfl rfl (by unfold vp_in; decide) dX3_init_35 (fun H locs hP hD hS => ?_)
  have hP : va_P (dC, dI) vwCl [(ob, .inr (2, [.ref e1, .ref e2, .null, .int 0, .int 0, .int 0])), (e1, .inl (cyI, 20, .inl (fun _ => 0))), (e2, .inl (cyI, 20, .inl (fun _ => 0))), (e3, .inl (cyI, 4, .inl (upd (upd (upd (fun _ => 0) (0 : Int32).toNatClampNeg 1) (1 : Int32).toNatClampNeg 3) (2 : Int32).toNatClampNeg 1)))] H := hP
  have hD : va_D A [(ob, .inr (2, [.ref e1, .ref e2, .null, .int 0, .int 0, .int 0])), (e1, .inl (cyI, 20, .inl (fun _ => 0))), (e2, .inl (cyI, 20, .inl (fun _ => 0))), (e3, .inl (cyI, 4, .inl (upd (upd (upd (fun _ => 0) (0 : Int32).toNatClampNeg 1) (1 : Int32).toNatClampNeg 3) (2 : Int32).toNatClampNeg 1)))] := hD
  refine lv_dup hx hb dX3_init_36 rfl ?_
  refine lv_iconst (v := 3) hx hb dX3_init_37 (by decide) ?_
  refine lv_iconst (v := 1) hx hb dX3_init_38 (by decide) ?_
  refine va_iast hx hb hK hP hD hS 3 0 rfl rfl (by unfold vp_in; decide) dX3_init_39 (fun H locs hP hD hS => ?_)
  have hP : va_P (dC, dI) vwCl [(ob, .inr (2, [.ref e1, .ref e2, .null, .int 0, .int 0, .int 0])), (e1, .inl (cyI, 20, .inl (fun _ => 0))), (e2, .inl (cyI, 20, .inl (fun _ => 0))), (e3, .inl (cyI, 4, .inl (upd (upd (upd (upd (fun _ => 0) (0 : Int32).toNatClampNeg 1) (1 : Int32).toNatClampNeg 3) (2 : Int32).toNatClampNeg 1) (3 : Int32).toNatClampNeg 1)))] H := hP
  have hD : va_D A [(ob, .inr (2, [.ref e1, .ref e2, .null, .int 0, .int 0, .int 0])), (e1, .inl (cyI, 20, .inl (fun _ => 0))), (e2, .inl (cyI, 20, .inl (fun _ => 0))), (e3, .inl (cyI, 4, .inl (upd (upd (upd (upd (fun _ => 0) (0 : Int32).toNatClampNeg 1) (1 : Int32).toNatClampNeg 3) (2 : Int32).toNatClampNeg 1) (3 : Int32).toNatClampNeg 1)))] := hD
  refine va_putF (D := (dC, dI)) (ci := 2) (v := .ref e3) (ty := .array .int) (C := RX3) (T := TX3) (N := 6) hx hb hts iaX3 tyX3 tyX3_ok nmX3 hown hK hP hD hS 0 rfl rfl 2 (by decide) (hts _ q40) (fun _ h9 => h9) rfl hin rfl (by decide +kernel) rfl rfl (Nat.le_of_ble_eq_true rfl) dX3_init_40 (fun H locs hP hD hS => ?_)
  have hP : va_P (dC, dI) vwCl [(ob, .inr (2, [.ref e1, .ref e2, .ref e3, .int 0, .int 0, .int 0])), (e1, .inl (cyI, 20, .inl (fun _ => 0))), (e2, .inl (cyI, 20, .inl (fun _ => 0))), (e3, .inl (cyI, 4, .inl (upd (upd (upd (upd (fun _ => 0) (0 : Int32).toNatClampNeg 1) (1 : Int32).toNatClampNeg 3) (2 : Int32).toNatClampNeg 1) (3 : Int32).toNatClampNeg 1)))] H := hP
  have hD : va_D A [(ob, .inr (2, [.ref e1, .ref e2, .ref e3, .int 0, .int 0, .int 0])), (e1, .inl (cyI, 20, .inl (fun _ => 0))), (e2, .inl (cyI, 20, .inl (fun _ => 0))), (e3, .inl (cyI, 4, .inl (upd (upd (upd (upd (fun _ => 0) (0 : Int32).toNatClampNeg 1) (1 : Int32).toNatClampNeg 3) (2 : Int32).toNatClampNeg 1) (3 : Int32).toNatClampNeg 1)))] := hD
  have hP : va_P (dC, dI) vwCl (wX3 cyI cyC ob e1 e2 e3 v0 v0 set0 0 0 0) H := (hP.sub (ws' := (wX3 cyI cyC ob e1 e2 e3 v0 v0 set0 0 0 0)) [0, 1, 2, 3] rfl)
  have hD : va_D A (wX3 cyI cyC ob e1 e2 e3 v0 v0 set0 0 0 0) := hD.sub (ws' := (wX3 cyI cyC ob e1 e2 e3 v0 v0 set0 0 0 0)) [0, 1, 2, 3] (by decide) rfl
  refine W.widen (k := 3) (n := 44) (Nat.le_of_ble_eq_true rfl) (Nat.le_of_ble_eq_true rfl) ?_
  exact W.vret hx hb hr (fun t ht _ => ⟨⟨(e1, e2, e3), rfl, trivial, by rw [ht]; exact hP, hD⟩, hS.F ht⟩) hS.2.2 dX3_init_43 hlk
theorem hdX1_init : yX1_init.cls ≠ "java/lang/invoke/MethodHandle" ∧ yX1_init.cls ≠ "java/lang/invoke/VarHandle" ∧ (parseMethodDescriptor yX1_init.desc).map (fun d => d.parameters.length) = some 0 := by decide +kernel
set_option maxRecDepth 100000 in
set_option maxHeartbeats 8000000 in
theorem mX1_init (l : Launch) (dC : Nat → ClassId) (dI : Nat → Nat → Nat) (cyI cyC cyO : ClassId) (ob sz : Nat) : MetC l yX1_init cX1_init 1 1 12 4 90 ob (dC, dI) (tyS cyI cyC cyO) [(ob, .inr (0, [.null, .int 0, .int 0, .int 0, .int 0, .null, .null, .null]))] sz (fun u : Nat × Nat × Nat × Nat => wX1 cyI cyC ob u.1 u.2.1 u.2.2.1 u.2.2.2 v0 0 0 0 0 v0 v0 v0) := by
  refine metC_of (by decide) (Nat.le_of_ble_eq_true rfl) rfl ?_
  intro p e s m below meth c ls A hC hr hlk hin hP hK hD hA hkC hl
  have hC : CallFix p m c cX1_init 1 s [.ref ob].toArray wA RX1 := hC
  obtain ⟨hx, hb, hml, hown, hts⟩ := id hC
  have hS : va_S A s.heap s.heap [] := va_S.rf
  have hl : lv_has ls 1 [(0, .ref ob)] := hl
  refine lv_aload_n hx hb dX1_init_0 rfl (lv_at hl 0 rfl) ?_
  refine W.objInit hx hb hown (hts _ q66) (hts _ q28) (hts _ q29) rfl (by rw [hml]; exact hl.1) rfl dX1_init_1 (Nat.le_of_ble_eq_true rfl) (Nat.le_of_ble_eq_true rfl) ?_
  refine W.eq (g2 := F0 m 4 ls []) rfl ?_
  refine lv_aload_n hx hb dX1_init_4 rfl (lv_at hl 0 rfl) ?_
  refine lv_bipush (v := 60) hx hb dX1_init_5 (by decide) ?_
  refine g_newa (atype := .char) (ty := .char) hx hb (hts _ q71) rfl 1 rfl hK hP hD hS hA (n := 60) (N := 60) (a0 := (60, .inl (fun _ => 0))) (fun _ => rfl) (by decide) (by decide) (Nat.le_of_ble_eq_true rfl) (Nat.le_of_ble_eq_true rfl) (Nat.le_of_ble_eq_true rfl) dX1_init_7 (fun e1 H hP hD hS => ?_)
  have hP : va_P (dC, dI) vwCl [(ob, .inr (0, [.null, .int 0, .int 0, .int 0, .int 0, .null, .null, .null])), (e1, .inl (cyC, 60, .inl (fun _ => 0)))] H := hP
  have hD : va_D A [(ob, .inr (0, [.null, .int 0, .int 0, .int 0, .int 0, .null, .null, .null])), (e1, .inl (cyC, 60, .inl (fun _ => 0)))] := hD
  refine va_putF (D := (dC, dI)) (ci := 0) (v := .ref e1) (ty := .array .char) (C := RX1) (T := TX1) (N := 8) hx hb hts iaX1 tyX1 tyX1_ok nmX1 hown hK hP hD hS 0 rfl rfl 0 (by decide) (hts _ q67) (fun _ h9 => h9) rfl hin rfl (by decide +kernel) rfl rfl (Nat.le_of_ble_eq_true rfl) dX1_init_9 (fun H locs hP hD hS => ?_)
  have hP : va_P (dC, dI) vwCl [(ob, .inr (0, [.ref e1, .int 0, .int 0, .int 0, .int 0, .null, .null, .null])), (e1, .inl (cyC, 60, .inl (fun _ => 0)))] H := hP
  have hD : va_D A [(ob, .inr (0, [.ref e1, .int 0, .int 0, .int 0, .int 0, .null, .null, .null])), (e1, .inl (cyC, 60, .inl (fun _ => 0)))] := hD
  refine lv_aload_n hx hb dX1_init_12 rfl (lv_at hl 0 rfl) ?_
  refine lv_bipush (v := 10) hx hb dX1_init_13 (by decide) ?_
  refine g_newa (atype := .int) (ty := .int) hx hb (hts _ q48) rfl 0 rfl hK hP hD hS hA (n := 10) (N := 10) (a0 := (10, .inl (fun _ => 0))) (fun _ => rfl) (by decide) (by decide) (Nat.le_of_ble_eq_true rfl) (Nat.le_of_ble_eq_true rfl) (Nat.le_of_ble_eq_true rfl) dX1_init_15 (fun e2 H hP hD hS => ?_)
  have hP : va_P (dC, dI) vwCl [(ob, .inr (0, [.ref e1, .int 0, .int 0, .int 0, .int 0, .null, .null, .null])), (e1, .inl (cyC, 60, .inl (fun _ => 0))), (e2, .inl (cyI, 10, .inl (fun _ => 0)))] H := hP
  have hD : va_D A [(ob, .inr (0, [.ref e1, .int 0, .int 0, .int 0, .int 0, .null, .null, .null])), (e1, .inl (cyC, 60, .inl (fun _ => 0))), (e2, .inl (cyI, 10, .inl (fun _ => 0)))] := hD
  refine va_putF (D := (dC, dI)) (ci := 0) (v := .ref e2) (ty := .array .int) (C := RX1) (T := TX1) (N := 8) hx hb hts iaX1 tyX1 tyX1_ok nmX1 hown hK hP hD hS 0 rfl rfl 5 (by decide) (hts _ q68) (fun _ h9 => h9) rfl hin rfl (by decide +kernel) rfl rfl (Nat.le_of_ble_eq_true rfl) dX1_init_17 (fun H locs hP hD hS => ?_)
  have hP : va_P (dC, dI) vwCl [(ob, .inr (0, [.ref e1, .int 0, .int 0, .int 0, .int 0, .ref e2, .null, .null])), (e1, .inl (cyC, 60, .inl (fun _ => 0))), (e2, .inl (cyI, 10, .inl (fun _ => 0)))] H := hP
  have hD : va_D A [(ob, .inr (0, [.ref e1, .int 0, .int 0, .int 0, .int 0, .ref e2, .null, .null])), (e1, .inl (cyC, 60, .inl (fun _ => 0))), (e2, .inl (cyI, 10, .inl (fun _ => 0)))] := hD
  refine lv_aload_n hx hb dX1_init_20 rfl (lv_at hl 0 rfl) ?_
  refine lv_bipush (v := 10) hx hb dX1_init_21 (by decide) ?_
  refine g_newa (atype := .int) (ty := .int) hx hb (hts _ q48) rfl 0 rfl hK hP hD hS hA (n := 10) (N := 10) (a0 := (10, .inl (fun _ => 0))) (fun _ => rfl) (by decide) (by decide) (Nat.le_of_ble_eq_true rfl) (Nat.le_of_ble_eq_true rfl) (Nat.le_of_ble_eq_true rfl) dX1_init_23 (fun e3 H hP hD hS => ?_)
  have hP : va_P (dC, dI) vwCl [(ob, .inr (0, [.ref e1, .int 0, .int 0, .int 0, .int 0, .ref e2, .null, .null])), (e1, .inl (cyC, 60, .inl (fun _ => 0))), (e2, .inl (cyI, 10, .inl (fun _ => 0))), (e3, .inl (cyI, 10, .inl (fun _ => 0)))] H := hP
  have hD : va_D A [(ob, .inr (0, [.ref e1, .int 0, .int 0, .int 0, .int 0, .ref e2, .null, .null])), (e1, .inl (cyC, 60, .inl (fun _ => 0))), (e2, .inl (cyI, 10, .inl (fun _ => 0))), (e3, .inl (cyI, 10, .inl (fun _ => 0)))] := hD
  refine va_putF (D := (dC, dI)) (ci := 0) (v := .ref e3) (ty := .array .int) (C := RX1) (T := TX1) (N := 8) hx hb hts iaX1 tyX1 tyX1_ok nmX1 hown hK hP hD hS 0 rfl rfl 6 (by decide) (hts _ q69) (fun _ h9 => h9) rfl hin rfl (by decide +kernel) rfl rfl (Nat.le_of_ble_eq_true rfl) dX1_init_25 (fun H locs hP hD hS => ?_)
  have hP : va_P (dC, dI) vwCl [(ob, .inr (0, [.ref e1, .int 0, .int 0, .int 0, .int 0, .ref e2, .ref e3, .null])), (e1, .inl (cyC, 60, .inl (fun _ => 0))), (e2, .inl (cyI, 10, .inl (fun _ => 0))), (e3, .inl (cyI, 10, .inl (fun _ => 0)))] H := hP
  have hD : va_D A [(ob, .inr (0, [.ref e1, .int 0, .int 0, .int 0, .int 0, .ref e2, .ref e3, .null])), (e1, .inl (cyC, 60, .inl (fun _ => 0))), (e2, .inl (cyI, 10, .inl (fun _ => 0))), (e3, .inl (cyI, 10, .inl (fun _ => 0)))] := hD
  refine lv_aload_n hx hb dX1_init_28 rfl (lv_at hl 0 rfl) ?_
  refine lv_bipush (v := 10) hx hb dX1_init_29 (by decide) ?_
  refine g_newa (atype := .int) (ty := .int) hx hb (hts _ q48) rfl 0 rfl hK hP hD hS hA (n := 10) (N := 10) (a0 := (10, .inl (fun _ => 0))) (fun _ => rfl) (by decide) (by decide) (Nat.le_of_ble_eq_true rfl) (Nat.le_of_ble_eq_true rfl) (Nat.le_of_ble_eq_true rfl) dX1_init_31 (fun e4 H hP hD hS => ?_)
  have hP : va_P (dC, dI) vwCl [(ob, .inr (0, [.ref e1, .int 0, .int 0, .int 0, .int 0, .ref e2, .ref e3, .null])), (e1, .inl (cyC, 60, .inl (fun _ => 0))), (e2, .inl (cyI, 10, .inl (fun _ => 0))), (e3, .inl (cyI, 10, .inl (fun _ => 0))), (e4, .inl (cyI, 10, .inl (fun _ => 0)))] H := hP
  have hD : va_D A [(ob, .inr (0, [.ref e1, .int 0, .int 0, .int 0, .int 0, .ref e2, .ref e3, .null])), (e1, .inl (cyC, 60, .inl (fun _ => 0))), (e2, .inl (cyI, 10, .inl (fun _ => 0))), (e3, .inl (cyI, 10, .inl (fun _ => 0))), (e4, .inl (cyI, 10, .inl (fun _ => 0)))] := hD
  refine va_putF (D := (dC, dI)) (ci := 0) (v := .ref e4) (ty := .array .int) (C := RX1) (T := TX1) (N := 8) hx hb hts iaX1 tyX1 tyX1_ok nmX1 hown hK hP hD hS 0 rfl rfl 7 (by decide) (hts _ q70) (fun _ h9 => h9) rfl hin rfl (by decide +kernel) rfl rfl (Nat.le_of_ble_eq_true rfl) dX1_init_33 (fun H locs hP hD hS => ?_)
  have hP : va_P (dC, dI) vwCl [(ob, .inr (0, [.ref e1, .int 0, .int 0, .int 0, .int 0, .ref e2, .ref e3, .ref e4])), (e1, .inl (cyC, 60, .inl (fun _ => 0))), (e2, .inl (cyI, 10, .inl (fun _ => 0))), (e3, .inl (cyI, 10, .inl (fun _ => 0))), (e4, .inl (cyI, 10, .inl (fun _ => 0)))] H := hP
  have hD : va_D A [(ob, .inr (0, [.ref e1, .int 0, .int 0, .int 0, .int 0, .ref e2, .ref e3, .ref e4])), (e1, .inl (cyC, 60, .inl (fun _ => 0))), (e2, .inl (cyI, 10, .inl (fun _ => 0))), (e3, .inl (cyI, 10, .inl (fun _ => 0))), (e4, .inl (cyI, 10, .inl (fun _ => 0)))] := hD
  have hP : va_P (dC, dI) vwCl (wX1 cyI cyC ob e1 e2 e3 e4 v0 0 0 0 0 v0 v0 v0) H := (hP.sub (ws' := (wX1 cyI cyC ob e1 e2 e3 e4 v0 0 0 0 0 v0 v0 v0)) [0, 1, 2, 3, 4] rfl)
  have hD : va_D A (wX1 cyI cyC ob e1 e2 e3 e4 v0 0 0 0 0 v0 v0 v0) := hD.sub (ws' := (wX1 cyI cyC ob e1 e2 e3 e4 v0 0 0 0 0 v0 v0 v0)) [0, 1, 2, 3, 4] (by decide) rfl
  refine W.widen (k := 4) (n := 90) (Nat.le_of_ble_eq_true rfl) (Nat.le_of_ble_eq_true rfl) ?_
  exact W.vret hx hb hr (fun t ht _ => ⟨⟨(e1, e2, e3, e4), rfl, trivial, by rw [ht]; exact hP, hD⟩, hS.F ht⟩) hS.2.2 dX1_init_36 hlk
def sv0 : SV := (v0, v0, set0, 0, 0, 0)
theorem hdX2_init : yX2_init.cls ≠ "java/lang/invoke/MethodHandle" ∧ yX2_init.cls ≠ "java/lang/invoke/VarHandle" ∧ (parseMethodDescriptor yX2_init.desc).map (fun d => d.parameters.length) = some 0 := by decide +kernel
set_option maxRecDepth 100000 in
set_option maxHeartbeats 8000000 in
theorem mX2_init (l : Launch) (dC : Nat → ClassId) (dI : Nat → Nat → Nat) (cyI cyC cyO : ClassId) (ob sz : Nat) : MetC l yX2_init cX2_init 2 2 32 25 306 ob (dC, dI) (tyS cyI cyC cyO) [(ob, .inr (1, [.null, .int 0, .int 0]))] sz (fun u : Nat × (Nat → Nat) × (Nat → Nat) × (Nat → Nat) × (Nat → Nat) => wX2 cyI cyC cyO ob u.1 u.2.1 u.2.2.1 u.2.2.2.1 u.2.2.2.2 (fun _ => sv0) 0 0) := by
  refine metC_of (by decide) (Nat.le_of_ble_eq_true rfl) rfl ?_
  intro p e s m below meth c ls A hC hr hlk hin hP hK hD hA hkC hl
  have hC : CallFix p m c cX2_init 2 s [.ref ob].toArray wA RX2 := hC
  obtain ⟨hx, hb, hml, hown, hts⟩ := id hC
  have hS : va_S A s.heap s.heap [] := va_S.rf
  have hl : lv_has ls 2 [(0, .ref ob)] := hl
  refine lv_aload_n hx hb dX2_init_0 rfl (lv_at hl 0 rfl) ?_
  refine W.objInit hx hb hown (hts _ q54) (hts _ q28) (hts _ q29) rfl (by rw [hml]; exact hl.1) rfl dX2_init_1 (Nat.le_of_ble_eq_true rfl) (Nat.le_of_ble_eq_true rfl) ?_
  refine W.eq (g2 := F0 m 4 ls []) rfl ?_
  refine lv_aload_n hx hb dX2_init_4 rfl (lv_at hl 0 rfl) ?_
  refine lv_bipush (v := 6) hx hb dX2_init_5 (by decide) ?_
  refine g_newq (N := 6) hx hb hown (hts _ q55) hkC.2.2.2 2 rfl hK hP hD hS hA (by decide) (by decide) (Nat.le_of_ble_eq_true rfl) (Nat.le_of_ble_eq_true rfl) (Nat.le_of_ble_eq_true rfl) dX2_init_7 (fun e1 H hP hD hS => ?_)
  have hP : va_P (dC, dI) vwCl [(ob, .inr (1, [.null, .int 0, .int 0])), (e1, .inl (cyO, 6, .inr (.inr (.inr (.inr (fun _ => none))))))] H := hP
  have hD : va_D A [(ob, .inr (1, [.null, .int 0, .int 0])), (e1, .inl (cyO, 6, .inr (.inr (.inr (.inr (fun _ => none))))))] := hD
  refine va_putF (D := (dC, dI)) (ci := 1) (v := .ref e1) (ty := .array (.object "FuseRows$State")) (C := RX2) (T := TX2) (N := 3) hx hb hts iaX2 tyX2 tyX2_ok nmX2 hown hK hP hD hS 0 rfl rfl 0 (by decide) (hts _ q57) (fun _ h9 => h9) rfl hin rfl (by decide +kernel) rfl rfl (Nat.le_of_ble_eq_true rfl) dX2_init_10 (fun H locs hP hD hS => ?_)
  have hP : va_P (dC, dI) vwCl [(ob, .inr (1, [.ref e1, .int 0, .int 0])), (e1, .inl (cyO, 6, .inr (.inr (.inr (.inr (fun _ => none))))))] H := hP
  have hD : va_D A [(ob, .inr (1, [.ref e1, .int 0, .int 0])), (e1, .inl (cyO, 6, .inr (.inr (.inr (.inr (fun _ => none))))))] := hD
  refine lv_iconst (v := 0) hx hb dX2_init_13 (by decide) ?_
  refine lv_istore_n (lv' := [(1, .int 0), (0, .ref ob)]) hx hb dX2_init_14 rfl hl (by decide) rfl (fun ls hl => ?_)
  refine lv_iload_n hx hb dX2_init_15 rfl (lv_at hl 0 rfl) ?_
  refine lv_bipush (v := 6) hx hb dX2_init_16 (by decide) ?_
  refine lv_icmp_ge (tgt := 40) hx hb dX2_init_18 (by decide) (fun q => absurd q (by decide)) (fun _ => ?_)
  refine lv_aload_n hx hb dX2_init_21 rfl (lv_at hl 1 rfl) ?_
  refine va_get (D := (dC, dI)) (ci := 1) (v := .ref e1) (C := RX2) (T := TX2) (N := 3) hx hb hts iaX2 hown hK hP 0 rfl rfl 0 (by decide) (hts _ q57) (fun _ h9 => h9) rfl dX2_init_22 ?_
  refine lv_iload_n hx hb dX2_init_25 rfl (lv_at hl 0 rfl) ?_
  refine va_new (ci := 2) (fs := [.null, .null, .null, .int 0, .int 0, .int 0]) (C := RX3) (T := TX3) (N := 6) hx hb hts iaX3 tyX3 tyX3_ok hown (hts _ q55) (hts _ q31) (hts _ q9) hK hP hD hS hA rfl (fun j hj => by rcases (show j = 0 ∨ j = 1 ∨ j = 2 ∨ j = 3 ∨ j = 4 ∨ j = 5 by omega) with rfl | rfl | rfl | rfl | rfl | rfl <;> rfl) (Nat.le_of_ble_eq_true rfl) (Nat.le_of_ble_eq_true rfl) dX2_init_26 (fun e2 H hP hD hS => ?_)
  have hP : va_P (dC, dI) vwCl ([(ob, .inr (1, [.ref e1, .int 0, .int 0])), (e1, .inl (cyO, 6, .inr (.inr (.inr (.inr (fun _ => none))))))] ++ [(e2, .inr (2, [.null, .null, .null, .int 0, .int 0, .int 0]))]) H := hP
  have hD : va_D A ([(ob, .inr (1, [.ref e1, .int 0, .int 0])), (e1, .inl (cyO, 6, .inr (.inr (.inr (.inr (fun _ => none))))))] ++ [(e2, .inr (2, [.null, .null, .null, .int 0, .int 0, .int 0]))]) := hD
  refine lv_dup hx hb dX2_init_29 rfl ?_
  refine g_ctorN hC (mX3_init l dC dI cyI cyC cyO e2 _) hkC.2.1 q9 q34 q33 rfl hdX3_init ⟨(Nat.le_of_ble_eq_true rfl), (Nat.le_of_ble_eq_true rfl)⟩ ⟨(Nat.le_of_ble_eq_true rfl), (Nat.le_of_ble_eq_true rfl)⟩ hl.1 (Nat.le_of_ble_eq_true rfl) hP hK hD hS hA hkC dX2_init_30 (fun u3 H locs hP hD hS => ?_)
  have hP : va_P (dC, dI) vwCl ([(ob, .inr (1, [.ref e1, .int 0, .int 0])), (e1, .inl (cyO, 6, .inr (.inr (.inr (.inr (fun _ => none))))))] ++ (wX3 cyI cyC e2 u3.1 u3.2.1 u3.2.2 v0 v0 set0 0 0 0)) H := hP
  have hD : va_D A ([(ob, .inr (1, [.ref e1, .int 0, .int 0])), (e1, .inl (cyO, 6, .inr (.inr (.inr (.inr (fun _ => none))))))] ++ (wX3 cyI cyC e2 u3.1 u3.2.1 u3.2.2 v0 v0 set0 0 0 0)) := hD
  refine va_astq (ci := 2) (r := (RX3, TX3, 6)) hx hb hK hP hD hS 1 2 2 rfl rfl rfl rfl (by unfold vp_in; decide) dX2_init_33 (fun H locs hP hD hS => ?_)
  have hP : va_P (dC, dI) vwCl ([(ob, .inr (1, [.ref e1, .int 0, .int 0])), (e1, .inl (cyO, 6, .inr (.inr (.inr (.inr (va_up (fun _ => none) (0 : Int32).toNatClampNeg (some e2)))))))] ++ (wX3 cyI cyC e2 u3.1 u3.2.1 u3.2.2 v0 v0 set0 0 0 0)) H := hP
  have hD : va_D A ([(ob, .inr (1, [.ref e1, .int 0, .int 0])), (e1, .inl (cyO, 6, .inr (.inr (.inr (.inr (va_up (fun _ => none) (0 : Int32).toNatClampNeg (some e2)))))))] ++ (wX3 cyI cyC e2 u3.1 u3.2.1 u3.2.2 v0 v0 set0 0 0 0)) := hD
  refine lv_iinc (v := 1) (lv' := [(1, .int 1), (0, .ref ob)]) hx hb dX2_init_34 hl (k := 0) rfl (by decide) (by decide) rfl (fun ls hl => ?_)
  refine lv_goto (tgt := 15) hx hb dX2_init_37 (by decide) ?_
  refine lv_iload_n hx hb dX2_init_15 rfl (lv_at hl 0 rfl) ?_
  refine lv_bipush (v := 6) hx hb dX2_init_16 (by decide) ?_
  refine lv_icmp_ge (tgt := 40) hx hb dX2_init_18 (by decide) (fun q => absurd q (by decide)) (fun _ => ?_)
  refine lv_aload_n hx hb dX2_init_21 rfl (lv_at hl 1 rfl) ?_
  refine va_get (D := (dC, dI)) (ci := 1) (v := .ref e1) (C := RX2) (T := TX2) (N := 3) hx hb hts iaX2 hown hK hP 0 rfl rfl 0 (by decide) (hts _ q57) (fun _ h9 => h9) rfl dX2_init_22 ?_
  refine lv_iload_n hx hb dX2_init_25 rfl (lv_at hl 0 rfl) ?_
  refine va_new (ci := 2) (fs := [.null, .null, .null, .int 0, .int 0, .int 0]) (C := RX3) (T := TX3) (N := 6) hx hb hts iaX3 tyX3 tyX3_ok hown (hts _ q55) (hts _ q31) (hts _ q9) hK hP hD hS hA rfl (fun j hj => by rcases (show j = 0 ∨ j = 1 ∨ j = 2 ∨ j = 3 ∨ j = 4 ∨ j = 5 by omega) with rfl | rfl | rfl | rfl | rfl | rfl <;> rfl) (Nat.le_of_ble_eq_true rfl) (Nat.le_of_ble_eq_true rfl) dX2_init_26 (fun e4 H hP hD hS => ?_)
  have hP : va_P (dC, dI) vwCl (([(ob, .inr (1, [.ref e1, .int 0, .int 0])), (e1, .inl (cyO, 6, .inr (.inr (.inr (.inr (va_up (fun _ => none) (0 : Int32).toNatClampNeg (some e2)))))))] ++ (wX3 cyI cyC e2 u3.1 u3.2.1 u3.2.2 v0 v0 set0 0 0 0)) ++ [(e4, .inr (2, [.null, .null, .null, .int 0, .int 0, .int 0]))]) H := hP
  have hD : va_D A (([(ob, .inr (1, [.ref e1, .int 0, .int 0])), (e1, .inl (cyO, 6, .inr (.inr (.inr (.inr (va_up (fun _ => none) (0 : Int32).toNatClampNeg (some e2)))))))] ++ (wX3 cyI cyC e2 u3.1 u3.2.1 u3.2.2 v0 v0 set0 0 0 0)) ++ [(e4, .inr (2, [.null, .null, .null, .int 0, .int 0, .int 0]))]) := hD
  refine lv_dup hx hb dX2_init_29 rfl ?_
  refine g_ctorN hC (mX3_init l dC dI cyI cyC cyO e4 _) hkC.2.1 q9 q34 q33 rfl hdX3_init ⟨(Nat.le_of_ble_eq_true rfl), (Nat.le_of_ble_eq_true rfl)⟩ ⟨(Nat.le_of_ble_eq_true rfl), (Nat.le_of_ble_eq_true rfl)⟩ hl.1 (Nat.le_of_ble_eq_true rfl) hP hK hD hS hA hkC dX2_init_30 (fun u5 H locs hP hD hS => ?_)
  have hP : va_P (dC, dI) vwCl ([(ob, .inr (1, [.ref e1, .int 0, .int 0])), (e1, .inl (cyO, 6, .inr (.inr (.inr (.inr (va_up (fun _ => none) (0 : Int32).toNatClampNeg (some e2)))))))] ++ (wX3 cyI cyC e2 u3.1 u3.2.1 u3.2.2 v0 v0 set0 0 0 0) ++ (wX3 cyI cyC e4 u5.1 u5.2.1 u5.2.2 v0 v0 set0 0 0 0)) H := hP
  have hD : va_D A ([(ob, .inr (1, [.ref e1, .int 0, .int 0])), (e1, .inl (cyO, 6, .inr (.inr (.inr (.inr (va_up (fun _ => none) (0 : Int32).toNatClampNeg (some e2)))))))] ++ (wX3 cyI cyC e2 u3.1 u3.2.1 u3.2.2 v0 v0 set0 0 0 0) ++ (wX3 cyI cyC e4 u5.1 u5.2.1 u5.2.2 v0 v0 set0 0 0 0)) := hD
  refine va_astq (ci := 2) (r := (RX3, TX3, 6)) hx hb hK hP hD hS 1 2 6 rfl rfl rfl rfl (by unfold vp_in; decide) dX2_init_33 (fun H locs hP hD hS => ?_)
  have hP : va_P (dC, dI) vwCl ([(ob, .inr (1, [.ref e1, .int 0, .int 0])), (e1, .inl (cyO, 6, .inr (.inr (.inr (.inr (va_up (va_up (fun _ => none) (0 : Int32).toNatClampNeg (some e2)) (1 : Int32).toNatClampNeg (some e4)))))))] ++ (wX3 cyI cyC e2 u3.1 u3.2.1 u3.2.2 v0 v0 set0 0 0 0) ++ (wX3 cyI cyC e4 u5.1 u5.2.1 u5.2.2 v0 v0 set0 0 0 0)) H := hP
  have hD : va_D A ([(ob, .inr (1, [.ref e1, .int 0, .int 0])), (e1, .inl (cyO, 6, .inr (.inr (.inr (.inr (va_up (va_up (fun _ => none) (0 : Int32).toNatClampNeg (some e2)) (1 : Int32).toNatClampNeg (some e4)))))))] ++ (wX3 cyI cyC e2 u3.1 u3.2.1 u3.2.2 v0 v0 set0 0 0 0) ++ (wX3 cyI cyC e4 u5.1 u5.2.1 u5.2.2 v0 v0 set0 0 0 0)) := hD
  refine lv_iinc (v := 2) (lv' := [(1, .int 2), (0, .ref ob)]) hx hb dX2_init_34 hl (k := 0) rfl (by decide) (by decide) rfl (fun ls hl => ?_)
  refine lv_goto (tgt := 15) hx hb dX2_init_37 (by decide) ?_
  refine lv_iload_n hx hb dX2_init_15 rfl (lv_at hl 0 rfl) ?_
  refine lv_bipush (v := 6) hx hb dX2_init_16 (by decide) ?_
  refine lv_icmp_ge (tgt := 40) hx hb dX2_init_18 (by decide) (fun q => absurd q (by decide)) (fun _ => ?_)
  refine lv_aload_n hx hb dX2_init_21 rfl (lv_at hl 1 rfl) ?_
  refine va_get (D := (dC, dI)) (ci := 1) (v := .ref e1) (C := RX2) (T := TX2) (N := 3) hx hb hts iaX2 hown hK hP 0 rfl rfl 0 (by decide) (hts _ q57) (fun _ h9 => h9) rfl dX2_init_22 ?_
  refine lv_iload_n hx hb dX2_init_25 rfl (lv_at hl 0 rfl) ?_
  refine va_new (ci := 2) (fs := [.null, .null, .null, .int 0, .int 0, .int 0]) (C := RX3) (T := TX3) (N := 6) hx hb hts iaX3 tyX3 tyX3_ok hown (hts _ q55) (hts _ q31) (hts _ q9) hK hP hD hS hA rfl (fun j hj => by rcases (show j = 0 ∨ j = 1 ∨ j = 2 ∨ j = 3 ∨ j = 4 ∨ j = 5 by omega) with rfl | rfl | rfl | rfl | rfl | rfl <;> rfl) (Nat.le_of_ble_eq_true rfl) (Nat.le_of_ble_eq_true rfl) dX2_init_26 (fun e6 H hP hD hS => ?_)
  have hP : va_P (dC, dI) vwCl (([(ob, .inr (1, [.ref e1, .int 0, .int 0])), (e1, .inl (cyO, 6, .inr (.inr (.inr (.inr (va_up (va_up (fun _ => none) (0 : Int32).toNatClampNeg (some e2)) (1 : Int32).toNatClampNeg (some e4)))))))] ++ (wX3 cyI cyC e2 u3.1 u3.2.1 u3.2.2 v0 v0 set0 0 0 0) ++ (wX3 cyI cyC e4 u5.1 u5.2.1 u5.2.2 v0 v0 set0 0 0 0)) ++ [(e6, .inr (2, [.null, .null, .null, .int 0, .int 0, .int 0]))]) H := hP
  have hD : va_D A (([(ob, .inr (1, [.ref e1, .int 0, .int 0])), (e1, .inl (cyO, 6, .inr (.inr (.inr (.inr (va_up (va_up (fun _ => none) (0 : Int32).toNatClampNeg (some e2)) (1 : Int32).toNatClampNeg (some e4)))))))] ++ (wX3 cyI cyC e2 u3.1 u3.2.1 u3.2.2 v0 v0 set0 0 0 0) ++ (wX3 cyI cyC e4 u5.1 u5.2.1 u5.2.2 v0 v0 set0 0 0 0)) ++ [(e6, .inr (2, [.null, .null, .null, .int 0, .int 0, .int 0]))]) := hD
  refine lv_dup hx hb dX2_init_29 rfl ?_
  refine g_ctorN hC (mX3_init l dC dI cyI cyC cyO e6 _) hkC.2.1 q9 q34 q33 rfl hdX3_init ⟨(Nat.le_of_ble_eq_true rfl), (Nat.le_of_ble_eq_true rfl)⟩ ⟨(Nat.le_of_ble_eq_true rfl), (Nat.le_of_ble_eq_true rfl)⟩ hl.1 (Nat.le_of_ble_eq_true rfl) hP hK hD hS hA hkC dX2_init_30 (fun u7 H locs hP hD hS => ?_)
  have hP : va_P (dC, dI) vwCl ([(ob, .inr (1, [.ref e1, .int 0, .int 0])), (e1, .inl (cyO, 6, .inr (.inr (.inr (.inr (va_up (va_up (fun _ => none) (0 : Int32).toNatClampNeg (some e2)) (1 : Int32).toNatClampNeg (some e4)))))))] ++ (wX3 cyI cyC e2 u3.1 u3.2.1 u3.2.2 v0 v0 set0 0 0 0) ++ (wX3 cyI cyC e4 u5.1 u5.2.1 u5.2.2 v0 v0 set0 0 0 0) ++ (wX3 cyI cyC e6 u7.1 u7.2.1 u7.2.2 v0 v0 set0 0 0 0)) H := hP
  have hD : va_D A ([(ob, .inr (1, [.ref e1, .int 0, .int 0])), (e1, .inl (cyO, 6, .inr (.inr (.inr (.inr (va_up (va_up (fun _ => none) (0 : Int32).toNatClampNeg (some e2)) (1 : Int32).toNatClampNeg (some e4)))))))] ++ (wX3 cyI cyC e2 u3.1 u3.2.1 u3.2.2 v0 v0 set0 0 0 0) ++ (wX3 cyI cyC e4 u5.1 u5.2.1 u5.2.2 v0 v0 set0 0 0 0) ++ (wX3 cyI cyC e6 u7.1 u7.2.1 u7.2.2 v0 v0 set0 0 0 0)) := hD
  refine va_astq (ci := 2) (r := (RX3, TX3, 6)) hx hb hK hP hD hS 1 2 10 rfl rfl rfl rfl (by unfold vp_in; decide) dX2_init_33 (fun H locs hP hD hS => ?_)
  have hP : va_P (dC, dI) vwCl ([(ob, .inr (1, [.ref e1, .int 0, .int 0])), (e1, .inl (cyO, 6, .inr (.inr (.inr (.inr (va_up (va_up (va_up (fun _ => none) (0 : Int32).toNatClampNeg (some e2)) (1 : Int32).toNatClampNeg (some e4)) (2 : Int32).toNatClampNeg (some e6)))))))] ++ (wX3 cyI cyC e2 u3.1 u3.2.1 u3.2.2 v0 v0 set0 0 0 0) ++ (wX3 cyI cyC e4 u5.1 u5.2.1 u5.2.2 v0 v0 set0 0 0 0) ++ (wX3 cyI cyC e6 u7.1 u7.2.1 u7.2.2 v0 v0 set0 0 0 0)) H := hP
  have hD : va_D A ([(ob, .inr (1, [.ref e1, .int 0, .int 0])), (e1, .inl (cyO, 6, .inr (.inr (.inr (.inr (va_up (va_up (va_up (fun _ => none) (0 : Int32).toNatClampNeg (some e2)) (1 : Int32).toNatClampNeg (some e4)) (2 : Int32).toNatClampNeg (some e6)))))))] ++ (wX3 cyI cyC e2 u3.1 u3.2.1 u3.2.2 v0 v0 set0 0 0 0) ++ (wX3 cyI cyC e4 u5.1 u5.2.1 u5.2.2 v0 v0 set0 0 0 0) ++ (wX3 cyI cyC e6 u7.1 u7.2.1 u7.2.2 v0 v0 set0 0 0 0)) := hD
  refine lv_iinc (v := 3) (lv' := [(1, .int 3), (0, .ref ob)]) hx hb dX2_init_34 hl (k := 0) rfl (by decide) (by decide) rfl (fun ls hl => ?_)
  refine lv_goto (tgt := 15) hx hb dX2_init_37 (by decide) ?_
  refine lv_iload_n hx hb dX2_init_15 rfl (lv_at hl 0 rfl) ?_
  refine lv_bipush (v := 6) hx hb dX2_init_16 (by decide) ?_
  refine lv_icmp_ge (tgt := 40) hx hb dX2_init_18 (by decide) (fun q => absurd q (by decide)) (fun _ => ?_)
  refine lv_aload_n hx hb dX2_init_21 rfl (lv_at hl 1 rfl) ?_
  refine va_get (D := (dC, dI)) (ci := 1) (v := .ref e1) (C := RX2) (T := TX2) (N := 3) hx hb hts iaX2 hown hK hP 0 rfl rfl 0 (by decide) (hts _ q57) (fun _ h9 => h9) rfl dX2_init_22 ?_
  refine lv_iload_n hx hb dX2_init_25 rfl (lv_at hl 0 rfl) ?_
  refine va_new (ci := 2) (fs := [.null, .null, .null, .int 0, .int 0, .int 0]) (C := RX3) (T := TX3) (N := 6) hx hb hts iaX3 tyX3 tyX3_ok hown (hts _ q55) (hts _ q31) (hts _ q9) hK hP hD hS hA rfl (fun j hj => by rcases (show j = 0 ∨ j = 1 ∨ j = 2 ∨ j = 3 ∨ j = 4 ∨ j = 5 by omega) with rfl | rfl | rfl | rfl | rfl | rfl <;> rfl) (Nat.le_of_ble_eq_true rfl) (Nat.le_of_ble_eq_true rfl) dX2_init_26 (fun e8 H hP hD hS => ?_)
  have hP : va_P (dC, dI) vwCl (([(ob, .inr (1, [.ref e1, .int 0, .int 0])), (e1, .inl (cyO, 6, .inr (.inr (.inr (.inr (va_up (va_up (va_up (fun _ => none) (0 : Int32).toNatClampNeg (some e2)) (1 : Int32).toNatClampNeg (some e4)) (2 : Int32).toNatClampNeg (some e6)))))))] ++ (wX3 cyI cyC e2 u3.1 u3.2.1 u3.2.2 v0 v0 set0 0 0 0) ++ (wX3 cyI cyC e4 u5.1 u5.2.1 u5.2.2 v0 v0 set0 0 0 0) ++ (wX3 cyI cyC e6 u7.1 u7.2.1 u7.2.2 v0 v0 set0 0 0 0)) ++ [(e8, .inr (2, [.null, .null, .null, .int 0, .int 0, .int 0]))]) H := hP
  have hD : va_D A (([(ob, .inr (1, [.ref e1, .int 0, .int 0])), (e1, .inl (cyO, 6, .inr (.inr (.inr (.inr (va_up (va_up (va_up (fun _ => none) (0 : Int32).toNatClampNeg (some e2)) (1 : Int32).toNatClampNeg (some e4)) (2 : Int32).toNatClampNeg (some e6)))))))] ++ (wX3 cyI cyC e2 u3.1 u3.2.1 u3.2.2 v0 v0 set0 0 0 0) ++ (wX3 cyI cyC e4 u5.1 u5.2.1 u5.2.2 v0 v0 set0 0 0 0) ++ (wX3 cyI cyC e6 u7.1 u7.2.1 u7.2.2 v0 v0 set0 0 0 0)) ++ [(e8, .inr (2, [.null, .null, .null, .int 0, .int 0, .int 0]))]) := hD
  refine lv_dup hx hb dX2_init_29 rfl ?_
  refine g_ctorN hC (mX3_init l dC dI cyI cyC cyO e8 _) hkC.2.1 q9 q34 q33 rfl hdX3_init ⟨(Nat.le_of_ble_eq_true rfl), (Nat.le_of_ble_eq_true rfl)⟩ ⟨(Nat.le_of_ble_eq_true rfl), (Nat.le_of_ble_eq_true rfl)⟩ hl.1 (Nat.le_of_ble_eq_true rfl) hP hK hD hS hA hkC dX2_init_30 (fun u9 H locs hP hD hS => ?_)
  have hP : va_P (dC, dI) vwCl ([(ob, .inr (1, [.ref e1, .int 0, .int 0])), (e1, .inl (cyO, 6, .inr (.inr (.inr (.inr (va_up (va_up (va_up (fun _ => none) (0 : Int32).toNatClampNeg (some e2)) (1 : Int32).toNatClampNeg (some e4)) (2 : Int32).toNatClampNeg (some e6)))))))] ++ (wX3 cyI cyC e2 u3.1 u3.2.1 u3.2.2 v0 v0 set0 0 0 0) ++ (wX3 cyI cyC e4 u5.1 u5.2.1 u5.2.2 v0 v0 set0 0 0 0) ++ (wX3 cyI cyC e6 u7.1 u7.2.1 u7.2.2 v0 v0 set0 0 0 0) ++ (wX3 cyI cyC e8 u9.1 u9.2.1 u9.2.2 v0 v0 set0 0 0 0)) H := hP
  have hD : va_D A ([(ob, .inr (1, [.ref e1, .int 0, .int 0])), (e1, .inl (cyO, 6, .inr (.inr (.inr (.inr (va_up (va_up (va_up (fun _ => none) (0 : Int32).toNatClampNeg (some e2)) (1 : Int32).toNatClampNeg (some e4)) (2 : Int32).toNatClampNeg (some e6)))))))] ++ (wX3 cyI cyC e2 u3.1 u3.2.1 u3.2.2 v0 v0 set0 0 0 0) ++ (wX3 cyI cyC e4 u5.1 u5.2.1 u5.2.2 v0 v0 set0 0 0 0) ++ (wX3 cyI cyC e6 u7.1 u7.2.1 u7.2.2 v0 v0 set0 0 0 0) ++ (wX3 cyI cyC e8 u9.1 u9.2.1 u9.2.2 v0 v0 set0 0 0 0)) := hD
  refine va_astq (ci := 2) (r := (RX3, TX3, 6)) hx hb hK hP hD hS 1 2 14 rfl rfl rfl rfl (by unfold vp_in; decide) dX2_init_33 (fun H locs hP hD hS => ?_)
  have hP : va_P (dC, dI) vwCl ([(ob, .inr (1, [.ref e1, .int 0, .int 0])), (e1, .inl (cyO, 6, .inr (.inr (.inr (.inr (va_up (va_up (va_up (va_up (fun _ => none) (0 : Int32).toNatClampNeg (some e2)) (1 : Int32).toNatClampNeg (some e4)) (2 : Int32).toNatClampNeg (some e6)) (3 : Int32).toNatClampNeg (some e8)))))))] ++ (wX3 cyI cyC e2 u3.1 u3.2.1 u3.2.2 v0 v0 set0 0 0 0) ++ (wX3 cyI cyC e4 u5.1 u5.2.1 u5.2.2 v0 v0 set0 0 0 0) ++ (wX3 cyI cyC e6 u7.1 u7.2.1 u7.2.2 v0 v0 set0 0 0 0) ++ (wX3 cyI cyC e8 u9.1 u9.2.1 u9.2.2 v0 v0 set0 0 0 0)) H := hP
  have hD : va_D A ([(ob, .inr (1, [.ref e1, .int 0, .int 0])), (e1, .inl (cyO, 6, .inr (.inr (.inr (.inr (va_up (va_up (va_up (va_up (fun _ => none) (0 : Int32).toNatClampNeg (some e2)) (1 : Int32).toNatClampNeg (some e4)) (2 : Int32).toNatClampNeg (some e6)) (3 : Int32).toNatClampNeg (some e8)))))))] ++ (wX3 cyI cyC e2 u3.1 u3.2.1 u3.2.2 v0 v0 set0 0 0 0) ++ (wX3 cyI cyC e4 u5.1 u5.2.1 u5.2.2 v0 v0 set0 0 0 0) ++ (wX3 cyI cyC e6 u7.1 u7.2.1 u7.2.2 v0 v0 set0 0 0 0) ++ (wX3 cyI cyC e8 u9.1 u9.2.1 u9.2.2 v0 v0 set0 0 0 0)) := hD
  refine lv_iinc (v := 4) (lv' := [(1, .int 4), (0, .ref ob)]) hx hb dX2_init_34 hl (k := 0) rfl (by decide) (by decide) rfl (fun ls hl => ?_)
  refine lv_goto (tgt := 15) hx hb dX2_init_37 (by decide) ?_
  refine lv_iload_n hx hb dX2_init_15 rfl (lv_at hl 0 rfl) ?_
  refine lv_bipush (v := 6) hx hb dX2_init_16 (by decide) ?_
  refine lv_icmp_ge (tgt := 40) hx hb dX2_init_18 (by decide) (fun q => absurd q (by decide)) (fun _ => ?_)
  refine lv_aload_n hx hb dX2_init_21 rfl (lv_at hl 1 rfl) ?_
  refine va_get (D := (dC, dI)) (ci := 1) (v := .ref e1) (C := RX2) (T := TX2) (N := 3) hx hb hts iaX2 hown hK hP 0 rfl rfl 0 (by decide) (hts _ q57) (fun _ h9 => h9) rfl dX2_init_22 ?_
  refine lv_iload_n hx hb dX2_init_25 rfl (lv_at hl 0 rfl) ?_
  refine va_new (ci := 2) (fs := [.null, .null, .null, .int 0, .int 0, .int 0]) (C := RX3) (T := TX3) (N := 6) hx hb hts iaX3 tyX3 tyX3_ok hown (hts _ q55) (hts _ q31) (hts _ q9) hK hP hD hS hA rfl (fun j hj => by rcases (show j = 0 ∨ j = 1 ∨ j = 2 ∨ j = 3 ∨ j = 4 ∨ j = 5 by omega) with rfl | rfl | rfl | rfl | rfl | rfl <;> rfl) (Nat.le_of_ble_eq_true rfl) (Nat.le_of_ble_eq_true rfl) dX2_init_26 (fun e10 H hP hD hS => ?_)
  have hP : va_P (dC, dI) vwCl (([(ob, .inr (1, [.ref e1, .int 0, .int 0])), (e1, .inl (cyO, 6, .inr (.inr (.inr (.inr (va_up (va_up (va_up (va_up (fun _ => none) (0 : Int32).toNatClampNeg (some e2)) (1 : Int32).toNatClampNeg (some e4)) (2 : Int32).toNatClampNeg (some e6)) (3 : Int32).toNatClampNeg (some e8)))))))] ++ (wX3 cyI cyC e2 u3.1 u3.2.1 u3.2.2 v0 v0 set0 0 0 0) ++ (wX3 cyI cyC e4 u5.1 u5.2.1 u5.2.2 v0 v0 set0 0 0 0) ++ (wX3 cyI cyC e6 u7.1 u7.2.1 u7.2.2 v0 v0 set0 0 0 0) ++ (wX3 cyI cyC e8 u9.1 u9.2.1 u9.2.2 v0 v0 set0 0 0 0)) ++ [(e10, .inr (2, [.null, .null, .null, .int 0, .int 0, .int 0]))]) H := hP
  have hD : va_D A (([(ob, .inr (1, [.ref e1, .int 0, .int 0])), (e1, .inl (cyO, 6, .inr (.inr (.inr (.inr (va_up (va_up (va_up (va_up (fun _ => none) (0 : Int32).toNatClampNeg (some e2)) (1 : Int32).toNatClampNeg (some e4)) (2 : Int32).toNatClampNeg (some e6)) (3 : Int32).toNatClampNeg (some e8)))))))] ++ (wX3 cyI cyC e2 u3.1 u3.2.1 u3.2.2 v0 v0 set0 0 0 0) ++ (wX3 cyI cyC e4 u5.1 u5.2.1 u5.2.2 v0 v0 set0 0 0 0) ++ (wX3 cyI cyC e6 u7.1 u7.2.1 u7.2.2 v0 v0 set0 0 0 0) ++ (wX3 cyI cyC e8 u9.1 u9.2.1 u9.2.2 v0 v0 set0 0 0 0)) ++ [(e10, .inr (2, [.null, .null, .null, .int 0, .int 0, .int 0]))]) := hD
  refine lv_dup hx hb dX2_init_29 rfl ?_
  refine g_ctorN hC (mX3_init l dC dI cyI cyC cyO e10 _) hkC.2.1 q9 q34 q33 rfl hdX3_init ⟨(Nat.le_of_ble_eq_true rfl), (Nat.le_of_ble_eq_true rfl)⟩ ⟨(Nat.le_of_ble_eq_true rfl), (Nat.le_of_ble_eq_true rfl)⟩ hl.1 (Nat.le_of_ble_eq_true rfl) hP hK hD hS hA hkC dX2_init_30 (fun u11 H locs hP hD hS => ?_)
  have hP : va_P (dC, dI) vwCl ([(ob, .inr (1, [.ref e1, .int 0, .int 0])), (e1, .inl (cyO, 6, .inr (.inr (.inr (.inr (va_up (va_up (va_up (va_up (fun _ => none) (0 : Int32).toNatClampNeg (some e2)) (1 : Int32).toNatClampNeg (some e4)) (2 : Int32).toNatClampNeg (some e6)) (3 : Int32).toNatClampNeg (some e8)))))))] ++ (wX3 cyI cyC e2 u3.1 u3.2.1 u3.2.2 v0 v0 set0 0 0 0) ++ (wX3 cyI cyC e4 u5.1 u5.2.1 u5.2.2 v0 v0 set0 0 0 0) ++ (wX3 cyI cyC e6 u7.1 u7.2.1 u7.2.2 v0 v0 set0 0 0 0) ++ (wX3 cyI cyC e8 u9.1 u9.2.1 u9.2.2 v0 v0 set0 0 0 0) ++ (wX3 cyI cyC e10 u11.1 u11.2.1 u11.2.2 v0 v0 set0 0 0 0)) H := hP
  have hD : va_D A ([(ob, .inr (1, [.ref e1, .int 0, .int 0])), (e1, .inl (cyO, 6, .inr (.inr (.inr (.inr (va_up (va_up (va_up (va_up (fun _ => none) (0 : Int32).toNatClampNeg (some e2)) (1 : Int32).toNatClampNeg (some e4)) (2 : Int32).toNatClampNeg (some e6)) (3 : Int32).toNatClampNeg (some e8)))))))] ++ (wX3 cyI cyC e2 u3.1 u3.2.1 u3.2.2 v0 v0 set0 0 0 0) ++ (wX3 cyI cyC e4 u5.1 u5.2.1 u5.2.2 v0 v0 set0 0 0 0) ++ (wX3 cyI cyC e6 u7.1 u7.2.1 u7.2.2 v0 v0 set0 0 0 0) ++ (wX3 cyI cyC e8 u9.1 u9.2.1 u9.2.2 v0 v0 set0 0 0 0) ++ (wX3 cyI cyC e10 u11.1 u11.2.1 u11.2.2 v0 v0 set0 0 0 0)) := hD
  refine va_astq (ci := 2) (r := (RX3, TX3, 6)) hx hb hK hP hD hS 1 2 18 rfl rfl rfl rfl (by unfold vp_in; decide) dX2_init_33 (fun H locs hP hD hS => ?_)
  have hP : va_P (dC, dI) vwCl ([(ob, .inr (1, [.ref e1, .int 0, .int 0])), (e1, .inl (cyO, 6, .inr (.inr (.inr (.inr (va_up (va_up (va_up (va_up (va_up (fun _ => none) (0 : Int32).toNatClampNeg (some e2)) (1 : Int32).toNatClampNeg (some e4)) (2 : Int32).toNatClampNeg (some e6)) (3 : Int32).toNatClampNeg (some e8)) (4 : Int32).toNatClampNeg (some e10)))))))] ++ (wX3 cyI cyC e2 u3.1 u3.2.1 u3.2.2 v0 v0 set0 0 0 0) ++ (wX3 cyI cyC e4 u5.1 u5.2.1 u5.2.2 v0 v0 set0 0 0 0) ++ (wX3 cyI cyC e6 u7.1 u7.2.1 u7.2.2 v0 v0 set0 0 0 0) ++ (wX3 cyI cyC e8 u9.1 u9.2.1 u9.2.2 v0 v0 set0 0 0 0) ++ (wX3 cyI cyC e10 u11.1 u11.2.1 u11.2.2 v0 v0 set0 0 0 0)) H := hP
  have hD : va_D A ([(ob, .inr (1, [.ref e1, .int 0, .int 0])), (e1, .inl (cyO, 6, .inr (.inr (.inr (.inr (va_up (va_up (va_up (va_up (va_up (fun _ => none) (0 : Int32).toNatClampNeg (some e2)) (1 : Int32).toNatClampNeg (some e4)) (2 : Int32).toNatClampNeg (some e6)) (3 : Int32).toNatClampNeg (some e8)) (4 : Int32).toNatClampNeg (some e10)))))))] ++ (wX3 cyI cyC e2 u3.1 u3.2.1 u3.2.2 v0 v0 set0 0 0 0) ++ (wX3 cyI cyC e4 u5.1 u5.2.1 u5.2.2 v0 v0 set0 0 0 0) ++ (wX3 cyI cyC e6 u7.1 u7.2.1 u7.2.2 v0 v0 set0 0 0 0) ++ (wX3 cyI cyC e8 u9.1 u9.2.1 u9.2.2 v0 v0 set0 0 0 0) ++ (wX3 cyI cyC e10 u11.1 u11.2.1 u11.2.2 v0 v0 set0 0 0 0)) := hD
  refine lv_iinc (v := 5) (lv' := [(1, .int 5), (0, .ref ob)]) hx hb dX2_init_34 hl (k := 0) rfl (by decide) (by decide) rfl (fun ls hl => ?_)
  refine lv_goto (tgt := 15) hx hb dX2_init_37 (by decide) ?_
  refine lv_iload_n hx hb dX2_init_15 rfl (lv_at hl 0 rfl) ?_
  refine lv_bipush (v := 6) hx hb dX2_init_16 (by decide) ?_
  refine lv_icmp_ge (tgt := 40) hx hb dX2_init_18 (by decide) (fun q => absurd q (by decide)) (fun _ => ?_)
  refine lv_aload_n hx hb dX2_init_21 rfl (lv_at hl 1 rfl) ?_
  refine va_get (D := (dC, dI)) (ci := 1) (v := .ref e1) (C := RX2) (T := TX2) (N := 3) hx hb hts iaX2 hown hK hP 0 rfl rfl 0 (by decide) (hts _ q57) (fun _ h9 => h9) rfl dX2_init_22 ?_
  refine lv_iload_n hx hb dX2_init_25 rfl (lv_at hl 0 rfl) ?_
  refine va_new (ci := 2) (fs := [.null, .null, .null, .int 0, .int 0, .int 0]) (C := RX3) (T := TX3) (N := 6) hx hb hts iaX3 tyX3 tyX3_ok hown (hts _ q55) (hts _ q31) (hts _ q9) hK hP hD hS hA rfl (fun j hj => by rcases (show j = 0 ∨ j = 1 ∨ j = 2 ∨ j = 3 ∨ j = 4 ∨ j = 5 by omega) with rfl | rfl | rfl | rfl | rfl | rfl <;> rfl) (Nat.le_of_ble_eq_true rfl) (Nat.le_of_ble_eq_true rfl) dX2_init_26 (fun e12 H hP hD hS => ?_)
  have hP : va_P (dC, dI) vwCl (([(ob, .inr (1, [.ref e1, .int 0, .int 0])), (e1, .inl (cyO, 6, .inr (.inr (.inr (.inr (va_up (va_up (va_up (va_up (va_up (fun _ => none) (0 : Int32).toNatClampNeg (some e2)) (1 : Int32).toNatClampNeg (some e4)) (2 : Int32).toNatClampNeg (some e6)) (3 : Int32).toNatClampNeg (some e8)) (4 : Int32).toNatClampNeg (some e10)))))))] ++ (wX3 cyI cyC e2 u3.1 u3.2.1 u3.2.2 v0 v0 set0 0 0 0) ++ (wX3 cyI cyC e4 u5.1 u5.2.1 u5.2.2 v0 v0 set0 0 0 0) ++ (wX3 cyI cyC e6 u7.1 u7.2.1 u7.2.2 v0 v0 set0 0 0 0) ++ (wX3 cyI cyC e8 u9.1 u9.2.1 u9.2.2 v0 v0 set0 0 0 0) ++ (wX3 cyI cyC e10 u11.1 u11.2.1 u11.2.2 v0 v0 set0 0 0 0)) ++ [(e12, .inr (2, [.null, .null, .null, .int 0, .int 0, .int 0]))]) H := hP
  have hD : va_D A (([(ob, .inr (1, [.ref e1, .int 0, .int 0])), (e1, .inl (cyO, 6, .inr (.inr (.inr (.inr (va_up (va_up (va_up (va_up (va_up (fun _ => none) (0 : Int32).toNatClampNeg (some e2)) (1 : Int32).toNatClampNeg (some e4)) (2 : Int32).toNatClampNeg (some e6)) (3 : Int32).toNatClampNeg (some e8)) (4 : Int32).toNatClampNeg (some e10)))))))] ++ (wX3 cyI cyC e2 u3.1 u3.2.1 u3.2.2 v0 v0 set0 0 0 0) ++ (wX3 cyI cyC e4 u5.1 u5.2.1 u5.2.2 v0 v0 set0 0 0 0) ++ (wX3 cyI cyC e6 u7.1 u7.2.1 u7.2.2 v0 v0 set0 0 0 0) ++ (wX3 cyI cyC e8 u9.1 u9.2.1 u9.2.2 v0 v0 set0 0 0 0) ++ (wX3 cyI cyC e10 u11.1 u11.2.1 u11.2.2 v0 v0 set0 0 0 0)) ++ [(e12, .inr (2, [.null, .null, .null, .int 0, .int 0, .int 0]))]) := hD
  refine lv_dup hx hb dX2_init_29 rfl ?_
  refine g_ctorN hC (mX3_init l dC dI cyI cyC cyO e12 _) hkC.2.1 q9 q34 q33 rfl hdX3_init ⟨(Nat.le_of_ble_eq_true rfl), (Nat.le_of_ble_eq_true rfl)⟩ ⟨(Nat.le_of_ble_eq_true rfl), (Nat.le_of_ble_eq_true rfl)⟩ hl.1 (Nat.le_of_ble_eq_true rfl) hP hK hD hS hA hkC dX2_init_30 (fun u13 H locs hP hD hS => ?_)
  have hP : va_P (dC, dI) vwCl ([(ob, .inr (1, [.ref e1, .int 0, .int 0])), (e1, .inl (cyO, 6, .inr (.inr (.inr (.inr (va_up (va_up (va_up (va_up (va_up (fun _ => none) (0 : Int32).toNatClampNeg (some e2)) (1 : Int32).toNatClampNeg (some e4)) (2 : Int32).toNatClampNeg (some e6)) (3 : Int32).toNatClampNeg (some e8)) (4 : Int32).toNatClampNeg (some e10)))))))] ++ (wX3 cyI cyC e2 u3.1 u3.2.1 u3.2.2 v0 v0 set0 0 0 0) ++ (wX3 cyI cyC e4 u5.1 u5.2.1 u5.2.2 v0 v0 set0 0 0 0) ++ (wX3 cyI cyC e6 u7.1 u7.2.1 u7.2.2 v0 v0 set0 0 0 0) ++ (wX3 cyI cyC e8 u9.1 u9.2.1 u9.2.2 v0 v0 set0 0 0 0) ++ (wX3 cyI cyC e10 u11.1 u11.2.1 u11.2.2 v0 v0 set0 0 0 0) ++ (wX3 cyI cyC e12 u13.1 u13.2.1 u13.2.2 v0 v0 set0 0 0 0)) H := hP
  have hD : va_D A ([(ob, .inr (1, [.ref e1, .int 0, .int 0])), (e1, .inl (cyO, 6, .inr (.inr (.inr (.inr (va_up (va_up (va_up (va_up (va_up (fun _ => none) (0 : Int32).toNatClampNeg (some e2)) (1 : Int32).toNatClampNeg (some e4)) (2 : Int32).toNatClampNeg (some e6)) (3 : Int32).toNatClampNeg (some e8)) (4 : Int32).toNatClampNeg (some e10)))))))] ++ (wX3 cyI cyC e2 u3.1 u3.2.1 u3.2.2 v0 v0 set0 0 0 0) ++ (wX3 cyI cyC e4 u5.1 u5.2.1 u5.2.2 v0 v0 set0 0 0 0) ++ (wX3 cyI cyC e6 u7.1 u7.2.1 u7.2.2 v0 v0 set0 0 0 0) ++ (wX3 cyI cyC e8 u9.1 u9.2.1 u9.2.2 v0 v0 set0 0 0 0) ++ (wX3 cyI cyC e10 u11.1 u11.2.1 u11.2.2 v0 v0 set0 0 0 0) ++ (wX3 cyI cyC e12 u13.1 u13.2.1 u13.2.2 v0 v0 set0 0 0 0)) := hD
  refine va_astq (ci := 2) (r := (RX3, TX3, 6)) hx hb hK hP hD hS 1 2 22 rfl rfl rfl rfl (by unfold vp_in; decide) dX2_init_33 (fun H locs hP hD hS => ?_)
  have hP : va_P (dC, dI) vwCl ([(ob, .inr (1, [.ref e1, .int 0, .int 0])), (e1, .inl (cyO, 6, .inr (.inr (.inr (.inr (va_up (va_up (va_up (va_up (va_up (va_up (fun _ => none) (0 : Int32).toNatClampNeg (some e2)) (1 : Int32).toNatClampNeg (some e4)) (2 : Int32).toNatClampNeg (some e6)) (3 : Int32).toNatClampNeg (some e8)) (4 : Int32).toNatClampNeg (some e10)) (5 : Int32).toNatClampNeg (some e12)))))))] ++ (wX3 cyI cyC e2 u3.1 u3.2.1 u3.2.2 v0 v0 set0 0 0 0) ++ (wX3 cyI cyC e4 u5.1 u5.2.1 u5.2.2 v0 v0 set0 0 0 0) ++ (wX3 cyI cyC e6 u7.1 u7.2.1 u7.2.2 v0 v0 set0 0 0 0) ++ (wX3 cyI cyC e8 u9.1 u9.2.1 u9.2.2 v0 v0 set0 0 0 0) ++ (wX3 cyI cyC e10 u11.1 u11.2.1 u11.2.2 v0 v0 set0 0 0 0) ++ (wX3 cyI cyC e12 u13.1 u13.2.1 u13.2.2 v0 v0 set0 0 0 0)) H := hP
  have hD : va_D A ([(ob, .inr (1, [.ref e1, .int 0, .int 0])), (e1, .inl (cyO, 6, .inr (.inr (.inr (.inr (va_up (va_up (va_up (va_up (va_up (va_up (fun _ => none) (0 : Int32).toNatClampNeg (some e2)) (1 : Int32).toNatClampNeg (some e4)) (2 : Int32).toNatClampNeg (some e6)) (3 : Int32).toNatClampNeg (some e8)) (4 : Int32).toNatClampNeg (some e10)) (5 : Int32).toNatClampNeg (some e12)))))))] ++ (wX3 cyI cyC e2 u3.1 u3.2.1 u3.2.2 v0 v0 set0 0 0 0) ++ (wX3 cyI cyC e4 u5.1 u5.2.1 u5.2.2 v0 v0 set0 0 0 0) ++ (wX3 cyI cyC e6 u7.1 u7.2.1 u7.2.2 v0 v0 set0 0 0 0) ++ (wX3 cyI cyC e8 u9.1 u9.2.1 u9.2.2 v0 v0 set0 0 0 0) ++ (wX3 cyI cyC e10 u11.1 u11.2.1 u11.2.2 v0 v0 set0 0 0 0) ++ (wX3 cyI cyC e12 u13.1 u13.2.1 u13.2.2 v0 v0 set0 0 0 0)) := hD
  refine lv_iinc (v := 6) (lv' := [(1, .int 6), (0, .ref ob)]) hx hb dX2_init_34 hl (k := 0) rfl (by decide) (by decide) rfl (fun ls hl => ?_)
  refine lv_goto (tgt := 15) hx hb dX2_init_37 (by decide) ?_
  refine lv_iload_n hx hb dX2_init_15 rfl (lv_at hl 0 rfl) ?_
  refine lv_bipush (v := 6) hx hb dX2_init_16 (by decide) ?_
  refine lv_icmp_ge (tgt := 40) hx hb dX2_init_18 (by decide) (fun _ => ?_) (fun q => absurd (by decide) q)
  have hP := hP.set (H1 := H) hD (p := 1) rfl (e := .inl (cyO, 6, .inr (.inr (.inr (.inr (fun k => some ((fun k => [e2, e4, e6, e8, e10, e12].getD k 0) k))))))) (by show H[e1]? = some (vp_cell cyO (6, .inr (.inr (.inr (.inr (fun k => some ((fun k => [e2, e4, e6, e8, e10, e12].getD k 0) k))))))); rw [k_refs (g := (va_up (va_up (va_up (va_up (va_up (va_up (fun _ => none) (0 : Int32).toNatClampNeg (some e2)) (1 : Int32).toNatClampNeg (some e4)) (2 : Int32).toNatClampNeg (some e6)) (3 : Int32).toNatClampNeg (some e8)) (4 : Int32).toNatClampNeg (some e10)) (5 : Int32).toNatClampNeg (some e12))) (fun j hj => by rcases (show j = 0 ∨ j = 1 ∨ j = 2 ∨ j = 3 ∨ j = 4 ∨ j = 5 by omega) with rfl | rfl | rfl | rfl | rfl | rfl <;> rfl)]; exact hP 1 _ rfl) (fun _ _ => rfl)
  have hP : va_P (dC, dI) vwCl (wX2 cyI cyC cyO ob e1 (fun k => [e2, e4, e6, e8, e10, e12].getD k 0) (fun k => [u3.1, u5.1, u7.1, u9.1, u11.1, u13.1].getD k 0) (fun k => [u3.2.1, u5.2.1, u7.2.1, u9.2.1, u11.2.1, u13.2.1].getD k 0) (fun k => [u3.2.2, u5.2.2, u7.2.2, u9.2.2, u11.2.2, u13.2.2].getD k 0) (fun _ => sv0) 0 0) H := hP
  have hD : va_D A (wX2 cyI cyC cyO ob e1 (fun k => [e2, e4, e6, e8, e10, e12].getD k 0) (fun k => [u3.1, u5.1, u7.1, u9.1, u11.1, u13.1].getD k 0) (fun k => [u3.2.1, u5.2.1, u7.2.1, u9.2.1, u11.2.1, u13.2.1].getD k 0) (fun k => [u3.2.2, u5.2.2, u7.2.2, u9.2.2, u11.2.2, u13.2.2].getD k 0) (fun _ => sv0) 0 0) := k_Dm hD rfl
  refine W.widen (k := 25) (n := 306) (Nat.le_of_ble_eq_true rfl) (Nat.le_of_ble_eq_true rfl) ?_
  exact W.vret hx hb hr (fun t ht _ => ⟨⟨(e1, (fun k => [e2, e4, e6, e8, e10, e12].getD k 0), (fun k => [u3.1, u5.1, u7.1, u9.1, u11.1, u13.1].getD k 0), (fun k => [u3.2.1, u5.2.1, u7.2.1, u9.2.1, u11.2.1, u13.2.1].getD k 0), (fun k => [u3.2.2, u5.2.2, u7.2.2, u9.2.2, u11.2.2, u13.2.2].getD k 0)), rfl, trivial, by rw [ht]; exact hP, hD⟩, hS.F ht⟩) hS.2.2 dX2_init_40 hlk
theorem hdX4_init : yX4_init.cls ≠ "java/lang/invoke/MethodHandle" ∧ yX4_init.cls ≠ "java/lang/invoke/VarHandle" ∧ (parseMethodDescriptor yX4_init.desc).map (fun d => d.parameters.length) = some 0 := by decide +kernel
set_option maxRecDepth 100000 in
set_option maxHeartbeats 8000000 in
theorem mX4_init (l : Launch) (dC : Nat → ClassId) (dI : Nat → Nat → Nat) (cyI cyC cyO : ClassId) (ob sz : Nat) : MetC l yX4_init cX4_init 1 3 53 39 507 ob (dC, dI) (tyS cyI cyC cyO) [(ob, .inr (3, [.null, .null, .null, .null]))] sz (fun u : Nat × (Nat × Nat × Nat) × Nat × (Nat × Nat × Nat) × Nat × (Nat × (Nat → Nat) × (Nat → Nat) × (Nat → Nat) × (Nat → Nat)) × Nat × (Nat × Nat × Nat × Nat) => wAll cyI cyC cyO ob u.1 u.2.1.1 u.2.1.2.1 u.2.1.2.2 u.2.2.1 u.2.2.2.1.1 u.2.2.2.1.2.1 u.2.2.2.1.2.2 u.2.2.2.2.1 u.2.2.2.2.2.1.1 u.2.2.2.2.2.1.2.1 u.2.2.2.2.2.1.2.2.1 u.2.2.2.2.2.1.2.2.2.1 u.2.2.2.2.2.1.2.2.2.2 u.2.2.2.2.2.2.1 u.2.2.2.2.2.2.2.1 u.2.2.2.2.2.2.2.2.1 u.2.2.2.2.2.2.2.2.2.1 u.2.2.2.2.2.2.2.2.2.2 v0 v0 set0 0 0 0 v0 v0 set0 0 0 0 (fun _ => sv0) 0 0 v0 0 0 0 0 v0 v0 v0) := by
  refine metC_of (by decide) (Nat.le_of_ble_eq_true rfl) rfl ?_
  intro p e s m below meth c ls A hC hr hlk hin hP hK hD hA hkC hl
  have hC : CallFix p m c cX4_init 1 s [.ref ob].toArray wA RX4 := hC
  obtain ⟨hx, hb, hml, hown, hts⟩ := id hC
  have hS : va_S A s.heap s.heap [] := va_S.rf
  have hl : lv_has ls 1 [(0, .ref ob)] := hl
  refine lv_aload_n hx hb dX4_init_0 rfl (lv_at hl 0 rfl) ?_
  refine W.objInit hx hb hown (hts _ q27) (hts _ q28) (hts _ q29) rfl (by rw [hml]; exact hl.1) rfl dX4_init_1 (Nat.le_of_ble_eq_true rfl) (Nat.le_of_ble_eq_true rfl) ?_
  refine W.eq (g2 := F0 m 4 ls []) rfl ?_
  refine lv_aload_n hx hb dX4_init_4 rfl (lv_at hl 0 rfl) ?_
  refine va_new (ci := 2) (fs := [.null, .null, .null, .int 0, .int 0, .int 0]) (C := RX3) (T := TX3) (N := 6) hx hb hts iaX3 tyX3 tyX3_ok hown (hts _ q30) (hts _ q31) (hts _ q9) hK hP hD hS hA rfl (fun j hj => by rcases (show j = 0 ∨ j = 1 ∨ j = 2 ∨ j = 3 ∨ j = 4 ∨ j = 5 by omega) with rfl | rfl | rfl | rfl | rfl | rfl <;> rfl) (Nat.le_of_ble_eq_true rfl) (Nat.le_of_ble_eq_true rfl) dX4_init_5 (fun e1 H hP hD hS => ?_)
  have hP : va_P (dC, dI) vwCl ([(ob, .inr (3, [.null, .null, .null, .null]))] ++ [(e1, .inr (2, [.null, .null, .null, .int 0, .int 0, .int 0]))]) H := hP
  have hD : va_D A ([(ob, .inr (3, [.null, .null, .null, .null]))] ++ [(e1, .inr (2, [.null, .null, .null, .int 0, .int 0, .int 0]))]) := hD
  refine lv_dup hx hb dX4_init_8 rfl ?_
  refine g_ctorN hC (mX3_init l dC dI cyI cyC cyO e1 _) hkC.1 q9 q34 q33 rfl hdX3_init ⟨(Nat.le_of_ble_eq_true rfl), (Nat.le_of_ble_eq_true rfl)⟩ ⟨(Nat.le_of_ble_eq_true rfl), (Nat.le_of_ble_eq_true rfl)⟩ hl.1 (Nat.le_of_ble_eq_true rfl) hP hK hD hS hA hkC dX4_init_9 (fun u2 H locs hP hD hS => ?_)
  have hP : va_P (dC, dI) vwCl ([(ob, .inr (3, [.null, .null, .null, .null]))] ++ (wX3 cyI cyC e1 u2.1 u2.2.1 u2.2.2 v0 v0 set0 0 0 0)) H := hP
  have hD : va_D A ([(ob, .inr (3, [.null, .null, .null, .null]))] ++ (wX3 cyI cyC e1 u2.1 u2.2.1 u2.2.2 v0 v0 set0 0 0 0)) := hD
  refine va_putF (D := (dC, dI)) (ci := 3) (v := .ref e1) (ty := .object "FuseRows$State") (C := RX4) (T := TX4) (N := 4) hx hb hts iaX4 tyX4 tyX4_ok nmX4 hown hK hP hD hS 0 rfl rfl 0 (by decide) (hts _ q72) (fun _ h9 => h9) rfl hin rfl (by decide +kernel) rfl rfl (Nat.le_of_ble_eq_true rfl) dX4_init_12 (fun H locs hP hD hS => ?_)
  have hP : va_P (dC, dI) vwCl ([(ob, .inr (3, [.ref e1, .null, .null, .null]))] ++ (wX3 cyI cyC e1 u2.1 u2.2.1 u2.2.2 v0 v0 set0 0 0 0)) H := hP
  have hD : va_D A ([(ob, .inr (3, [.ref e1, .null, .null, .null]))] ++ (wX3 cyI cyC e1 u2.1 u2.2.1 u2.2.2 v0 v0 set0 0 0 0)) := hD
  refine lv_aload_n hx hb dX4_init_15 rfl (lv_at hl 0 rfl) ?_
  refine va_new (ci := 2) (fs := [.null, .null, .null, .int 0, .int 0, .int 0]) (C := RX3) (T := TX3) (N := 6) hx hb hts iaX3 tyX3 tyX3_ok hown (hts _ q30) (hts _ q31) (hts _ q9) hK hP hD hS hA rfl (fun j hj => by rcases (show j = 0 ∨ j = 1 ∨ j = 2 ∨ j = 3 ∨ j = 4 ∨ j = 5 by omega) with rfl | rfl | rfl | rfl | rfl | rfl <;> rfl) (Nat.le_of_ble_eq_true rfl) (Nat.le_of_ble_eq_true rfl) dX4_init_16 (fun e3 H hP hD hS => ?_)
  have hP : va_P (dC, dI) vwCl (([(ob, .inr (3, [.ref e1, .null, .null, .null]))] ++ (wX3 cyI cyC e1 u2.1 u2.2.1 u2.2.2 v0 v0 set0 0 0 0)) ++ [(e3, .inr (2, [.null, .null, .null, .int 0, .int 0, .int 0]))]) H := hP
  have hD : va_D A (([(ob, .inr (3, [.ref e1, .null, .null, .null]))] ++ (wX3 cyI cyC e1 u2.1 u2.2.1 u2.2.2 v0 v0 set0 0 0 0)) ++ [(e3, .inr (2, [.null, .null, .null, .int 0, .int 0, .int 0]))]) := hD
  refine lv_dup hx hb dX4_init_19 rfl ?_
  refine g_ctorN hC (mX3_init l dC dI cyI cyC cyO e3 _) hkC.1 q9 q34 q33 rfl hdX3_init ⟨(Nat.le_of_ble_eq_true rfl), (Nat.le_of_ble_eq_true rfl)⟩ ⟨(Nat.le_of_ble_eq_true rfl), (Nat.le_of_ble_eq_true rfl)⟩ hl.1 (Nat.le_of_ble_eq_true rfl) hP hK hD hS hA hkC dX4_init_20 (fun u4 H locs hP hD hS => ?_)
  have hP : va_P (dC, dI) vwCl ([(ob, .inr (3, [.ref e1, .null, .null, .null]))] ++ (wX3 cyI cyC e1 u2.1 u2.2.1 u2.2.2 v0 v0 set0 0 0 0) ++ (wX3 cyI cyC e3 u4.1 u4.2.1 u4.2.2 v0 v0 set0 0 0 0)) H := hP
  have hD : va_D A ([(ob, .inr (3, [.ref e1, .null, .null, .null]))] ++ (wX3 cyI cyC e1 u2.1 u2.2.1 u2.2.2 v0 v0 set0 0 0 0) ++ (wX3 cyI cyC e3 u4.1 u4.2.1 u4.2.2 v0 v0 set0 0 0 0)) := hD
  refine va_putF (D := (dC, dI)) (ci := 3) (v := .ref e3) (ty := .object "FuseRows$State") (C := RX4) (T := TX4) (N := 4) hx hb hts iaX4 tyX4 tyX4_ok nmX4 hown hK hP hD hS 0 rfl rfl 1 (by decide) (hts _ q73) (fun _ h9 => h9) rfl hin rfl (by decide +kernel) rfl rfl (Nat.le_of_ble_eq_true rfl) dX4_init_23 (fun H locs hP hD hS => ?_)
  have hP : va_P (dC, dI) vwCl ([(ob, .inr (3, [.ref e1, .ref e3, .null, .null]))] ++ (wX3 cyI cyC e1 u2.1 u2.2.1 u2.2.2 v0 v0 set0 0 0 0) ++ (wX3 cyI cyC e3 u4.1 u4.2.1 u4.2.2 v0 v0 set0 0 0 0)) H := hP
  have hD : va_D A ([(ob, .inr (3, [.ref e1, .ref e3, .null, .null]))] ++ (wX3 cyI cyC e1 u2.1 u2.2.1 u2.2.2 v0 v0 set0 0 0 0) ++ (wX3 cyI cyC e3 u4.1 u4.2.1 u4.2.2 v0 v0 set0 0 0 0)) := hD
  refine lv_aload_n hx hb dX4_init_26 rfl (lv_at hl 0 rfl) ?_
  refine va_new (ci := 1) (fs := [.null, .int 0, .int 0]) (C := RX2) (T := TX2) (N := 3) hx hb hts iaX2 tyX2 tyX2_ok hown (hts _ q49) (hts _ q50) (hts _ q10) hK hP hD hS hA rfl (fun j hj => by rcases (show j = 0 ∨ j = 1 ∨ j = 2 by omega) with rfl | rfl | rfl <;> rfl) (Nat.le_of_ble_eq_true rfl) (Nat.le_of_ble_eq_true rfl) dX4_init_27 (fun e5 H hP hD hS => ?_)
  have hP : va_P (dC, dI) vwCl (([(ob, .inr (3, [.ref e1, .ref e3, .null, .null]))] ++ (wX3 cyI cyC e1 u2.1 u2.2.1 u2.2.2 v0 v0 set0 0 0 0) ++ (wX3 cyI cyC e3 u4.1 u4.2.1 u4.2.2 v0 v0 set0 0 0 0)) ++ [(e5, .inr (1, [.null, .int 0, .int 0]))]) H := hP
  have hD : va_D A (([(ob, .inr (3, [.ref e1, .ref e3, .null, .null]))] ++ (wX3 cyI cyC e1 u2.1 u2.2.1 u2.2.2 v0 v0 set0 0 0 0) ++ (wX3 cyI cyC e3 u4.1 u4.2.1 u4.2.2 v0 v0 set0 0 0 0)) ++ [(e5, .inr (1, [.null, .int 0, .int 0]))]) := hD
  refine lv_dup hx hb dX4_init_30 rfl ?_
  refine g_ctorI hC (mX2_init l dC dI cyI cyC cyO e5 _) q51 q10 q53 q52 rfl hdX2_init ⟨(Nat.le_of_ble_eq_true rfl), (Nat.le_of_ble_eq_true rfl)⟩ ⟨(Nat.le_of_ble_eq_true rfl), (Nat.le_of_ble_eq_true rfl)⟩ hl.1 (Nat.le_of_ble_eq_true rfl) hP hK hD hS hA hkC dX4_init_31 (fun u6 H locs hP hD hS => ?_)
  have hP : va_P (dC, dI) vwCl ([(ob, .inr (3, [.ref e1, .ref e3, .null, .null]))] ++ (wX3 cyI cyC e1 u2.1 u2.2.1 u2.2.2 v0 v0 set0 0 0 0) ++ (wX3 cyI cyC e3 u4.1 u4.2.1 u4.2.2 v0 v0 set0 0 0 0) ++ (wX2 cyI cyC cyO e5 u6.1 u6.2.1 u6.2.2.1 u6.2.2.2.1 u6.2.2.2.2 (fun _ => sv0) 0 0)) H := hP
  have hD : va_D A ([(ob, .inr (3, [.ref e1, .ref e3, .null, .null]))] ++ (wX3 cyI cyC e1 u2.1 u2.2.1 u2.2.2 v0 v0 set0 0 0 0) ++ (wX3 cyI cyC e3 u4.1 u4.2.1 u4.2.2 v0 v0 set0 0 0 0) ++ (wX2 cyI cyC cyO e5 u6.1 u6.2.1 u6.2.2.1 u6.2.2.2.1 u6.2.2.2.2 (fun _ => sv0) 0 0)) := hD
  refine va_putF (D := (dC, dI)) (ci := 3) (v := .ref e5) (ty := .object "FuseRows$SavedStates") (C := RX4) (T := TX4) (N := 4) hx hb hts iaX4 tyX4 tyX4_ok nmX4 hown hK hP hD hS 0 rfl rfl 2 (by decide) (hts _ q74) (fun _ h9 => h9) rfl hin rfl (by decide +kernel) rfl rfl (Nat.le_of_ble_eq_true rfl) dX4_init_34 (fun H locs hP hD hS => ?_)
  have hP : va_P (dC, dI) vwCl ([(ob, .inr (3, [.ref e1, .ref e3, .ref e5, .null]))] ++ (wX3 cyI cyC e1 u2.1 u2.2.1 u2.2.2 v0 v0 set0 0 0 0) ++ (wX3 cyI cyC e3 u4.1 u4.2.1 u4.2.2 v0 v0 set0 0 0 0) ++ (wX2 cyI cyC cyO e5 u6.1 u6.2.1 u6.2.2.1 u6.2.2.2.1 u6.2.2.2.2 (fun _ => sv0) 0 0)) H := hP
  have hD : va_D A ([(ob, .inr (3, [.ref e1, .ref e3, .ref e5, .null]))] ++ (wX3 cyI cyC e1 u2.1 u2.2.1 u2.2.2 v0 v0 set0 0 0 0) ++ (wX3 cyI cyC e3 u4.1 u4.2.1 u4.2.2 v0 v0 set0 0 0 0) ++ (wX2 cyI cyC cyO e5 u6.1 u6.2.1 u6.2.2.1 u6.2.2.2.1 u6.2.2.2.2 (fun _ => sv0) 0 0)) := hD
  refine lv_aload_n hx hb dX4_init_37 rfl (lv_at hl 0 rfl) ?_
  refine va_new (ci := 0) (fs := [.null, .int 0, .int 0, .int 0, .int 0, .null, .null, .null]) (C := RX1) (T := TX1) (N := 8) hx hb hts iaX1 tyX1 tyX1_ok hown (hts _ q61) (hts _ q62) (hts _ q11) hK hP hD hS hA rfl (fun j hj => by rcases (show j = 0 ∨ j = 1 ∨ j = 2 ∨ j = 3 ∨ j = 4 ∨ j = 5 ∨ j = 6 ∨ j = 7 by omega) with rfl | rfl | rfl | rfl | rfl | rfl | rfl | rfl <;> rfl) (Nat.le_of_ble_eq_true rfl) (Nat.le_of_ble_eq_true rfl) dX4_init_38 (fun e7 H hP hD hS => ?_)
  have hP : va_P (dC, dI) vwCl (([(ob, .inr (3, [.ref e1, .ref e3, .ref e5, .null]))] ++ (wX3 cyI cyC e1 u2.1 u2.2.1 u2.2.2 v0 v0 set0 0 0 0) ++ (wX3 cyI cyC e3 u4.1 u4.2.1 u4.2.2 v0 v0 set0 0 0 0) ++ (wX2 cyI cyC cyO e5 u6.1 u6.2.1 u6.2.2.1 u6.2.2.2.1 u6.2.2.2.2 (fun _ => sv0) 0 0)) ++ [(e7, .inr (0, [.null, .int 0, .int 0, .int 0, .int 0, .null, .null, .null]))]) H := hP
  have hD : va_D A (([(ob, .inr (3, [.ref e1, .ref e3, .ref e5, .null]))] ++ (wX3 cyI cyC e1 u2.1 u2.2.1 u2.2.2 v0 v0 set0 0 0 0) ++ (wX3 cyI cyC e3 u4.1 u4.2.1 u4.2.2 v0 v0 set0 0 0 0) ++ (wX2 cyI cyC cyO e5 u6.1 u6.2.1 u6.2.2.1 u6.2.2.2.1 u6.2.2.2.2 (fun _ => sv0) 0 0)) ++ [(e7, .inr (0, [.null, .int 0, .int 0, .int 0, .int 0, .null, .null, .null]))]) := hD
  refine lv_dup hx hb dX4_init_41 rfl ?_
  refine g_ctorN hC (mX1_init l dC dI cyI cyC cyO e7 _) hkC.2.2.1 q11 q65 q64 rfl hdX1_init ⟨(Nat.le_of_ble_eq_true rfl), (Nat.le_of_ble_eq_true rfl)⟩ ⟨(Nat.le_of_ble_eq_true rfl), (Nat.le_of_ble_eq_true rfl)⟩ hl.1 (Nat.le_of_ble_eq_true rfl) hP hK hD hS hA hkC dX4_init_42 (fun u8 H locs hP hD hS => ?_)
  have hP : va_P (dC, dI) vwCl ([(ob, .inr (3, [.ref e1, .ref e3, .ref e5, .null]))] ++ (wX3 cyI cyC e1 u2.1 u2.2.1 u2.2.2 v0 v0 set0 0 0 0) ++ (wX3 cyI cyC e3 u4.1 u4.2.1 u4.2.2 v0 v0 set0 0 0 0) ++ (wX2 cyI cyC cyO e5 u6.1 u6.2.1 u6.2.2.1 u6.2.2.2.1 u6.2.2.2.2 (fun _ => sv0) 0 0) ++ (wX1 cyI cyC e7 u8.1 u8.2.1 u8.2.2.1 u8.2.2.2 v0 0 0 0 0 v0 v0 v0)) H := hP
  have hD : va_D A ([(ob, .inr (3, [.ref e1, .ref e3, .ref e5, .null]))] ++ (wX3 cyI cyC e1 u2.1 u2.2.1 u2.2.2 v0 v0 set0 0 0 0) ++ (wX3 cyI cyC e3 u4.1 u4.2.1 u4.2.2 v0 v0 set0 0 0 0) ++ (wX2 cyI cyC cyO e5 u6.1 u6.2.1 u6.2.2.1 u6.2.2.2.1 u6.2.2.2.2 (fun _ => sv0) 0 0) ++ (wX1 cyI cyC e7 u8.1 u8.2.1 u8.2.2.1 u8.2.2.2 v0 0 0 0 0 v0 v0 v0)) := hD
  refine va_putF (D := (dC, dI)) (ci := 3) (v := .ref e7) (ty := .object "FuseRows$OrderText") (C := RX4) (T := TX4) (N := 4) hx hb hts iaX4 tyX4 tyX4_ok nmX4 hown hK hP hD hS 0 rfl rfl 3 (by decide) (hts _ q75) (fun _ h9 => h9) rfl hin rfl (by decide +kernel) rfl rfl (Nat.le_of_ble_eq_true rfl) dX4_init_45 (fun H locs hP hD hS => ?_)
  have hP : va_P (dC, dI) vwCl ([(ob, .inr (3, [.ref e1, .ref e3, .ref e5, .ref e7]))] ++ (wX3 cyI cyC e1 u2.1 u2.2.1 u2.2.2 v0 v0 set0 0 0 0) ++ (wX3 cyI cyC e3 u4.1 u4.2.1 u4.2.2 v0 v0 set0 0 0 0) ++ (wX2 cyI cyC cyO e5 u6.1 u6.2.1 u6.2.2.1 u6.2.2.2.1 u6.2.2.2.2 (fun _ => sv0) 0 0) ++ (wX1 cyI cyC e7 u8.1 u8.2.1 u8.2.2.1 u8.2.2.2 v0 0 0 0 0 v0 v0 v0)) H := hP
  have hD : va_D A ([(ob, .inr (3, [.ref e1, .ref e3, .ref e5, .ref e7]))] ++ (wX3 cyI cyC e1 u2.1 u2.2.1 u2.2.2 v0 v0 set0 0 0 0) ++ (wX3 cyI cyC e3 u4.1 u4.2.1 u4.2.2 v0 v0 set0 0 0 0) ++ (wX2 cyI cyC cyO e5 u6.1 u6.2.1 u6.2.2.1 u6.2.2.2.1 u6.2.2.2.2 (fun _ => sv0) 0 0) ++ (wX1 cyI cyC e7 u8.1 u8.2.1 u8.2.2.1 u8.2.2.2 v0 0 0 0 0 v0 v0 v0)) := hD
  have hP : va_P (dC, dI) vwCl (wAll cyI cyC cyO ob e1 u2.1 u2.2.1 u2.2.2 e3 u4.1 u4.2.1 u4.2.2 e5 u6.1 u6.2.1 u6.2.2.1 u6.2.2.2.1 u6.2.2.2.2 e7 u8.1 u8.2.1 u8.2.2.1 u8.2.2.2 v0 v0 set0 0 0 0 v0 v0 set0 0 0 0 (fun _ => sv0) 0 0 v0 0 0 0 0 v0 v0 v0) H := hP
  have hD : va_D A (wAll cyI cyC cyO ob e1 u2.1 u2.2.1 u2.2.2 e3 u4.1 u4.2.1 u4.2.2 e5 u6.1 u6.2.1 u6.2.2.1 u6.2.2.2.1 u6.2.2.2.2 e7 u8.1 u8.2.1 u8.2.2.1 u8.2.2.2 v0 v0 set0 0 0 0 v0 v0 set0 0 0 0 (fun _ => sv0) 0 0 v0 0 0 0 0 v0 v0 v0) := hD
  refine W.widen (k := 39) (n := 507) (Nat.le_of_ble_eq_true rfl) (Nat.le_of_ble_eq_true rfl) ?_
  exact W.vret hx hb hr (fun t ht _ => ⟨⟨(e1, u2, e3, u4, e5, u6, e7, u8), rfl, trivial, by rw [ht]; exact hP, hD⟩, hS.F ht⟩) hS.2.2 dX4_init_48 hlk
