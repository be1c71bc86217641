/-! the surroundings: string constants, static arrays, words that are no good words; ad: their cells -/
def lenW : List Nat := [4, 5, 5, 5, 4]
def bytW : List (List Int32) := [[112, 117, 116, 58], [108, 111, 99, 107, 58], [104, 101, 97, 116, 58], [112, 97, 115, 115, 58], [102, 105, 120, 58]]
def fW_len (w : Nat) : Int32 := nI (lenW.getD w 0)
def fW_ch (w : Nat) (k : Int32) : Int32 := (((bytW.getD w []).getD k.toNatClampNeg 0 &&& 255).toUInt32 % 65536).toInt32
def lowN : Nat → Int32 := fun j => [0, 0, 1, 1, 0].getD j 0
def highN : Nat → Int32 := fun j => [15, 19, 9, 99, 19].getD j 0
def lowS : Nat → Int32 := fun j => [0, 1, 1, 0].getD j 0
def highS : Nat → Int32 := fun j => [1, 3, 3, 1].getD j 0
def k_wN : List Cond := [.castable "java/lang/IndexOutOfBoundsException" "java/lang/IndexOutOfBoundsException", .castable "java/lang/IllegalArgumentException" "java/lang/IllegalArgumentException", .castable "java/lang/IllegalStateException" "java/lang/IllegalStateException", .declares ⟨"java/lang/RuntimeException", "<init>", "(Ljava/lang/String;)V"⟩, .declares ⟨"java/lang/Exception", "<init>", "(Ljava/lang/String;)V"⟩, .declares ⟨"java/lang/Throwable", "<init>", "(Ljava/lang/String;)V"⟩]
theorem k_wN_warm {s U : State} (hW : s.WarmedH U.vm) (h : ∀ w ∈ k_wN, va_Nw w s) : ∀ w ∈ k_wN, va_Nw w U := by
  intro w hw
  have h0 := h w hw
  simp only [k_wN, List.mem_cons, List.not_mem_nil, or_false] at hw
  rcases hw with rfl | rfl | rfl | rfl | rfl | rfl
  · exact va_Nw.warmC hW h0
  · exact va_Nw.warmC hW h0
  · exact va_Nw.warmC hW h0
  · exact va_Nw.warmD hW h0
  · exact va_Nw.warmD hW h0
  · exact va_Nw.warmD hW h0
/-- what stays as it is whatever the heap: words -/
def k_Ew (ad : Nat → Nat) (U : State) : Prop :=
  (vk_R RX1 85 "put:" (ad 0) U ∧ vk_R RX1 87 "lock:" (ad 1) U ∧ vk_R RX1 89 "heat:" (ad 2) U ∧ vk_R RX1 91 "pass:" (ad 3) U ∧ vk_R RX1 93 "fix:" (ad 4) U) ∧ (vk_R RX4 202 "no such row, fuse or setting" (ad 15) U ∧ vk_R RX4 209 "an argument is out of range, or the buffer is not complete" (ad 16) U ∧ vk_R RX4 214 "refused in this state" (ad 17) U) ∧ va_Nw (.methodLinkNest RX1 95 yX4_isWithin RX4) U ∧ ∀ w ∈ k_wN, va_Nw w U
/-- what lies in the heap -/
def k_Eh (ad : Nat → Nat) (A : Nat → Prop) (U : State) (H : Heap) : Prop :=
  vk_S 5 lenW bytW ad (fun i => ad (i + 5)) A U H ∧ va_Z "java/lang/String" "COMPACT_STRINGS" "Z" (.int 1) A U H ∧ va_Zq "jdk/internal/util/Preconditions" "SIOOBE_FORMATTER" "Ljava/util/function/BiFunction;" A U H ∧
  va_Z "FuseRows$OrderText" "LOWEST_NUMBER" "[I" (.ref (ad 11)) A U H ∧ va_T .int (ad 11) 5 (fun j => .int (lowN j)) A U H ∧ va_Z "FuseRows$OrderText" "HIGHEST_NUMBER" "[I" (.ref (ad 12)) A U H ∧ va_T .int (ad 12) 5 (fun j => .int (highN j)) A U H ∧
  va_Z "FuseRows" "LOWEST_SETTING" "[I" (.ref (ad 13)) A U H ∧ va_T .int (ad 13) 4 (fun j => .int (lowS j)) A U H ∧ va_Z "FuseRows" "HIGHEST_SETTING" "[I" (.ref (ad 14)) A U H ∧ va_T .int (ad 14) 4 (fun j => .int (highS j)) A U H ∧
  vx_Zq Bundle.tN "UNASSIGNED_STACK" Bundle.steD A U H ∧ vx_Zq Bundle.tN "SUPPRESSED_SENTINEL" Bundle.listD A U H
def k_E (ad : Nat → Nat) (A : Nat → Prop) (U : State) (H : Heap) : Prop := k_Ew ad U ∧ k_Eh ad A U H
theorem k_Ew.warm {ad : Nat → Nat} {s U : State} (hW : s.WarmedH U.vm) (h : k_Ew ad s) : k_Ew ad U := by
  obtain ⟨⟨a0, a1, a2, a3, a4⟩, ⟨b0, b1, b2⟩, c, d⟩ := h
  exact ⟨⟨a0.warm hW, a1.warm hW, a2.warm hW, a3.warm hW, a4.warm hW⟩, ⟨b0.warm hW, b1.warm hW, b2.warm hW⟩, va_Nw.warmM hW c, k_wN_warm hW d⟩
theorem k_Ew.same {ad : Nat → Nat} {s U : State} (hv : U.vm = s.vm) (h : k_Ew ad s) : k_Ew ad U := k_Ew.warm (s := s) (U := U) (by rw [hv]; exact State.WarmedH.refl s) h
theorem k_Eh.moved {ad : Nat → Nat} {A : Nat → Prop} {u U : State} {H : Heap} (hvm : u.vm.Alike U.vm) (h : k_Eh ad A u H) : k_Eh ad A U H := by
  obtain ⟨a, b, c, d1, d2, d3, d4, e1, e2, e3, e4, f1, f2⟩ := h
  exact ⟨a.moved hvm, b.moved hvm, c.moved hvm, d1.moved hvm, d2.moved hvm, d3.moved hvm, d4.moved hvm, e1.moved hvm, e2.moved hvm, e3.moved hvm, e4.moved hvm, f1.moved hvm, f2.moved hvm⟩
theorem k_Eh.kept {ad : Nat → Nat} {A : Nat → Prop} {U : State} {H H1 : Heap} (hq : ∀ a : Nat, a < H.size → ¬ A a → H1[a]? = H[a]?) (h : k_Eh ad A U H) : k_Eh ad A U H1 := by
  obtain ⟨a, b, c, d1, d2, d3, d4, e1, e2, e3, e4, f1, f2⟩ := h
  exact ⟨a.kept hq, b.kept hq, c.kept hq, d1.kept hq, d2.kept hq, d3.kept hq, d4.kept hq, e1.kept hq, e2.kept hq, e3.kept hq, e4.kept hq, f1.kept hq, f2.kept hq⟩
theorem k_Eh.narrow {ad : Nat → Nat} {A B : Nat → Prop} {U : State} {H : Heap} (hAB : ∀ q, B q → A q) (h : k_Eh ad A U H) : k_Eh ad B U H := by
  obtain ⟨a, b, c, d1, d2, d3, d4, e1, e2, e3, e4, f1, f2⟩ := h
  exact ⟨a.narrow hAB, b.narrow hAB, c.narrow hAB, d1.narrow hAB, d2.narrow hAB, d3.narrow hAB, d4.narrow hAB, e1.narrow hAB, e2.narrow hAB, e3.narrow hAB, e4.narrow hAB, f1.narrow hAB, f2.narrow hAB⟩
theorem k_E_pay {ad : Nat → Nat} {A0 A1 : Nat → Prop} {s : State} {H : Heap} {locs : List Loc} (hE : k_E ad A0 s s.heap) (hS : va_S A0 s.heap H locs) (hA : ∀ q, A1 q → A0 q) {U : State} (hU : U.heap = H) (hW : s.WarmedH U.vm) : k_E ad A1 U U.heap := by
  rw [hU]
  exact ⟨k_Ew.warm hW hE.1, k_Eh.moved hW.alike (k_Eh.narrow hA (k_Eh.kept hS.2.1 hE.2))⟩
theorem k_E_blind {ad : Nat → Nat} {A : Nat → Prop} {a : Array Value} {U : State} {g : JFrame} {mk : MethodId} (h : k_E ad A U U.heap) : k_E ad A (U.calling g mk a) (U.calling g mk a).heap := ⟨k_Ew.same (s := U) (U := U.calling g mk a) rfl h.1, k_Eh.moved (U := U.calling g mk a) (Vm.Alike.refl U.vm) h.2⟩
def k_ckw {β : Type} (w : Nat) (b : Option β) : Option β := if w < 5 then b else none
theorem k_ckw_e {β : Type} {w : Nat} {b : Option β} {r : β} (h : k_ckw w b = some r) : w < 5 ∧ b = some r := by
  unfold k_ckw at h
  split at h
  · exact ⟨by assumption, h⟩
  · cases h
abbrev k_PRe (D : va_G) (tys : List (ClassId × FieldType)) (ws : va_W) (ad : Nat → Nat) : State → Prop := fun U => va_P D vwCl ws U.heap ∧ va_K D vwCl tys U ∧ k_E ad kF U U.heap
abbrev k_PMe (D : va_G) (tys : List (ClassId × FieldType)) (ws : va_W) (ad : Nat → Nat) : State → Prop := fun U => va_P D vwCl ws U.heap ∧ va_K D vwCl tys U ∧ va_D (fun _ => True) ws ∧ k_E ad (k_A ws) U U.heap
abbrev qRS (r : Nat) (ad : Nat → Nat) : Array Value → State → Outcome → State → Prop := va_Qr (fun (_ : Unit) => True) (fun _ a _ => a = ad r) kF
abbrev MetRIe (l : Launch) (y : MethodName) (c : ByteArray) (n : Nat) (rt : Option FieldType) (f L : Nat) (As : List Value) (D : va_G) (tys : List (ClassId × FieldType)) (ws : va_W) (ad : Nat → Nat) (r : Int32) : Prop := Met l y (wM y c n rt) (k_rm f L) (va_Pc As (k_PRe D tys ws ad)) (qRI r) 0 0 kF
abbrev MetMIe (l : Launch) (y : MethodName) (c : ByteArray) (n : Nat) (rt : Option FieldType) (f L : Nat) (As : List Value) (D : va_G) (tys : List (ClassId × FieldType)) (ws ws2 : va_W) (ad : Nat → Nat) (r : Int32) : Prop := Met l y (wM y c n rt) (k_rm f L) (va_Pc As (k_PMe D tys ws ad)) (qMI r D ws ws2) 0 0 (k_A ws)
abbrev MetRSe (l : Launch) (y : MethodName) (c : ByteArray) (n : Nat) (rt : Option FieldType) (f L : Nat) (As : List Value) (D : va_G) (tys : List (ClassId × FieldType)) (ws : va_W) (ad : Nat → Nat) (r : Nat) : Prop := Met l y (wM y c n rt) (k_rm f L) (va_Pc As (k_PRe D tys ws ad)) (qRS r ad) 0 0 kF
abbrev MetRVe (l : Launch) (y : MethodName) (c : ByteArray) (n : Nat) (rt : Option FieldType) (f L : Nat) (As : List Value) (D : va_G) (tys : List (ClassId × FieldType)) (ws : va_W) (ad : Nat → Nat) : Prop := Met l y (wM y c n rt) (k_rm f L) (va_Pc As (k_PRe D tys ws ad)) (va_Qv (fun (_ : Unit) => True) (fun _ _ => True) kF) 0 0 kF
abbrev MetMVe (l : Launch) (y : MethodName) (c : ByteArray) (n : Nat) (rt : Option FieldType) (f L : Nat) (As : List Value) (D : va_G) (tys : List (ClassId × FieldType)) (ws ws2 : va_W) (ad : Nat → Nat) : Prop := Met l y (wM y c n rt) (k_rm f L) (va_Pc As (k_PMe D tys ws ad)) (qMV D ws ws2) 0 0 (k_A ws)
theorem metRIe_of {l : Launch} {y : MethodName} {cc : ByteArray} {n : Nat} {rt : Option FieldType} {f L : Nat} {As : List Value} {D : va_G} {tys : List (ClassId × FieldType)} {ws : va_W} {ad : Nat → Nat} {r : Int32} (hy : plainName y.cls = true) (hn : (lg_sl As).length ≤ n)
    (body : ∀ (p : Program) (e : Env) (s : State) (m : MethodId) (below : List Frame) (meth : Method) (c : Code) (ls : Array Slot), CallFix p m c cc n s As.toArray wA y.cls → meth.sig.returnType = rt → meth.locks = false → va_P D vwCl ws s.heap → va_K D vwCl tys s → k_E ad kF s s.heap → lv_has ls n (lv_args 0 As) →
      W p l e (k_rm f L) s m As.toArray below meth c s.heap [] 0 0 (MQ below (qRI r) As.toArray s 0 0 kF) (F0 m 0 ls [])) : MetRIe l y cc n rt f L As D tys ws ad r := by
  refine Met.ofW (cc := cc) (maxL := n) (ret := rt) hy rfl ?_
  intro p e s m args below meth c s₁ B hml hv
  obtain ⟨rfl, hv⟩ := hv
  have hts := atoms_spec (ws := wM y cc n rt) B.pre
  have hown : s.vm.findClass y.cls = some m.cls := findClass_of_methodNamed B.named
  rw [lg_entry_eq]
  exact body p e s m below meth c _ ⟨B.exec, B.bytes, hml, hown, fun w h => hts w (List.mem_cons_of_mem _ h)⟩ B.returns B.notSynchronized hv.1 hv.2.1 hv.2.2 (lv_entry As hn)
theorem metRSe_of {l : Launch} {y : MethodName} {cc : ByteArray} {n : Nat} {rt : Option FieldType} {f L : Nat} {As : List Value} {D : va_G} {tys : List (ClassId × FieldType)} {ws : va_W} {ad : Nat → Nat} {r : Nat} (hy : plainName y.cls = true) (hn : (lg_sl As).length ≤ n)
    (body : ∀ (p : Program) (e : Env) (s : State) (m : MethodId) (below : List Frame) (meth : Method) (c : Code) (ls : Array Slot), CallFix p m c cc n s As.toArray wA y.cls → meth.sig.returnType = rt → meth.locks = false → va_P D vwCl ws s.heap → va_K D vwCl tys s → k_E ad kF s s.heap → lv_has ls n (lv_args 0 As) →
      W p l e (k_rm f L) s m As.toArray below meth c s.heap [] 0 0 (MQ below (qRS r ad) As.toArray s 0 0 kF) (F0 m 0 ls [])) : MetRSe l y cc n rt f L As D tys ws ad r := by
  refine Met.ofW (cc := cc) (maxL := n) (ret := rt) hy rfl ?_
  intro p e s m args below meth c s₁ B hml hv
  obtain ⟨rfl, hv⟩ := hv
  have hts := atoms_spec (ws := wM y cc n rt) B.pre
  have hown : s.vm.findClass y.cls = some m.cls := findClass_of_methodNamed B.named
  rw [lg_entry_eq]
  exact body p e s m below meth c _ ⟨B.exec, B.bytes, hml, hown, fun w h => hts w (List.mem_cons_of_mem _ h)⟩ B.returns B.notSynchronized hv.1 hv.2.1 hv.2.2 (lv_entry As hn)
theorem metRVe_of {l : Launch} {y : MethodName} {cc : ByteArray} {n : Nat} {rt : Option FieldType} {f L : Nat} {As : List Value} {D : va_G} {tys : List (ClassId × FieldType)} {ws : va_W} {ad : Nat → Nat} (hy : plainName y.cls = true) (hn : (lg_sl As).length ≤ n)
    (body : ∀ (p : Program) (e : Env) (s : State) (m : MethodId) (below : List Frame) (meth : Method) (c : Code) (ls : Array Slot), CallFix p m c cc n s As.toArray wA y.cls → meth.sig.returnType = rt → meth.locks = false → va_P D vwCl ws s.heap → va_K D vwCl tys s → k_E ad kF s s.heap → lv_has ls n (lv_args 0 As) →
      W p l e (k_rm f L) s m As.toArray below meth c s.heap [] 0 0 (MQ below (va_Qv (fun (_ : Unit) => True) (fun _ _ => True) kF) As.toArray s 0 0 kF) (F0 m 0 ls [])) : MetRVe l y cc n rt f L As D tys ws ad := by
  refine Met.ofW (cc := cc) (maxL := n) (ret := rt) hy rfl ?_
  intro p e s m args below meth c s₁ B hml hv
  obtain ⟨rfl, hv⟩ := hv
  have hts := atoms_spec (ws := wM y cc n rt) B.pre
  have hown : s.vm.findClass y.cls = some m.cls := findClass_of_methodNamed B.named
  rw [lg_entry_eq]
  exact body p e s m below meth c _ ⟨B.exec, B.bytes, hml, hown, fun w h => hts w (List.mem_cons_of_mem _ h)⟩ B.returns B.notSynchronized hv.1 hv.2.1 hv.2.2 (lv_entry As hn)
theorem metMIe_of {l : Launch} {y : MethodName} {cc : ByteArray} {n : Nat} {rt : Option FieldType} {f L : Nat} {As : List Value} {D : va_G} {tys : List (ClassId × FieldType)} {ws : va_W} {ad : Nat → Nat} {ws2 : va_W} {r : Int32} (hy : plainName y.cls = true) (hn : (lg_sl As).length ≤ n)
    (body : ∀ (p : Program) (e : Env) (s : State) (m : MethodId) (below : List Frame) (meth : Method) (c : Code) (ls : Array Slot), CallFix p m c cc n s As.toArray wA y.cls → meth.sig.returnType = rt → meth.locks = false → va_P D vwCl ws s.heap → va_K D vwCl tys s → va_D (k_A ws) ws → k_E ad (k_A ws) s s.heap → lv_has ls n (lv_args 0 As) →
      W p l e (k_rm f L) s m As.toArray below meth c s.heap [] 0 0 (MQ below (qMI r D ws ws2) As.toArray s 0 0 (k_A ws)) (F0 m 0 ls [])) : MetMIe l y cc n rt f L As D tys ws ws2 ad r := by
  refine Met.ofW (cc := cc) (maxL := n) (ret := rt) hy rfl ?_
  intro p e s m args below meth c s₁ B hml hv
  obtain ⟨rfl, hv⟩ := hv
  have hts := atoms_spec (ws := wM y cc n rt) B.pre
  have hown : s.vm.findClass y.cls = some m.cls := findClass_of_methodNamed B.named
  rw [lg_entry_eq]
  exact body p e s m below meth c _ ⟨B.exec, B.bytes, hml, hown, fun w h => hts w (List.mem_cons_of_mem _ h)⟩ B.returns B.notSynchronized hv.1 hv.2.1 (k_Ds hv.2.2.1) hv.2.2.2 (lv_entry As hn)
theorem metMVe_of {l : Launch} {y : MethodName} {cc : ByteArray} {n : Nat} {rt : Option FieldType} {f L : Nat} {As : List Value} {D : va_G} {tys : List (ClassId × FieldType)} {ws : va_W} {ad : Nat → Nat} {ws2 : va_W} (hy : plainName y.cls = true) (hn : (lg_sl As).length ≤ n)
    (body : ∀ (p : Program) (e : Env) (s : State) (m : MethodId) (below : List Frame) (meth : Method) (c : Code) (ls : Array Slot), CallFix p m c cc n s As.toArray wA y.cls → meth.sig.returnType = rt → meth.locks = false → va_P D vwCl ws s.heap → va_K D vwCl tys s → va_D (k_A ws) ws → k_E ad (k_A ws) s s.heap → lv_has ls n (lv_args 0 As) →
      W p l e (k_rm f L) s m As.toArray below meth c s.heap [] 0 0 (MQ below (qMV D ws ws2) As.toArray s 0 0 (k_A ws)) (F0 m 0 ls [])) : MetMVe l y cc n rt f L As D tys ws ws2 ad := by
  refine Met.ofW (cc := cc) (maxL := n) (ret := rt) hy rfl ?_
  intro p e s m args below meth c s₁ B hml hv
  obtain ⟨rfl, hv⟩ := hv
  have hts := atoms_spec (ws := wM y cc n rt) B.pre
  have hown : s.vm.findClass y.cls = some m.cls := findClass_of_methodNamed B.named
  rw [lg_entry_eq]
  exact body p e s m below meth c _ ⟨B.exec, B.bytes, hml, hown, fun w h => hts w (List.mem_cons_of_mem _ h)⟩ B.returns B.notSynchronized hv.1 hv.2.1 (k_Ds hv.2.2.1) hv.2.2.2 (lv_entry As hn)
section KE
variable {p : Program} {l : Launch} {e : Env} {R : Room} {s : State} {m : MethodId} {args : Array Value} {below : List Frame} {meth : Method} {c : Code} {H : Heap} {locs : List Loc} {cells slots : Nat} {Q : State → Prop}
variable {cc : ByteArray} {pc nL : Nat} {ls : Array Slot} {rest st0 As : List Value} {D : va_G} {tys : List (ClassId × FieldType)} {ws ws2 wc wc2 : va_W} {own C : String} {index maxL f L b : Nat} {y : MethodName} {bytes : ByteArray} {ret : Option FieldType} {A0 : Nat → Prop} {ad : Nat → Nat}
theorem g_callRIe_V {r0 : Int32} (hC : CallFix p m c cc nL s args wA own) (hM : MetRIe l y bytes maxL ret f L (.ref b :: As) D tys wc ad r0) (q1 : (.methodLink own index y : Cond) ∈ wA) (q2 : (.instanceMethod y : Cond) ∈ wA) (q3 : (.selects C y y : Cond) ∈ wA) (q4 : (.initialized C : Cond) ∈ wA) (q5 : (.code y bytes maxL ret : Cond) ∈ wA) (n : Nat) (hd : y.cls = C ∧ y.cls ≠ "java/lang/invoke/MethodHandle" ∧ y.cls ≠ "java/lang/invoke/VarHandle" ∧ (parseMethodDescriptor y.desc).map (fun d => d.parameters.length) = some n) (hR : f + 1 ≤ R.frames ∧ 8 + (maxL + 11) + L ≤ R.locals) (hcs : cells + 0 ≤ R.cells ∧ slots + 0 ≤ R.slots) (hn : As.length = n) (hst : st0 = As.reverse ++ .ref b :: rest) (hlen : ls.size = nL) (hcat : (rest.map fun v => v.category).sum ≤ 8) (hPc : va_P D vwCl wc H) (hKc : va_K D vwCl tys s) (hrc : ∃ cell : Cell, H[b]? = some cell ∧ cell.vm.isStatics = false ∧ s.vm.findClass C = some cell.cls) (hS : va_S A0 s.heap H locs) (d : decode cc pc = .ok (.invokevirtual index, 3)) (hE : k_E ad A0 s s.heap)
    (kk : ∀ (H1 : Heap) (locs1 : List Loc), (∀ q : Nat, q < H.size → H1[q]? = H[q]?) → va_S A0 s.heap H1 locs1 → W p l e R s m args below meth c H1 locs1 cells slots Q (F0 m (pc + 3) ls (.int r0 :: rest))) : W p l e R s m args below meth c H locs cells slots Q (F0 m pc ls st0) :=
  va_calli (va_runV (As := As) (rest := rest) hC hM (cwV n hC.2.2.2.2 (wM_V q1 q2 q3 q4 q5) rfl rfl rfl hd hR) ⟨fun a U g mk q => ⟨q.1, q.2.1, va_K.moved (u := U) (U := U.calling g mk a) (Vm.Alike.refl U.vm) q.2.2.1, k_E_blind q.2.2.2⟩, hrc, fun U hU hW => ⟨rfl, by rw [hU]; exact hPc, va_K.moved hW.alike hKc, k_E_pay hE hS (fun _ h => h.elim) hU hW⟩⟩ rfl hn (hlen : (F0 m pc ls st0).locals.size = nL) hst (lv_room hcat) d hcs) hS (fun q _ h => h.elim) (fun q h => h.elim) (fun r u t H1 locs1 ht hvm hw hB hz1 hk1 hS => by cases hw; exact kk H1 locs1 (fun q h => hk1 q h id) hS)
theorem g_callRSe_V {r0 : Nat} (hC : CallFix p m c cc nL s args wA own) (hM : MetRSe l y bytes maxL ret f L (.ref b :: As) D tys wc ad r0) (q1 : (.methodLink own index y : Cond) ∈ wA) (q2 : (.instanceMethod y : Cond) ∈ wA) (q3 : (.selects C y y : Cond) ∈ wA) (q4 : (.initialized C : Cond) ∈ wA) (q5 : (.code y bytes maxL ret : Cond) ∈ wA) (n : Nat) (hd : y.cls = C ∧ y.cls ≠ "java/lang/invoke/MethodHandle" ∧ y.cls ≠ "java/lang/invoke/VarHandle" ∧ (parseMethodDescriptor y.desc).map (fun d => d.parameters.length) = some n) (hR : f + 1 ≤ R.frames ∧ 8 + (maxL + 11) + L ≤ R.locals) (hcs : cells + 0 ≤ R.cells ∧ slots + 0 ≤ R.slots) (hn : As.length = n) (hst : st0 = As.reverse ++ .ref b :: rest) (hlen : ls.size = nL) (hcat : (rest.map fun v => v.category).sum ≤ 8) (hPc : va_P D vwCl wc H) (hKc : va_K D vwCl tys s) (hrc : ∃ cell : Cell, H[b]? = some cell ∧ cell.vm.isStatics = false ∧ s.vm.findClass C = some cell.cls) (hS : va_S A0 s.heap H locs) (d : decode cc pc = .ok (.invokevirtual index, 3)) (hE : k_E ad A0 s s.heap)
    (kk : ∀ (H1 : Heap) (locs1 : List Loc), (∀ q : Nat, q < H.size → H1[q]? = H[q]?) → va_S A0 s.heap H1 locs1 → W p l e R s m args below meth c H1 locs1 cells slots Q (F0 m (pc + 3) ls (.ref (ad r0) :: rest))) : W p l e R s m args below meth c H locs cells slots Q (F0 m pc ls st0) :=
  va_callr (va_runV (As := As) (rest := rest) hC hM (cwV n hC.2.2.2.2 (wM_V q1 q2 q3 q4 q5) rfl rfl rfl hd hR) ⟨fun a U g mk q => ⟨q.1, q.2.1, va_K.moved (u := U) (U := U.calling g mk a) (Vm.Alike.refl U.vm) q.2.2.1, k_E_blind q.2.2.2⟩, hrc, fun U hU hW => ⟨rfl, by rw [hU]; exact hPc, va_K.moved hW.alike hKc, k_E_pay hE hS (fun _ h => h.elim) hU hW⟩⟩ rfl hn (hlen : (F0 m pc ls st0).locals.size = nL) hst (lv_room hcat) d hcs) hS (fun q _ h => h.elim) (fun q h => h.elim) (fun u ra t H1 locs1 ht hvm hw hB hz1 hk1 hS => by cases hB; exact kk H1 locs1 (fun q h => hk1 q h id) hS)
theorem g_callRVe_V (hC : CallFix p m c cc nL s args wA own) (hM : MetRVe l y bytes maxL ret f L (.ref b :: As) D tys wc ad) (q1 : (.methodLink own index y : Cond) ∈ wA) (q2 : (.instanceMethod y : Cond) ∈ wA) (q3 : (.selects C y y : Cond) ∈ wA) (q4 : (.initialized C : Cond) ∈ wA) (q5 : (.code y bytes maxL ret : Cond) ∈ wA) (n : Nat) (hd : y.cls = C ∧ y.cls ≠ "java/lang/invoke/MethodHandle" ∧ y.cls ≠ "java/lang/invoke/VarHandle" ∧ (parseMethodDescriptor y.desc).map (fun d => d.parameters.length) = some n) (hR : f + 1 ≤ R.frames ∧ 8 + (maxL + 11) + L ≤ R.locals) (hcs : cells + 0 ≤ R.cells ∧ slots + 0 ≤ R.slots) (hn : As.length = n) (hst : st0 = As.reverse ++ .ref b :: rest) (hlen : ls.size = nL) (hcat : (rest.map fun v => v.category).sum ≤ 8) (hPc : va_P D vwCl wc H) (hKc : va_K D vwCl tys s) (hrc : ∃ cell : Cell, H[b]? = some cell ∧ cell.vm.isStatics = false ∧ s.vm.findClass C = some cell.cls) (hS : va_S A0 s.heap H locs) (d : decode cc pc = .ok (.invokevirtual index, 3)) (hE : k_E ad A0 s s.heap)
    (kk : ∀ (H1 : Heap) (locs1 : List Loc), (∀ q : Nat, q < H.size → H1[q]? = H[q]?) → va_S A0 s.heap H1 locs1 → W p l e R s m args below meth c H1 locs1 cells slots Q (F0 m (pc + 3) ls rest)) : W p l e R s m args below meth c H locs cells slots Q (F0 m pc ls st0) :=
  va_callv (va_runV (As := As) (rest := rest) hC hM (cwV n hC.2.2.2.2 (wM_V q1 q2 q3 q4 q5) rfl rfl rfl hd hR) ⟨fun a U g mk q => ⟨q.1, q.2.1, va_K.moved (u := U) (U := U.calling g mk a) (Vm.Alike.refl U.vm) q.2.2.1, k_E_blind q.2.2.2⟩, hrc, fun U hU hW => ⟨rfl, by rw [hU]; exact hPc, va_K.moved hW.alike hKc, k_E_pay hE hS (fun _ h => h.elim) hU hW⟩⟩ rfl hn (hlen : (F0 m pc ls st0).locals.size = nL) hst (lv_room hcat) d hcs) hS (fun q _ h => h.elim) (fun q h => h.elim) (fun u t H1 locs1 ht hvm hw hB hz1 hk1 hS => kk H1 locs1 (fun q h => hk1 q h id) hS)
theorem g_callMIe_V {r0 : Int32} (hC : CallFix p m c cc nL s args wA own) (hM : MetMIe l y bytes maxL ret f L (.ref b :: As) D tys wc wc2 ad r0) (q1 : (.methodLink own index y : Cond) ∈ wA) (q2 : (.instanceMethod y : Cond) ∈ wA) (q3 : (.selects C y y : Cond) ∈ wA) (q4 : (.initialized C : Cond) ∈ wA) (q5 : (.code y bytes maxL ret : Cond) ∈ wA) (n : Nat) (hd : y.cls = C ∧ y.cls ≠ "java/lang/invoke/MethodHandle" ∧ y.cls ≠ "java/lang/invoke/VarHandle" ∧ (parseMethodDescriptor y.desc).map (fun d => d.parameters.length) = some n) (hR : f + 1 ≤ R.frames ∧ 8 + (maxL + 11) + L ≤ R.locals) (hcs : cells + 0 ≤ R.cells ∧ slots + 0 ≤ R.slots) (hn : As.length = n) (hst : st0 = As.reverse ++ .ref b :: rest) (hlen : ls.size = nL) (hcat : (rest.map fun v => v.category).sum ≤ 8) (hPc : va_P D vwCl wc H) (hKc : va_K D vwCl tys s) (hDc : va_D A0 wc) (hrc : ∃ cell : Cell, H[b]? = some cell ∧ cell.vm.isStatics = false ∧ s.vm.findClass C = some cell.cls) (hS : va_S A0 s.heap H locs) (d : decode cc pc = .ok (.invokevirtual index, 3)) (hE : k_E ad A0 s s.heap)
    (kk : ∀ (H1 : Heap) (locs1 : List Loc), va_P D vwCl wc2 H1 → (∀ q : Nat, q < H.size → ¬ k_A wc q → H1[q]? = H[q]?) → va_S A0 s.heap H1 locs1 → W p l e R s m args below meth c H1 locs1 cells slots Q (F0 m (pc + 3) ls (.int r0 :: rest))) : W p l e R s m args below meth c H locs cells slots Q (F0 m pc ls st0) :=
  va_calli (va_runV (As := As) (rest := rest) hC hM (cwV n hC.2.2.2.2 (wM_V q1 q2 q3 q4 q5) rfl rfl rfl hd hR) ⟨fun a U g mk q => ⟨q.1, q.2.1, va_K.moved (u := U) (U := U.calling g mk a) (Vm.Alike.refl U.vm) q.2.2.1, q.2.2.2.1, k_E_blind q.2.2.2.2⟩, hrc, fun U hU hW => ⟨rfl, by rw [hU]; exact hPc, va_K.moved hW.alike hKc, hDc.weaken (fun _ _ _ _ => trivial), k_E_pay hE hS (fun q h => k_Aof hDc q h) hU hW⟩⟩ rfl hn (hlen : (F0 m pc ls st0).locals.size = nL) hst (lv_room hcat) d hcs) hS (fun q _ h => k_Aof hDc q h) (fun q h => k_Aof hDc q h) (fun r u t H1 locs1 ht hvm hw hB hz1 hk1 hS => by cases hw; exact kk H1 locs1 (by rw [← ht]; exact hB) hk1 hS)
theorem g_callMVe_V (hC : CallFix p m c cc nL s args wA own) (hM : MetMVe l y bytes maxL ret f L (.ref b :: As) D tys wc wc2 ad) (q1 : (.methodLink own index y : Cond) ∈ wA) (q2 : (.instanceMethod y : Cond) ∈ wA) (q3 : (.selects C y y : Cond) ∈ wA) (q4 : (.initialized C : Cond) ∈ wA) (q5 : (.code y bytes maxL ret : Cond) ∈ wA) (n : Nat) (hd : y.cls = C ∧ y.cls ≠ "java/lang/invoke/MethodHandle" ∧ y.cls ≠ "java/lang/invoke/VarHandle" ∧ (parseMethodDescriptor y.desc).map (fun d => d.parameters.length) = some n) (hR : f + 1 ≤ R.frames ∧ 8 + (maxL + 11) + L ≤ R.locals) (hcs : cells + 0 ≤ R.cells ∧ slots + 0 ≤ R.slots) (hn : As.length = n) (hst : st0 = As.reverse ++ .ref b :: rest) (hlen : ls.size = nL) (hcat : (rest.map fun v => v.category).sum ≤ 8) (hPc : va_P D vwCl wc H) (hKc : va_K D vwCl tys s) (hDc : va_D A0 wc) (hrc : ∃ cell : Cell, H[b]? = some cell ∧ cell.vm.isStatics = false ∧ s.vm.findClass C = some cell.cls) (hS : va_S A0 s.heap H locs) (d : decode cc pc = .ok (.invokevirtual index, 3)) (hE : k_E ad A0 s s.heap)
    (kk : ∀ (H1 : Heap) (locs1 : List Loc), va_P D vwCl wc2 H1 → (∀ q : Nat, q < H.size → ¬ k_A wc q → H1[q]? = H[q]?) → va_S A0 s.heap H1 locs1 → W p l e R s m args below meth c H1 locs1 cells slots Q (F0 m (pc + 3) ls rest)) : W p l e R s m args below meth c H locs cells slots Q (F0 m pc ls st0) :=
  va_callv (va_runV (As := As) (rest := rest) hC hM (cwV n hC.2.2.2.2 (wM_V q1 q2 q3 q4 q5) rfl rfl rfl hd hR) ⟨fun a U g mk q => ⟨q.1, q.2.1, va_K.moved (u := U) (U := U.calling g mk a) (Vm.Alike.refl U.vm) q.2.2.1, q.2.2.2.1, k_E_blind q.2.2.2.2⟩, hrc, fun U hU hW => ⟨rfl, by rw [hU]; exact hPc, va_K.moved hW.alike hKc, hDc.weaken (fun _ _ _ _ => trivial), k_E_pay hE hS (fun q h => k_Aof hDc q h) hU hW⟩⟩ rfl hn (hlen : (F0 m pc ls st0).locals.size = nL) hst (lv_room hcat) d hcs) hS (fun q _ h => k_Aof hDc q h) (fun q h => k_Aof hDc q h) (fun u t H1 locs1 ht hvm hw hB hz1 hk1 hS => kk H1 locs1 (by rw [← ht]; exact hB) hk1 hS)
theorem g_callRIe_S {r0 : Int32} (hC : CallFix p m c cc nL s args wA own) (hM : MetRIe l y bytes maxL ret f L As D tys wc ad r0) (q1 : (.methodLink own index y : Cond) ∈ wA) (q2 : (.static y : Cond) ∈ wA) (q4 : (.initialized y.cls : Cond) ∈ wA) (q5 : (.code y bytes maxL ret : Cond) ∈ wA) (n : Nat) (hd : y.cls ≠ "java/lang/invoke/MethodHandle" ∧ y.cls ≠ "java/lang/invoke/VarHandle" ∧ (parseMethodDescriptor y.desc).map (fun d => d.parameters.length) = some n) (hR : f + 1 ≤ R.frames ∧ 8 + (maxL + 11) + L ≤ R.locals) (hcs : cells + 0 ≤ R.cells ∧ slots + 0 ≤ R.slots) (hn : As.length = n) (hst : st0 = As.reverse ++ rest) (hlen : ls.size = nL) (hcat : (rest.map fun v => v.category).sum ≤ 8) (hPc : va_P D vwCl wc H) (hKc : va_K D vwCl tys s) (hS : va_S A0 s.heap H locs) (d : decode cc pc = .ok (.invokestatic index, 3)) (hE : k_E ad A0 s s.heap)
    (kk : ∀ (H1 : Heap) (locs1 : List Loc), (∀ q : Nat, q < H.size → H1[q]? = H[q]?) → va_S A0 s.heap H1 locs1 → W p l e R s m args below meth c H1 locs1 cells slots Q (F0 m (pc + 3) ls (.int r0 :: rest))) : W p l e R s m args below meth c H locs cells slots Q (F0 m pc ls st0) :=
  va_calli (va_runS (As := As) (rest := rest) hC hM (va_cwS n hC.2.2.2.2 (wM_S q1 q2 q4 q5) rfl rfl rfl hd hR) ⟨fun a U g mk q => ⟨q.1, q.2.1, va_K.moved (u := U) (U := U.calling g mk a) (Vm.Alike.refl U.vm) q.2.2.1, k_E_blind q.2.2.2⟩, fun U hU hW => ⟨rfl, by rw [hU]; exact hPc, va_K.moved hW.alike hKc, k_E_pay hE hS (fun _ h => h.elim) hU hW⟩⟩ rfl hn (hlen : (F0 m pc ls st0).locals.size = nL) hst (lv_room hcat) d hcs) hS (fun q _ h => h.elim) (fun q h => h.elim) (fun r u t H1 locs1 ht hvm hw hB hz1 hk1 hS => by cases hw; exact kk H1 locs1 (fun q h => hk1 q h id) hS)
theorem g_callRSe_S {r0 : Nat} (hC : CallFix p m c cc nL s args wA own) (hM : MetRSe l y bytes maxL ret f L As D tys wc ad r0) (q1 : (.methodLink own index y : Cond) ∈ wA) (q2 : (.static y : Cond) ∈ wA) (q4 : (.initialized y.cls : Cond) ∈ wA) (q5 : (.code y bytes maxL ret : Cond) ∈ wA) (n : Nat) (hd : y.cls ≠ "java/lang/invoke/MethodHandle" ∧ y.cls ≠ "java/lang/invoke/VarHandle" ∧ (parseMethodDescriptor y.desc).map (fun d => d.parameters.length) = some n) (hR : f + 1 ≤ R.frames ∧ 8 + (maxL + 11) + L ≤ R.locals) (hcs : cells + 0 ≤ R.cells ∧ slots + 0 ≤ R.slots) (hn : As.length = n) (hst : st0 = As.reverse ++ rest) (hlen : ls.size = nL) (hcat : (rest.map fun v => v.category).sum ≤ 8) (hPc : va_P D vwCl wc H) (hKc : va_K D vwCl tys s) (hS : va_S A0 s.heap H locs) (d : decode cc pc = .ok (.invokestatic index, 3)) (hE : k_E ad A0 s s.heap)
    (kk : ∀ (H1 : Heap) (locs1 : List Loc), (∀ q : Nat, q < H.size → H1[q]? = H[q]?) → va_S A0 s.heap H1 locs1 → W p l e R s m args below meth c H1 locs1 cells slots Q (F0 m (pc + 3) ls (.ref (ad r0) :: rest))) : W p l e R s m args below meth c H locs cells slots Q (F0 m pc ls st0) :=
  va_callr (va_runS (As := As) (rest := rest) hC hM (va_cwS n hC.2.2.2.2 (wM_S q1 q2 q4 q5) rfl rfl rfl hd hR) ⟨fun a U g mk q => ⟨q.1, q.2.1, va_K.moved (u := U) (U := U.calling g mk a) (Vm.Alike.refl U.vm) q.2.2.1, k_E_blind q.2.2.2⟩, fun U hU hW => ⟨rfl, by rw [hU]; exact hPc, va_K.moved hW.alike hKc, k_E_pay hE hS (fun _ h => h.elim) hU hW⟩⟩ rfl hn (hlen : (F0 m pc ls st0).locals.size = nL) hst (lv_room hcat) d hcs) hS (fun q _ h => h.elim) (fun q h => h.elim) (fun u ra t H1 locs1 ht hvm hw hB hz1 hk1 hS => by cases hB; exact kk H1 locs1 (fun q h => hk1 q h id) hS)
theorem g_callRVe_S (hC : CallFix p m c cc nL s args wA own) (hM : MetRVe l y bytes maxL ret f L As D tys wc ad) (q1 : (.methodLink own index y : Cond) ∈ wA) (q2 : (.static y : Cond) ∈ wA) (q4 : (.initialized y.cls : Cond) ∈ wA) (q5 : (.code y bytes maxL ret : Cond) ∈ wA) (n : Nat) (hd : y.cls ≠ "java/lang/invoke/MethodHandle" ∧ y.cls ≠ "java/lang/invoke/VarHandle" ∧ (parseMethodDescriptor y.desc).map (fun d => d.parameters.length) = some n) (hR : f + 1 ≤ R.frames ∧ 8 + (maxL + 11) + L ≤ R.locals) (hcs : cells + 0 ≤ R.cells ∧ slots + 0 ≤ R.slots) (hn : As.length = n) (hst : st0 = As.reverse ++ rest) (hlen : ls.size = nL) (hcat : (rest.map fun v => v.category).sum ≤ 8) (hPc : va_P D vwCl wc H) (hKc : va_K D vwCl tys s) (hS : va_S A0 s.heap H locs) (d : decode cc pc = .ok (.invokestatic index, 3)) (hE : k_E ad A0 s s.heap)
    (kk : ∀ (H1 : Heap) (locs1 : List Loc), (∀ q : Nat, q < H.size → H1[q]? = H[q]?) → va_S A0 s.heap H1 locs1 → W p l e R s m args below meth c H1 locs1 cells slots Q (F0 m (pc + 3) ls rest)) : W p l e R s m args below meth c H locs cells slots Q (F0 m pc ls st0) :=
  va_callv (va_runS (As := As) (rest := rest) hC hM (va_cwS n hC.2.2.2.2 (wM_S q1 q2 q4 q5) rfl rfl rfl hd hR) ⟨fun a U g mk q => ⟨q.1, q.2.1, va_K.moved (u := U) (U := U.calling g mk a) (Vm.Alike.refl U.vm) q.2.2.1, k_E_blind q.2.2.2⟩, fun U hU hW => ⟨rfl, by rw [hU]; exact hPc, va_K.moved hW.alike hKc, k_E_pay hE hS (fun _ h => h.elim) hU hW⟩⟩ rfl hn (hlen : (F0 m pc ls st0).locals.size = nL) hst (lv_room hcat) d hcs) hS (fun q _ h => h.elim) (fun q h => h.elim) (fun u t H1 locs1 ht hvm hw hB hz1 hk1 hS => kk H1 locs1 (fun q h => hk1 q h id) hS)
theorem g_callMIe_S {r0 : Int32} (hC : CallFix p m c cc nL s args wA own) (hM : MetMIe l y bytes maxL ret f L As D tys wc wc2 ad r0) (q1 : (.methodLink own index y : Cond) ∈ wA) (q2 : (.static y : Cond) ∈ wA) (q4 : (.initialized y.cls : Cond) ∈ wA) (q5 : (.code y bytes maxL ret : Cond) ∈ wA) (n : Nat) (hd : y.cls ≠ "java/lang/invoke/MethodHandle" ∧ y.cls ≠ "java/lang/invoke/VarHandle" ∧ (parseMethodDescriptor y.desc).map (fun d => d.parameters.length) = some n) (hR : f + 1 ≤ R.frames ∧ 8 + (maxL + 11) + L ≤ R.locals) (hcs : cells + 0 ≤ R.cells ∧ slots + 0 ≤ R.slots) (hn : As.length = n) (hst : st0 = As.reverse ++ rest) (hlen : ls.size = nL) (hcat : (rest.map fun v => v.category).sum ≤ 8) (hPc : va_P D vwCl wc H) (hKc : va_K D vwCl tys s) (hDc : va_D A0 wc) (hS : va_S A0 s.heap H locs) (d : decode cc pc = .ok (.invokestatic index, 3)) (hE : k_E ad A0 s s.heap)
    (kk : ∀ (H1 : Heap) (locs1 : List Loc), va_P D vwCl wc2 H1 → (∀ q : Nat, q < H.size → ¬ k_A wc q → H1[q]? = H[q]?) → va_S A0 s.heap H1 locs1 → W p l e R s m args below meth c H1 locs1 cells slots Q (F0 m (pc + 3) ls (.int r0 :: rest))) : W p l e R s m args below meth c H locs cells slots Q (F0 m pc ls st0) :=
  va_calli (va_runS (As := As) (rest := rest) hC hM (va_cwS n hC.2.2.2.2 (wM_S q1 q2 q4 q5) rfl rfl rfl hd hR) ⟨fun a U g mk q => ⟨q.1, q.2.1, va_K.moved (u := U) (U := U.calling g mk a) (Vm.Alike.refl U.vm) q.2.2.1, q.2.2.2.1, k_E_blind q.2.2.2.2⟩, fun U hU hW => ⟨rfl, by rw [hU]; exact hPc, va_K.moved hW.alike hKc, hDc.weaken (fun _ _ _ _ => trivial), k_E_pay hE hS (fun q h => k_Aof hDc q h) hU hW⟩⟩ rfl hn (hlen : (F0 m pc ls st0).locals.size = nL) hst (lv_room hcat) d hcs) hS (fun q _ h => k_Aof hDc q h) (fun q h => k_Aof hDc q h) (fun r u t H1 locs1 ht hvm hw hB hz1 hk1 hS => by cases hw; exact kk H1 locs1 (by rw [← ht]; exact hB) hk1 hS)
theorem g_callMVe_S (hC : CallFix p m c cc nL s args wA own) (hM : MetMVe l y bytes maxL ret f L As D tys wc wc2 ad) (q1 : (.methodLink own index y : Cond) ∈ wA) (q2 : (.static y : Cond) ∈ wA) (q4 : (.initialized y.cls : Cond) ∈ wA) (q5 : (.code y bytes maxL ret : Cond) ∈ wA) (n : Nat) (hd : y.cls ≠ "java/lang/invoke/MethodHandle" ∧ y.cls ≠ "java/lang/invoke/VarHandle" ∧ (parseMethodDescriptor y.desc).map (fun d => d.parameters.length) = some n) (hR : f + 1 ≤ R.frames ∧ 8 + (maxL + 11) + L ≤ R.locals) (hcs : cells + 0 ≤ R.cells ∧ slots + 0 ≤ R.slots) (hn : As.length = n) (hst : st0 = As.reverse ++ rest) (hlen : ls.size = nL) (hcat : (rest.map fun v => v.category).sum ≤ 8) (hPc : va_P D vwCl wc H) (hKc : va_K D vwCl tys s) (hDc : va_D A0 wc) (hS : va_S A0 s.heap H locs) (d : decode cc pc = .ok (.invokestatic index, 3)) (hE : k_E ad A0 s s.heap)
    (kk : ∀ (H1 : Heap) (locs1 : List Loc), va_P D vwCl wc2 H1 → (∀ q : Nat, q < H.size → ¬ k_A wc q → H1[q]? = H[q]?) → va_S A0 s.heap H1 locs1 → W p l e R s m args below meth c H1 locs1 cells slots Q (F0 m (pc + 3) ls rest)) : W p l e R s m args below meth c H locs cells slots Q (F0 m pc ls st0) :=
  va_callv (va_runS (As := As) (rest := rest) hC hM (va_cwS n hC.2.2.2.2 (wM_S q1 q2 q4 q5) rfl rfl rfl hd hR) ⟨fun a U g mk q => ⟨q.1, q.2.1, va_K.moved (u := U) (U := U.calling g mk a) (Vm.Alike.refl U.vm) q.2.2.1, q.2.2.2.1, k_E_blind q.2.2.2.2⟩, fun U hU hW => ⟨rfl, by rw [hU]; exact hPc, va_K.moved hW.alike hKc, hDc.weaken (fun _ _ _ _ => trivial), k_E_pay hE hS (fun q h => k_Aof hDc q h) hU hW⟩⟩ rfl hn (hlen : (F0 m pc ls st0).locals.size = nL) hst (lv_room hcat) d hcs) hS (fun q _ h => k_Aof hDc q h) (fun q h => k_Aof hDc q h) (fun u t H1 locs1 ht hvm hw hB hz1 hk1 hS => kk H1 locs1 (by rw [← ht]; exact hB) hk1 hS)
theorem g_callRI_SN {r0 : Int32} {host : String} (hC : CallFix p m c cc nL s args wA own) (hM : MetRI l y bytes maxL ret f L As D tys wc r0) (q1 : va_Nw (.methodLinkNest own index y host) s) (q2 : (.static y : Cond) ∈ wA) (q4 : (.initialized y.cls : Cond) ∈ wA) (q5 : (.code y bytes maxL ret : Cond) ∈ wA) (n : Nat) (hd : y.cls ≠ "java/lang/invoke/MethodHandle" ∧ y.cls ≠ "java/lang/invoke/VarHandle" ∧ (parseMethodDescriptor y.desc).map (fun d => d.parameters.length) = some n) (hR : f + 1 ≤ R.frames ∧ 8 + (maxL + 11) + L ≤ R.locals) (hcs : cells + 0 ≤ R.cells ∧ slots + 0 ≤ R.slots) (hn : As.length = n) (hst : st0 = As.reverse ++ rest) (hlen : ls.size = nL) (hcat : (rest.map fun v => v.category).sum ≤ 8) (hPc : va_P D vwCl wc H) (hKc : va_K D vwCl tys s) (hS : va_S A0 s.heap H locs) (d : decode cc pc = .ok (.invokestatic index, 3))
    (kk : ∀ (H1 : Heap) (locs1 : List Loc), (∀ q : Nat, q < H.size → H1[q]? = H[q]?) → va_S A0 s.heap H1 locs1 → W p l e R s m args below meth c H1 locs1 cells slots Q (F0 m (pc + 3) ls (.int r0 :: rest))) : W p l e R s m args below meth c H locs cells slots Q (F0 m pc ls st0) :=
  va_calli (va_runSN (As := As) (rest := rest) hC hM ⟨va_cnB n hC.2.2.2.2 (wM_in q5) rfl rfl rfl q1 (hC.2.2.2.2 _ q4) hd hR, hC.2.2.2.2 _ q2, trivial⟩ ⟨fun a U g mk q => ⟨q.1, q.2.1, va_K.moved (u := U) (U := U.calling g mk a) (Vm.Alike.refl U.vm) q.2.2⟩, fun U hU hW => ⟨rfl, by rw [hU]; exact hPc, va_K.moved hW.alike hKc⟩⟩ rfl hn (hlen : (F0 m pc ls st0).locals.size = nL) hst (lv_room hcat) d hcs) hS (fun q _ h => h.elim) (fun q h => h.elim) (fun r u t H1 locs1 ht hvm hw hB hz1 hk1 hS => by cases hw; exact kk H1 locs1 (fun q h => hk1 q h id) hS)
theorem g_stat {N : Nat} {f : Nat → Int32} {t : Nat} (hx : p.tables.exec = Jvm.exec) (hb : c.code = cc) (hT : va_T .int t N (fun j => .int (f j)) A0 s s.heap) (hS : va_S A0 s.heap H locs) {i : Int32} (d : decode cc pc = .ok (.iaload, 1)) {β : Type} {r0 : β} {F : Int32 → Option β} (h : k_ck i N (k_let (f i.toNatClampNeg) F) = some r0) (k : ∀ z : Int32, F z = some r0 → W p l e R s m args below meth c H locs cells slots Q (F0 m (pc + 1) ls (.int z :: rest))) : W p l e R s m args below meth c H locs cells slots Q (F0 m pc ls (.int i :: .ref t :: rest)) := va_ti hx hb hT hS (k_ck_e h).1 rfl d (k _ (k_ck_e h).2)
theorem g_retRS {r w : Nat} {rt : FieldType} (hrt : (∃ n, rt = .object n) ∨ ∃ t, rt = .array t) (hx : p.tables.exec = Jvm.exec) (hb : c.code = cc) (hr : meth.sig.returnType = some rt) (hlk : meth.locks = false) (hS : va_S kF s.heap H locs) (h : some w = some r) (d : decode cc pc = .ok (.areturn, 1)) : W p l e R s m args below meth c H locs cells slots (MQ below (qRS r ad) args s cells slots kF) (F0 m pc ls [.ref (ad w)]) :=
  W.aret hx hb hr hrt (Or.inr ⟨_, rfl⟩) (fun t ht _ => ⟨⟨(), ad w, rfl, trivial, by rw [Option.some.inj h]⟩, hS.F ht⟩) hS.2.2 d hlk
theorem g_retRV (hx : p.tables.exec = Jvm.exec) (hb : c.code = cc) (hr : meth.sig.returnType = none) (hlk : meth.locks = false) (hS : va_S kF s.heap H locs) (d : decode cc pc = .ok (.return_, 1)) : W p l e R s m args below meth c H locs cells slots (MQ below (va_Qv (fun (_ : Unit) => True) (fun _ _ => True) kF) args s cells slots kF) (F0 m pc ls []) :=
  W.vret hx hb hr (fun t ht _ => ⟨⟨(), rfl, trivial, trivial⟩, hS.F ht⟩) hS.2.2 d hlk
theorem g_copyi {H0 : Heap} {A : Nat → Prop} (hx : p.tables.exec = Jvm.exec) (hb : c.code = cc) (hml : c.maxLocals = ls.size) (hown : s.vm.findClass own = some m.cls) (hlink : (Cond.methodLink own index arraycopyName).before args s = true) (hnat : (Cond.native arraycopyName).before args s = true) (hstat : (Cond.static arraycopyName).before args s = true) (hini : (Cond.initialized "java/lang/System").before args s = true)
    (hK : va_K D vwCl tys s) (hP : va_P D vwCl ws H) (hD : va_D A ws) (hS : va_S A H0 H locs) (q0 q1 t0 : Nat) {a a0 : Nat} {c0 : ClassId} {n0 n1 : Nat} {f g : Nat → Int32} (ha0 : ws[q0]? = some (a0, .inl (c0, n0, .inl f))) (ha1 : ws[q1]? = some (a, .inl (c0, n1, .inl g))) (ht0 : tys[t0]? = some (c0, .int))
    {sp dp n : Int32} (h1 : ¬ sp < 0) (h2 : ¬ dp < 0) (h3 : ¬ n < 0) (h4 : sp.toNatClampNeg + n.toNatClampNeg ≤ n0) (h5 : dp.toNatClampNeg + n.toNatClampNeg ≤ n1)
    (hframes : 1 ≤ R.frames) (hlocals : (rest.map fun v => v.category).sum + 18 ≤ R.locals) (d : decode cc pc = .ok (.invokestatic index, 3)) {β : Type} {rr : Option β} {F : (Nat → Int32) → Option β} (h : k_let (va_cpy f g sp.toNatClampNeg dp.toNatClampNeg n.toNatClampNeg) F = rr)
    (kk : ∀ (z : Nat → Int32) (H1 : Heap) (locs1 : List Loc), F z = rr → va_P D vwCl (ws.set q1 (a, .inl (c0, n1, .inl z))) H1 → va_S A H0 H1 locs1 → W p l e R s m args below meth c H1 locs1 cells slots Q (F0 m (pc + 3) ls rest)) : W p l e R s m args below meth c H locs cells slots Q (F0 m pc ls (.int n :: .int dp :: .ref a :: .int sp :: .ref a0 :: rest)) :=
  va_copyi hx hb hml hown hlink hnat hstat hini hK hP hD hS q0 q1 t0 t0 ha0 ha1 ht0 ht0 rfl h1 h2 h3 h4 h5 (fun _ _ => rfl) hframes (by rw [show nativeFrameWords "java/lang/System" "arraycopy" 5 = 7 from by decide +kernel]; exact hlocals) d (fun H1 l1 hP1 _ hS1 => kk _ H1 l1 h hP1 hS1)
end KE
/-! the JDK's own String members over the five words -/
theorem mW_coder (l : Launch) (D : va_G) (tys : List (ClassId × FieldType)) (ad : Nat → Nat) (w : Nat) (hw : w < 5) : MetRIe l yJ0_coder_7d493 cJ0_coder_7d493 1 (some .byte) 0 0 [.ref (ad w)] D tys [] ad 0 := by
  refine metRIe_of (by decide) (Nat.le_of_ble_eq_true rfl) ?_
  intro p e s m below meth c ls hC hr hlk hP hK hE hl
  have hC : CallFix p m c cJ0_coder_7d493 1 s [.ref (ad w)].toArray wA RJ0 := hC
  obtain ⟨hx, hb, hml, hown, hts⟩ := id hC
  have hS : va_S kF s.heap s.heap [] := va_S.rf
  have hl : lv_has ls 1 [(0, .ref (ad w))] := hl
  refine va_gets hx hb hE.2.2.1 hS hown (hts _ q192) (fun _ h9 => h9) dJ0_coder_7d493_0 ?_
  refine lv_if_eq (tgt := 13) hx hb dJ0_coder_7d493_3 (by decide) (fun q => absurd q (by decide)) (fun _ => ?_)
  refine lv_aload_n hx hb dJ0_coder_7d493_6 rfl (lv_at hl 0 rfl) ?_
  refine vk_getf hx hb (hE.2.1.1 w hw).2.1 hS hown (hts _ q1046) (fun _ h9 => h9) dJ0_coder_7d493_7 ?_
  refine lv_goto (tgt := 14) hx hb dJ0_coder_7d493_10 (by decide) ?_
  exact g_retRZ hx hb hr (by decide +kernel) hlk hS rfl dJ0_coder_7d493_14
theorem mW_isLatin1 (l : Launch) (D : va_G) (tys : List (ClassId × FieldType)) (ad : Nat → Nat) (w : Nat) (hw : w < 5) : MetRIe l yJ0_isLatin1_aae02 cJ0_isLatin1_aae02 1 (some .boolean) 0 0 [.ref (ad w)] D tys [] ad 1 := by
  refine metRIe_of (by decide) (Nat.le_of_ble_eq_true rfl) ?_
  intro p e s m below meth c ls hC hr hlk hP hK hE hl
  have hC : CallFix p m c cJ0_isLatin1_aae02 1 s [.ref (ad w)].toArray wA RJ0 := hC
  obtain ⟨hx, hb, hml, hown, hts⟩ := id hC
  have hS : va_S kF s.heap s.heap [] := va_S.rf
  have hl : lv_has ls 1 [(0, .ref (ad w))] := hl
  refine va_gets hx hb hE.2.2.1 hS hown (hts _ q192) (fun _ h9 => h9) dJ0_isLatin1_aae02_0 ?_
  refine lv_if_eq (tgt := 17) hx hb dJ0_isLatin1_aae02_3 (by decide) (fun q => absurd q (by decide)) (fun _ => ?_)
  refine lv_aload_n hx hb dJ0_isLatin1_aae02_6 rfl (lv_at hl 0 rfl) ?_
  refine vk_getf hx hb (hE.2.1.1 w hw).2.1 hS hown (hts _ q1046) (fun _ h9 => h9) dJ0_isLatin1_aae02_7 ?_
  refine lv_if_ne (tgt := 17) hx hb dJ0_isLatin1_aae02_10 (by decide) (fun q => absurd rfl q) (fun _ => ?_)
  refine lv_iconst (v := 1) hx hb dJ0_isLatin1_aae02_13 (by decide) ?_
  refine lv_goto (tgt := 18) hx hb dJ0_isLatin1_aae02_14 (by decide) ?_
  exact g_retRZ hx hb hr (by decide +kernel) hlk hS rfl dJ0_isLatin1_aae02_18
theorem hdW_coder : yJ0_coder_7d493.cls = RJ0 ∧ yJ0_coder_7d493.cls ≠ "java/lang/invoke/MethodHandle" ∧ yJ0_coder_7d493.cls ≠ "java/lang/invoke/VarHandle" ∧ (parseMethodDescriptor yJ0_coder_7d493.desc).map (fun d => d.parameters.length) = some 0 := by decide +kernel
theorem hdW_isLatin1 : yJ0_isLatin1_aae02.cls = RJ0 ∧ yJ0_isLatin1_aae02.cls ≠ "java/lang/invoke/MethodHandle" ∧ yJ0_isLatin1_aae02.cls ≠ "java/lang/invoke/VarHandle" ∧ (parseMethodDescriptor yJ0_isLatin1_aae02.desc).map (fun d => d.parameters.length) = some 0 := by decide +kernel
theorem hdW_length : yJ0_length_8abf5.cls = RJ0 ∧ yJ0_length_8abf5.cls ≠ "java/lang/invoke/MethodHandle" ∧ yJ0_length_8abf5.cls ≠ "java/lang/invoke/VarHandle" ∧ (parseMethodDescriptor yJ0_length_8abf5.desc).map (fun d => d.parameters.length) = some 0 := by decide +kernel
theorem hdW_charAt : yJ0_charAt_5068e.cls = RJ0 ∧ yJ0_charAt_5068e.cls ≠ "java/lang/invoke/MethodHandle" ∧ yJ0_charAt_5068e.cls ≠ "java/lang/invoke/VarHandle" ∧ (parseMethodDescriptor yJ0_charAt_5068e.desc).map (fun d => d.parameters.length) = some 1 := by decide +kernel
theorem hdW_lcharAt : yJ1_charAt_3b067.cls ≠ "java/lang/invoke/MethodHandle" ∧ yJ1_charAt_3b067.cls ≠ "java/lang/invoke/VarHandle" ∧ (parseMethodDescriptor yJ1_charAt_3b067.desc).map (fun d => d.parameters.length) = some 2 := by decide +kernel
theorem hdW_check : yJ0_checkIndex_df160.cls ≠ "java/lang/invoke/MethodHandle" ∧ yJ0_checkIndex_df160.cls ≠ "java/lang/invoke/VarHandle" ∧ (parseMethodDescriptor yJ0_checkIndex_df160.desc).map (fun d => d.parameters.length) = some 2 := by decide +kernel
theorem hdW_pre : yJ3_checkIndex_8e157.cls ≠ "java/lang/invoke/MethodHandle" ∧ yJ3_checkIndex_8e157.cls ≠ "java/lang/invoke/VarHandle" ∧ (parseMethodDescriptor yJ3_checkIndex_8e157.desc).map (fun d => d.parameters.length) = some 3 := by decide +kernel
set_option maxRecDepth 100000 in
theorem mW_length (l : Launch) (D : va_G) (tys : List (ClassId × FieldType)) (ad : Nat → Nat) (w : Nat) (hw : w < 5) : MetRIe l yJ0_length_8abf5 cJ0_length_8abf5 1 (some .int) 1 20 [.ref (ad w)] D tys [] ad (fW_len w) := by
  refine metRIe_of (by decide) (Nat.le_of_ble_eq_true rfl) ?_
  intro p e s m below meth c ls hC hr hlk hP hK hE hl
  have hC : CallFix p m c cJ0_length_8abf5 1 s [.ref (ad w)].toArray wA RJ0 := hC
  obtain ⟨hx, hb, hml, hown, hts⟩ := id hC
  have hS : va_S kF s.heap s.heap [] := va_S.rf
  have hl : lv_has ls 1 [(0, .ref (ad w))] := hl
  refine lv_aload_n hx hb dJ0_length_8abf5_0 rfl (lv_at hl 0 rfl) ?_
  refine vk_getf hx hb (hE.2.1.1 w hw).2.2.1 hS hown (hts _ q1045) (fun _ h9 => h9) dJ0_length_8abf5_1 ?_
  refine va_tlen hx hb (hE.2.1.1 w hw).2.2.2 hS (v := fW_len w) rfl dJ0_length_8abf5_4 ?_
  refine lv_aload_n hx hb dJ0_length_8abf5_5 rfl (lv_at hl 0 rfl) ?_
  refine g_callRIe_V (As := []) (rest := [.int (fW_len w)]) hC (mW_coder l D tys ad w hw) q188 q189 q190 q86 q191 0 hdW_coder ⟨Nat.le_of_ble_eq_true rfl, Nat.le_of_ble_eq_true rfl⟩ ⟨Nat.le_of_ble_eq_true rfl, Nat.le_of_ble_eq_true rfl⟩ rfl rfl hl.1 (Nat.le_of_ble_eq_true rfl) va_P_nil hK (vk_recv hE.2.1 hw hS) hS dJ0_length_8abf5_6 hE (fun H locs hk hS => ?_)
  refine lv_ishr hx hb dJ0_length_8abf5_9 ?_
  rw [sb_shr0]
  exact g_retRI hx hb hr hlk hS rfl dJ0_length_8abf5_10
theorem mW_pre (l : Launch) (D : va_G) (tys : List (ClassId × FieldType)) (ad : Nat → Nat) (i n : Int32) (v : Value) (hv : v = .null ∨ ∃ t, v = .ref t) (h0 : ¬ i < 0) (h1 : i < n) : MetRIe l yJ3_checkIndex_8e157 cJ3_checkIndex_8e157 3 (some .int) 0 0 [.int i, .int n, v] D tys [] ad i := by
  have hn : (lg_sl [.int i, .int n, v]).length ≤ 3 := by rcases hv with rfl | ⟨t, rfl⟩ <;> exact Nat.le_of_ble_eq_true rfl
  refine metRIe_of (by decide) hn ?_
  intro p e s m below meth c ls hC hr hlk hP hK hE hl
  obtain ⟨hx, hb, hml, hown, hts⟩ := id hC
  have hS : va_S kF s.heap s.heap [] := va_S.rf
  have hl : lv_has ls 3 [(0, .int i), (1, .int n)] := ⟨hl.1, hl.2.1, fun q hq => hl.2.2 q (by
    simp only [List.mem_cons, List.not_mem_nil, or_false] at hq
    rcases hq with rfl | rfl
    · exact List.mem_of_getElem? (i := 0) rfl
    · exact List.mem_of_getElem? (i := 1) rfl)⟩
  refine lv_iload_n hx hb dJ3_checkIndex_8e157_0 rfl (lv_at hl 0 rfl) ?_
  refine lv_if_lt (tgt := 9) hx hb dJ3_checkIndex_8e157_1 (by decide) (fun q => absurd q h0) (fun _ => ?_)
  refine lv_iload_n hx hb dJ3_checkIndex_8e157_4 rfl (lv_at hl 0 rfl) ?_
  refine lv_iload_n hx hb dJ3_checkIndex_8e157_5 rfl (lv_at hl 1 rfl) ?_
  refine lv_icmp_lt (tgt := 16) hx hb dJ3_checkIndex_8e157_6 (by decide) (fun _ => ?_) (fun q => absurd h1 q)
  refine lv_iload_n hx hb dJ3_checkIndex_8e157_16 rfl (lv_at hl 0 rfl) ?_
  exact g_retRI hx hb hr hlk hS rfl dJ3_checkIndex_8e157_17
set_option maxRecDepth 100000 in
theorem mW_check (l : Launch) (D : va_G) (tys : List (ClassId × FieldType)) (ad : Nat → Nat) (i n : Int32) (h0 : ¬ i < 0) (h1 : i < n) : MetRVe l yJ0_checkIndex_df160 cJ0_checkIndex_df160 2 none 1 22 [.int i, .int n] D tys [] ad := by
  refine metRVe_of (by decide) (Nat.le_of_ble_eq_true rfl) ?_
  intro p e s m below meth c ls hC hr hlk hP hK hE hl
  have hC : CallFix p m c cJ0_checkIndex_df160 2 s [.int i, .int n].toArray wA RJ0 := hC
  obtain ⟨hx, hb, hml, hown, hts⟩ := id hC
  have hS : va_S kF s.heap s.heap [] := va_S.rf
  have hl : lv_has ls 2 [(0, .int i), (1, .int n)] := hl
  refine lv_iload_n hx hb dJ0_checkIndex_df160_0 rfl (lv_at hl 0 rfl) ?_
  refine lv_iload_n hx hb dJ0_checkIndex_df160_1 rfl (lv_at hl 1 rfl) ?_
  obtain ⟨v, hv, hZ⟩ : ∃ v : Value, (v = .null ∨ ∃ t, v = .ref t) ∧ va_Z "jdk/internal/util/Preconditions" "SIOOBE_FORMATTER" "Ljava/util/function/BiFunction;" v kF s s.heap := by
    rcases hE.2.2.2.1 with h | ⟨t, h⟩
    · exact ⟨_, Or.inl rfl, h⟩
    · exact ⟨_, Or.inr ⟨t, rfl⟩, h⟩
  refine va_gets hx hb hZ hS hown (hts _ q208) (fun _ h9 => h9) dJ0_checkIndex_df160_2 ?_
  refine g_callRIe_S (As := [.int i, .int n, v]) (rest := []) hC (mW_pre l D tys ad i n v hv h0 h1) q210 q211 q88 q212 3 hdW_pre ⟨Nat.le_of_ble_eq_true rfl, Nat.le_of_ble_eq_true rfl⟩ ⟨Nat.le_of_ble_eq_true rfl, Nat.le_of_ble_eq_true rfl⟩ rfl rfl hl.1 (Nat.le_of_ble_eq_true rfl) va_P_nil hK hS dJ0_checkIndex_df160_5 hE (fun H locs hk hS => ?_)
  refine lv_pop hx hb dJ0_checkIndex_df160_8 rfl ?_
  exact g_retRV hx hb hr hlk hS dJ0_checkIndex_df160_9
theorem k_in_lt {i : Int32} {n : Nat} (h : vp_in i n) (hn : n < 2 ^ 31) : ¬ i < 0 ∧ i < nI n := by
  obtain ⟨j, hj, rfl⟩ := vp_in_of h hn
  exact ⟨nI_pos (by omega), nI_lt hj hn⟩
theorem lenW_lt (w : Nat) : lenW.getD w 0 < 2 ^ 31 := by
  match w with
  | 0 => decide
  | 1 => decide
  | 2 => decide
  | 3 => decide
  | 4 => decide
  | n + 5 => show (0 : Nat) < 2 ^ 31; decide
set_option maxRecDepth 100000 in
theorem mW_lcharAt (l : Launch) (D : va_G) (tys : List (ClassId × FieldType)) (ad : Nat → Nat) (w : Nat) (hw : w < 5) (k : Int32) (hk : vp_in k (lenW.getD w 0)) : MetRIe l yJ1_charAt_3b067 cJ1_charAt_3b067 2 (some .char) 2 43 [.ref (ad (w + 5)), .int k] D tys [] ad (fW_ch w k) := by
  refine metRIe_of (by decide) (Nat.le_of_ble_eq_true rfl) ?_
  intro p e s m below meth c ls hC hr hlk hP hK hE hl
  have hC : CallFix p m c cJ1_charAt_3b067 2 s [.ref (ad (w + 5)), .int k].toArray wA RJ1 := hC
  obtain ⟨hx, hb, hml, hown, hts⟩ := id hC
  have hS : va_S kF s.heap s.heap [] := va_S.rf
  have hl : lv_has ls 2 [(0, .ref (ad (w + 5))), (1, .int k)] := hl
  obtain ⟨h0, h1⟩ := k_in_lt hk (lenW_lt w)
  refine lv_iload_n hx hb dJ1_charAt_3b067_0 rfl (lv_at hl 1 rfl) ?_
  refine lv_aload_n hx hb dJ1_charAt_3b067_1 rfl (lv_at hl 0 rfl) ?_
  refine va_tlen hx hb (hE.2.1.1 w hw).2.2.2 hS (v := nI (lenW.getD w 0)) rfl dJ1_charAt_3b067_2 ?_
  refine g_callRVe_S (As := [.int k, .int (nI (lenW.getD w 0))]) (rest := []) hC (mW_check l D tys ad k _ h0 h1) q205 q206 q86 q207 2 hdW_check ⟨Nat.le_of_ble_eq_true rfl, Nat.le_of_ble_eq_true rfl⟩ ⟨Nat.le_of_ble_eq_true rfl, Nat.le_of_ble_eq_true rfl⟩ rfl rfl hl.1 (Nat.le_of_ble_eq_true rfl) va_P_nil hK hS dJ1_charAt_3b067_3 hE (fun H locs _ hS => ?_)
  refine lv_aload_n hx hb dJ1_charAt_3b067_6 rfl (lv_at hl 0 rfl) ?_
  refine lv_iload_n hx hb dJ1_charAt_3b067_7 rfl (lv_at hl 1 rfl) ?_
  refine va_tb hx hb (hE.2.1.1 w hw).2.2.2 hS hk (v := .int ((bytW.getD w []).getD k.toNatClampNeg 0)) rfl dJ1_charAt_3b067_8 ?_
  refine lv_sipush (v := 255) hx hb dJ1_charAt_3b067_9 (by decide) ?_
  refine lv_iand hx hb dJ1_charAt_3b067_12 ?_
  refine lv_i2c (v := fW_ch w k) hx hb dJ1_charAt_3b067_13 rfl ?_
  exact g_retRZ hx hb hr (pk_nc _) hlk hS rfl dJ1_charAt_3b067_14
set_option maxRecDepth 100000 in
theorem mW_charAt (l : Launch) (D : va_G) (tys : List (ClassId × FieldType)) (ad : Nat → Nat) (w : Nat) (hw : w < 5) (k : Int32) (hk : vp_in k (lenW.getD w 0)) : MetRIe l yJ0_charAt_5068e cJ0_charAt_5068e 2 (some .char) 3 64 [.ref (ad w), .int k] D tys [] ad (fW_ch w k) := by
  refine metRIe_of (by decide) (Nat.le_of_ble_eq_true rfl) ?_
  intro p e s m below meth c ls hC hr hlk hP hK hE hl
  have hC : CallFix p m c cJ0_charAt_5068e 2 s [.ref (ad w), .int k].toArray wA RJ0 := hC
  obtain ⟨hx, hb, hml, hown, hts⟩ := id hC
  have hS : va_S kF s.heap s.heap [] := va_S.rf
  have hl : lv_has ls 2 [(0, .ref (ad w)), (1, .int k)] := hl
  refine lv_aload_n hx hb dJ0_charAt_5068e_0 rfl (lv_at hl 0 rfl) ?_
  refine g_callRIe_V (As := []) (rest := []) hC (mW_isLatin1 l D tys ad w hw) q198 q199 q200 q86 q201 0 hdW_isLatin1 ⟨Nat.le_of_ble_eq_true rfl, Nat.le_of_ble_eq_true rfl⟩ ⟨Nat.le_of_ble_eq_true rfl, Nat.le_of_ble_eq_true rfl⟩ rfl rfl hl.1 (Nat.le_of_ble_eq_true rfl) va_P_nil hK (vk_recv hE.2.1 hw hS) hS dJ0_charAt_5068e_1 hE (fun H locs _ hS => ?_)
  refine lv_if_eq (tgt := 16) hx hb dJ0_charAt_5068e_4 (by decide) (fun q => absurd q (by decide)) (fun _ => ?_)
  refine lv_aload_n hx hb dJ0_charAt_5068e_7 rfl (lv_at hl 0 rfl) ?_
  refine vk_getf hx hb (hE.2.1.1 w hw).2.2.1 hS hown (hts _ q1045) (fun _ h9 => h9) dJ0_charAt_5068e_8 ?_
  refine lv_iload_n hx hb dJ0_charAt_5068e_11 rfl (lv_at hl 1 rfl) ?_
  refine g_callRIe_S (As := [.ref (ad (w + 5)), .int k]) (rest := []) hC (mW_lcharAt l D tys ad w hw k hk) q202 q203 q87 q204 2 hdW_lcharAt ⟨Nat.le_of_ble_eq_true rfl, Nat.le_of_ble_eq_true rfl⟩ ⟨Nat.le_of_ble_eq_true rfl, Nat.le_of_ble_eq_true rfl⟩ rfl rfl hl.1 (Nat.le_of_ble_eq_true rfl) va_P_nil hK hS dJ0_charAt_5068e_12 hE (fun H locs _ hS => ?_)
  exact g_retRZ hx hb hr (pk_nc _) hlk hS rfl dJ0_charAt_5068e_15
