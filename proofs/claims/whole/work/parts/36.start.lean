/-! THE CLAIM OUT OF ONE WALK OF THE LAW'S BODY. Your part is whole_start (and what it stands on); all else here is the same for every law, but numbers. -/
def R_law : String := "FuseRowsLaw"
def lw_P (b : Addr) (xs : List Int32) (args : Array Value) (s : State) : Prop := args = #[.ref b] ∧ s.IntsAt b xs ∧ xs.length ≤ 2048 ∧ (Jvm.Cond.and given_1 narrow_1).before args s = true
/-- what a walk over the start with the record d0 says of its end, said of the start itself -/
theorem lw_closed {s t : State} {o : Outcome} {d0 : Drawn} {L : List Loc} {k n : Nat} (hd0 : s.drawn.sameBut d0 lw_cs) (hv : ∃ v, o = .returned v) (hW : (s.setDrawn d0).WarmedH t.vm) (hs : (s.setDrawn d0).sameButNew ({ t with vm := s.vm } : State) L k n) : State.butDraws s t lw_cs (fun t1 => Framed s o t1 L k n) := by
  have h2 : t.drawn = d0 := congrArg State.drawn hs.1
  refine ⟨⟨hv, hW, State.sameButNew.setDrawn hs s.drawn⟩, ?_, by decide⟩
  rw [h2]
  exact hd0
def lw_Q (_ : Array Value) (s : State) (o : Outcome) (t : State) : Prop := o = .returned (some (.int 1)) ∧ State.butDraws s t lw_cs (fun t1 => Framed s o t1 [] 601024 7293034)
def lw_Z (below : List Frame) (a : Array Value) (s : State) : State → Prop := fun t => ∃ o, t.status = .running ∧ Ended t below o ∧ lw_Q a s o t
/-- the law's own end, with 1 on the stack, nothing written that was there before, its room as the claim has it; d0: the record of draws at this point (at the entry s.drawn: begin with 'refine W.base ?_' and 'have hd0 := Drawn.sameBut.refl s.drawn lw_cs') -/
theorem lw_ret {p : Program} {l : Launch} {e : Env} {s : State} {m : MethodId} {below : List Frame} {meth : Method} {c : Code} {b : Nat} {d0 : Drawn} (hd0 : s.drawn.sameBut d0 lw_cs) (hx : p.tables.exec = Jvm.exec) (hb : c.code = code) (hr : meth.sig.returnType = ret) (hlocks : meth.locks = false) {pc : Nat} {H : Heap} {ls : Array Slot} (hdg : decode code pc = .ok (.ireturn, 1)) : W p l e room_1 (s.setDrawn d0) m #[Value.ref b] below meth c H [] 601024 7293034 (lw_Z below #[Value.ref b] s) (F0 m pc ls [.int 1]) := by
  intro T hT X
  obtain ⟨fs, hret, hrun, hended, hW, hframe⟩ := X.leave (v := some (.int 1)) (hlocks := hlocks) (fun h => by rw [hr] at h; cases h)
  have hmeth' : T.vm.method? m = some meth := X.method'
  refine ⟨T.setFrames fs, ?_, .returned (some (.int 1)), hrun, hended, rfl, lw_closed hd0 ⟨_, rfl⟩ hW hframe⟩
  jvm_step X.here [X.here.top, hx, hb, hdg, hmeth', hr, ret, narrow_b1]
  (try refine ⟨rfl, ?_⟩); (try refine ⟨rfl, ?_⟩)
  first | (intro acts; rw [hret _ acts rfl rfl rfl]) | rw [hret _ _ rfl rfl rfl]
  exact Steps.refl _
/-- what holds at the law's entry: the machine, the code, the tables' words (any of lw_tbl by 'hts w (by decide +kernel)'), the script of L ints xs at the cell b, what the Statement gives of the start (any of its parts by flat_of_before) -/
def lw_At (p : Program) (s : State) (m : MethodId) (meth : Method) (c : Code) (b L : Nat) (xs : Nat → Int32) : Prop :=
  p.tables.exec = Jvm.exec ∧ c.code = code ∧ meth.sig.returnType = ret ∧ c.maxLocals = 9 ∧ s.vm.findClass R_law = some m.cls ∧ (∀ w ∈ lw_tbl, w.before #[Value.ref b] s = true) ∧ va_X b L xs s s.heap ∧ b < s.heap.size ∧ meth.locks = false ∧ (Jvm.Cond.and given_1 narrow_1).before #[Value.ref b] s = true
theorem k_arr {args : Array Value} {s : State} {ty : FieldType} (h : (Cond.arrayClass ty).before args s = true) (hn : ∀ C, ty ≠ .object C) : ∃ cA, ArrOfT s cA ty ∧ va_RA s cA ty := by
  obtain ⟨c, k, comp, h1, h2, h3⟩ := Cond.arrayClass_spec (args := args) (first := s) (o := none) (s := s) (idx := []) h
  refine ⟨c, fun n z => ⟨fun k h => (by cases h), k, h2, comp, h3⟩, ?_⟩
  cases ty <;> first | exact h1 | exact (hn _ rfl).elim
theorem k_arrO {s : State} {C : String} (h : va_AO C s) : ∃ cA, ArrOfT s cA (.object C) ∧ va_RA s cA (.object C) := by
  obtain ⟨comp, c, k, h1, h2, h3, h4, h5⟩ := Cond.arrayOver_spec h
  exact ⟨c, fun n z => ⟨fun k h => (by cases h), k, h3, comp, h4⟩, k, comp, h3, h4, h1, h5⟩
set_option maxRecDepth 100000 in
set_option maxHeartbeats 8000000 in
theorem law_start {p : Program} {e : Env} {s : State} {m : MethodId} {below : List Frame} {meth : Method} {c : Code} (l : Launch) (hflags : l.flags = flags0) {b L : Nat} {xs : Nat → Int32} (C0 : lw_At p s m meth c b L xs) (hpure : fL_top xs L = some 1) : W p l e room_1 s m #[Value.ref b] below meth c s.heap [] 0 0 (lw_Z below #[Value.ref b] s) (entryFrame m ([Value.ref b] : List Value).toArray 9) := by
  obtain ⟨hx, hb, hr, hml, hown, hts0, hX, hbl, hlocks, hgv⟩ := id C0
  have hts : ∀ w ∈ wA, w.before #[Value.ref b] s = true := fun w h => hts0 w (wA_tbl h)
  have hC : CallFix p m c cL_law 9 s #[Value.ref b] wA RL := ⟨hx, hb, hml, hown, hts⟩
  have hl9 : l.stackTraces = false := by simp only [Launch.stackTraces, hflags]; decide
  have hA : ∀ q : Nat, s.heap.size ≤ q → (fun q : Nat => s.heap.size ≤ q) q := fun _ h => h
  have hbA : ¬ (fun q : Nat => s.heap.size ≤ q) b := Nat.not_le.mpr hbl
  obtain ⟨⟨ad, hE⟩, hN, hkC⟩ := k_E_start hts0 hgv
  obtain ⟨c0, iS0, hKn0⟩ := u_known (C := RX1) (T := TX1) (N := 8) (n := 8) hts iaX1 (hts _ q130)
  obtain ⟨c1, iS1, hKn1⟩ := u_known (C := RX2) (T := TX2) (N := 3) (n := 3) hts iaX2 (hts _ q118)
  obtain ⟨c2, iS2, hKn2⟩ := u_known (C := RX3) (T := TX3) (N := 6) (n := 6) hts iaX3 (hts _ q99)
  obtain ⟨c3, iS3, hKn3⟩ := u_known (C := RX4) (T := TX4) (N := 4) (n := 4) hts iaX4 (hts _ q91)
  obtain ⟨c4, iS4, hKn4⟩ := u_known (C := RX5) (T := TX5) (N := 17) (n := 17) hts iaX5 (hts _ q711)
  obtain ⟨dC, dI, hKc⟩ : ∃ (dC : Nat → ClassId) (dI : Nat → Nat → Nat), ∀ (k : Nat) (q : vw_C), vwCl[k]? = some q → u_Kn s q.1 q.2.1 q.2.2 (dC k) (dI k) := by
    refine ⟨fun k => if k = 0 then c0 else if k = 1 then c1 else if k = 2 then c2 else if k = 3 then c3 else c4, fun k => if k = 0 then iS0 else if k = 1 then iS1 else if k = 2 then iS2 else if k = 3 then iS3 else iS4, ?_⟩
    intro k q hq
    match k, hq with
    | 0, hq => cases hq; exact hKn0
    | 1, hq => cases hq; exact hKn1
    | 2, hq => cases hq; exact hKn2
    | 3, hq => cases hq; exact hKn3
    | 4, hq => cases hq; exact hKn4
    | k + 5, hq => simp [vwCl] at hq
  obtain ⟨cyI, hI⟩ := k_arr (hts _ q116) (fun _ h => by cases h)
  obtain ⟨cyC, hCh⟩ := k_arr (hts _ q151) (fun _ h => by cases h)
  obtain ⟨cyJ, hJ⟩ := k_arr (hts _ q1044) (fun _ h => by cases h)
  obtain ⟨cyO, hO⟩ := k_arrO hkC.2.2.2
  have hKL : va_K (dC, dI) vwCl (tyL cyI cyC cyO cyJ) s := by
    refine ⟨hKc, fun k q hq => ?_⟩
    match k, hq with
    | 0, hq => cases hq; exact hI
    | 1, hq => cases hq; exact hCh
    | 2, hq => cases hq; exact hO
    | 3, hq => cases hq; exact hJ
    | k + 4, hq => simp at hq
  have hK : va_K (dC, dI) vwCl (tyS cyI cyC cyO) s := hKL.sub [0, 1, 2] rfl
  have hS : va_S (fun q : Nat => s.heap.size ≤ q) s.heap s.heap [] := va_S.rf
  have hP : va_P (dC, dI) vwCl [] s.heap := va_P_nil
  have hD : va_D (fun q : Nat => s.heap.size ≤ q) [] := ⟨fun i j p q h => by simp at h, fun k q h => by simp at h⟩
  have hl := lv_entry ([.ref b]) (n := 9) (Nat.le_of_ble_eq_true rfl)
  rw [lg_entry_eq]
  generalize (lg_sl ([.ref b]) ++ List.replicate (9 - (lg_sl ([.ref b])).length) Slot.unset).toArray = ls at hl ⊢
  have hl : lv_has ls 9 [(0, .ref b)] := hl
  refine va_new (ci := 3) (fs := [.null, .null, .null, .null]) (C := RX4) (T := TX4) (N := 4) hx hb hts iaX4 tyX4 tyX4_ok hown (hts _ q90) (hts _ q91) (hts _ q71) hK hP hD hS hA rfl (fun j hj => by rcases (show j = 0 ∨ j = 1 ∨ j = 2 ∨ j = 3 by omega) with rfl | rfl | rfl | rfl <;> rfl) (Nat.le_of_ble_eq_true rfl) (Nat.le_of_ble_eq_true rfl) dL_law_0 (fun ob H hP hD hS => ?_)
  have hP : va_P (dC, dI) vwCl (([] : va_W) ++ [(ob, .inr (3, [.null, .null, .null, .null]))]) H := hP
  have hD : va_D (fun q : Nat => s.heap.size ≤ q) (([] : va_W) ++ [(ob, .inr (3, [.null, .null, .null, .null]))]) := hD
  refine lv_dup hx hb dL_law_3 rfl ?_
  refine g_ctorI hC (mX4_init l dC dI cyI cyC cyO ob _) q92 q71 q94 q93 rfl hdX4_init ⟨(Nat.le_of_ble_eq_true rfl), (Nat.le_of_ble_eq_true rfl)⟩ ⟨(Nat.le_of_ble_eq_true rfl), (Nat.le_of_ble_eq_true rfl)⟩ hl.1 (Nat.le_of_ble_eq_true rfl) hP hK hD hS hA hkC dL_law_4 (fun u4 H locs hP hD hS => ?_)
  obtain ⟨n0, ⟨n1, n2, n3⟩, t0, ⟨t1, t2, t3⟩, s0, ⟨aR, ro, r1, r2, r3⟩, x0, x1, x2, x3, x4⟩ := u4
  have hP : va_P (dC, dI) vwCl (wAll cyI cyC cyO ob n0 n1 n2 n3 t0 t1 t2 t3 s0 aR ro r1 r2 r3 x0 x1 x2 x3 x4 v0 v0 set0 0 0 0 v0 v0 set0 0 0 0 (fun _ => sv0) 0 0 v0 0 0 0 0 v0 v0 v0) H := hP
  have hD : va_D (fun q : Nat => s.heap.size ≤ q) (wAll cyI cyC cyO ob n0 n1 n2 n3 t0 t1 t2 t3 s0 aR ro r1 r2 r3 x0 x1 x2 x3 x4 v0 v0 set0 0 0 0 v0 v0 set0 0 0 0 (fun _ => sv0) 0 0 v0 0 0 0 0 v0 v0 v0) := hD
  refine lv_astore_n (lv' := [(1, .ref ob), (0, .ref b)]) hx hb dL_law_7 rfl hl (by decide) rfl (fun ls hl => ?_)
  refine va_new (ci := 4) (fs := [.int 0, .null, .null, .int 0, .null, .null, .int 0, .int 0, .null, .null, .null, .int 0, .int 0, .int 0, .int 0, .null, .long 0]) (C := RX5) (T := TX5) (N := 17) hx hb hts iaX5 tyX5 tyX5_ok hown (hts _ q710) (hts _ q711) (hts _ q75) hK hP hD hS hA rfl (fun j hj => by rcases (show j = 0 ∨ j = 1 ∨ j = 2 ∨ j = 3 ∨ j = 4 ∨ j = 5 ∨ j = 6 ∨ j = 7 ∨ j = 8 ∨ j = 9 ∨ j = 10 ∨ j = 11 ∨ j = 12 ∨ j = 13 ∨ j = 14 ∨ j = 15 ∨ j = 16 by omega) with rfl | rfl | rfl | rfl | rfl | rfl | rfl | rfl | rfl | rfl | rfl | rfl | rfl | rfl | rfl | rfl | rfl <;> rfl) (Nat.le_of_ble_eq_true rfl) (Nat.le_of_ble_eq_true rfl) dL_law_8 (fun o5 H hP hD hS => ?_)
  have hP : va_P (dC, dI) vwCl ((wAll cyI cyC cyO ob n0 n1 n2 n3 t0 t1 t2 t3 s0 aR ro r1 r2 r3 x0 x1 x2 x3 x4 v0 v0 set0 0 0 0 v0 v0 set0 0 0 0 (fun _ => sv0) 0 0 v0 0 0 0 0 v0 v0 v0) ++ [(o5, .inr (4, [.int 0, .null, .null, .int 0, .null, .null, .int 0, .int 0, .null, .null, .null, .int 0, .int 0, .int 0, .int 0, .null, .long 0]))]) H := hP
  have hD : va_D (fun q : Nat => s.heap.size ≤ q) ((wAll cyI cyC cyO ob n0 n1 n2 n3 t0 t1 t2 t3 s0 aR ro r1 r2 r3 x0 x1 x2 x3 x4 v0 v0 set0 0 0 0 v0 v0 set0 0 0 0 (fun _ => sv0) 0 0 v0 0 0 0 0 v0 v0 v0) ++ [(o5, .inr (4, [.int 0, .null, .null, .int 0, .null, .null, .int 0, .int 0, .null, .null, .null, .int 0, .int 0, .int 0, .int 0, .null, .long 0]))]) := hD
  refine lv_dup hx hb dL_law_11 rfl ?_
  refine g_ctorI hC (mX5_init l dC dI cyI cyC cyO o5 _) q712 q75 q714 q713 rfl hdX5_init ⟨(Nat.le_of_ble_eq_true rfl), (Nat.le_of_ble_eq_true rfl)⟩ ⟨(Nat.le_of_ble_eq_true rfl), (Nat.le_of_ble_eq_true rfl)⟩ hl.1 (Nat.le_of_ble_eq_true rfl) hP hK hD hS hA hkC dL_law_12 (fun u5 H locs hP hD hS => ?_)
  obtain ⟨a1, a2, a3, a4, a5, a6, a7, a8⟩ := u5
  have hP : va_P (dC, dI) vwCl ((wAll cyI cyC cyO ob n0 n1 n2 n3 t0 t1 t2 t3 s0 aR ro r1 r2 r3 x0 x1 x2 x3 x4 v0 v0 set0 0 0 0 v0 v0 set0 0 0 0 (fun _ => sv0) 0 0 v0 0 0 0 0 v0 v0 v0) ++ wX5 cyI cyC o5 a1 a2 a3 a4 a5 a6 a7 a8 0 mz0 v0 0 v0 v0 0 0 mr0 mb0 v0 0 0 0 0 v0 0) H := hP
  have hD : va_D (fun q : Nat => s.heap.size ≤ q) ((wAll cyI cyC cyO ob n0 n1 n2 n3 t0 t1 t2 t3 s0 aR ro r1 r2 r3 x0 x1 x2 x3 x4 v0 v0 set0 0 0 0 v0 v0 set0 0 0 0 (fun _ => sv0) 0 0 v0 0 0 0 0 v0 v0 v0) ++ wX5 cyI cyC o5 a1 a2 a3 a4 a5 a6 a7 a8 0 mz0 v0 0 v0 v0 0 0 mr0 mb0 v0 0 0 0 0 v0 0) := hD
  refine lv_astore_n (lv' := [(2, .ref o5), (1, .ref ob), (0, .ref b)]) hx hb dL_law_15 rfl hl (by decide) rfl (fun ls hl => ?_)
  refine lv_iconst (v := 1) hx hb dL_law_16 (by decide) ?_
  refine g_newa (atype := .long) (ty := .long) hx hb (hts _ q1044) rfl 3 rfl hKL hP hD hS hA (n := 1) (N := 1) (a0 := (1, .inr (.inl (fun _ => 0)))) (fun _ => rfl) (by decide) (by decide) (Nat.le_of_ble_eq_true rfl) (Nat.le_of_ble_eq_true rfl) (Nat.le_of_ble_eq_true rfl) dL_law_17 (fun oa H hP hD hS => ?_)
  have hP : va_P (dC, dI) vwCl (wLaw cyI cyC cyO cyJ ob n0 n1 n2 n3 t0 t1 t2 t3 s0 aR ro r1 r2 r3 x0 x1 x2 x3 x4 o5 a1 a2 a3 a4 a5 a6 a7 a8 oa v0 v0 set0 0 0 0 v0 v0 set0 0 0 0 (fun _ => sv0) 0 0 v0 0 0 0 0 v0 v0 v0 0 mz0 v0 0 v0 v0 0 0 mr0 mb0 v0 0 0 0 0 v0 0 (fun _ => 0)) H := hP
  have hD : va_D (fun q : Nat => s.heap.size ≤ q) (wLaw cyI cyC cyO cyJ ob n0 n1 n2 n3 t0 t1 t2 t3 s0 aR ro r1 r2 r3 x0 x1 x2 x3 x4 o5 a1 a2 a3 a4 a5 a6 a7 a8 oa v0 v0 set0 0 0 0 v0 v0 set0 0 0 0 (fun _ => sv0) 0 0 v0 0 0 0 0 v0 v0 v0 0 mz0 v0 0 v0 v0 0 0 mr0 mb0 v0 0 0 0 0 v0 0 (fun _ => 0)) := hD
  refine lv_astore_n (lv' := [(3, .ref oa), (2, .ref o5), (1, .ref ob), (0, .ref b)]) hx hb dL_law_19 rfl hl (by decide) rfl (fun ls hl => ?_)
  refine lv_iconst (v := 0) hx hb dL_law_20 (by decide) ?_
  refine lv_istore (lv' := [(4, .int 0), (3, .ref oa), (2, .ref o5), (1, .ref ob), (0, .ref b)]) hx hb dL_law_21 hl (by decide) rfl (fun ls hl => ?_)
  refine W.widen (k := 50) (n := 3400) (Nat.le_of_ble_eq_true rfl) (Nat.le_of_ble_eq_true rfl) ?_
  refine law_loop dC dI cyI cyC cyO cyJ hl9 ad ob n0 n1 n2 n3 t0 t1 t2 t3 s0 aR ro r1 r2 r3 x0 x1 x2 x3 x4 o5 a1 a2 a3 a4 a5 a6 a7 a8 oa hC hX hbl hbA hKL hE hN ?_ 600 0 50 3400 v0 v0 set0 0 0 0 v0 v0 set0 0 0 0 (fun _ => sv0) 0 0 v0 0 0 0 0 v0 v0 v0 0 mz0 v0 0 v0 v0 0 0 mr0 mb0 v0 0 0 0 0 v0 0 (fun _ => 0) H _ ls hpure (Nat.le_of_ble_eq_true rfl) (Nat.le_of_ble_eq_true rfl) hP hD hS (lv_sub hl [4, 3, 2, 1, 0] rfl)
  intro H locs ls cells slots hc hs hS _
  refine lv_iconst (v := 1) hx hb dL_law_1520 (by decide) ?_
  refine va_forget (fun q hq => hS.2.2 q hq) ?_
  refine W.widen hc hs ?_
  refine W.base ?_
  exact lw_ret (Drawn.sameBut.refl s.drawn lw_cs) hx hb hr hlocks dL_law_1521
