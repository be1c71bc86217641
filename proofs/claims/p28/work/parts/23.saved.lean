/-- a state as a value: ones, twos, settings, tick, energy, valuesPut -/
abbrev SV : Type := (Nat → Int32) × (Nat → Int32) × (Nat → Int32) × Int32 × Int32 × Int32
abbrev wX2 (cyI cyC cyO : ClassId) (ob aR : Nat) (ro r1 r2 r3 : Nat → Nat) (v_ring : Nat → SV) (v_oldest v_count : Int32) : va_W := [(ob, .inr (1, [.ref aR, .int v_oldest, .int v_count])), (aR, .inl (cyO, 6, .inr (.inr (.inr (.inr (fun k => some (ro k))))))), (ro 0, .inr (2, [.ref (r1 0), .ref (r2 0), .ref (r3 0), .int (v_ring 0).2.2.2.1, .int (v_ring 0).2.2.2.2.1, .int (v_ring 0).2.2.2.2.2])), (r1 0, .inl (cyI, 20, .inl (v_ring 0).1)), (r2 0, .inl (cyI, 20, .inl (v_ring 0).2.1)), (r3 0, .inl (cyI, 4, .inl (v_ring 0).2.2.1)), (ro 1, .inr (2, [.ref (r1 1), .ref (r2 1), .ref (r3 1), .int (v_ring 1).2.2.2.1, .int (v_ring 1).2.2.2.2.1, .int (v_ring 1).2.2.2.2.2])), (r1 1, .inl (cyI, 20, .inl (v_ring 1).1)), (r2 1, .inl (cyI, 20, .inl (v_ring 1).2.1)), (r3 1, .inl (cyI, 4, .inl (v_ring 1).2.2.1)), (ro 2, .inr (2, [.ref (r1 2), .ref (r2 2), .ref (r3 2), .int (v_ring 2).2.2.2.1, .int (v_ring 2).2.2.2.2.1, .int (v_ring 2).2.2.2.2.2])), (r1 2, .inl (cyI, 20, .inl (v_ring 2).1)), (r2 2, .inl (cyI, 20, .inl (v_ring 2).2.1)), (r3 2, .inl (cyI, 4, .inl (v_ring 2).2.2.1)), (ro 3, .inr (2, [.ref (r1 3), .ref (r2 3), .ref (r3 3), .int (v_ring 3).2.2.2.1, .int (v_ring 3).2.2.2.2.1, .int (v_ring 3).2.2.2.2.2])), (r1 3, .inl (cyI, 20, .inl (v_ring 3).1)), (r2 3, .inl (cyI, 20, .inl (v_ring 3).2.1)), (r3 3, .inl (cyI, 4, .inl (v_ring 3).2.2.1)), (ro 4, .inr (2, [.ref (r1 4), .ref (r2 4), .ref (r3 4), .int (v_ring 4).2.2.2.1, .int (v_ring 4).2.2.2.2.1, .int (v_ring 4).2.2.2.2.2])), (r1 4, .inl (cyI, 20, .inl (v_ring 4).1)), (r2 4, .inl (cyI, 20, .inl (v_ring 4).2.1)), (r3 4, .inl (cyI, 4, .inl (v_ring 4).2.2.1)), (ro 5, .inr (2, [.ref (r1 5), .ref (r2 5), .ref (r3 5), .int (v_ring 5).2.2.2.1, .int (v_ring 5).2.2.2.2.1, .int (v_ring 5).2.2.2.2.2])), (r1 5, .inl (cyI, 20, .inl (v_ring 5).1)), (r2 5, .inl (cyI, 20, .inl (v_ring 5).2.1)), (r3 5, .inl (cyI, 4, .inl (v_ring 5).2.2.1))]
def k_pk (ws wc : va_W) : Nat ⊕ Nat → Option (Nat × va_E)
  | .inl i => ws[i]?
  | .inr j => wc[j]?
def k_pkok (is : List Nat) : Nat ⊕ Nat → Bool
  | .inl i => decide (i ∉ is)
  | .inr _ => true
/-- behind a call of a writer: its cells as it left them, the others as they were -/
theorem k_repl {A : Nat → Prop} {D : va_G} {cl : List vw_C} {ws ws2 wc wc2 : va_W} {H H1 : Heap} (hP : va_P D cl ws H) (hD : va_D A ws) (is : List Nat) (hc : is.map (fun i => ws[i]?) = wc.map some) (hk : ∀ q : Nat, q < H.size → ¬ k_A wc q → H1[q]? = H[q]?) (hPn : va_P D cl wc2 H1) (pk : List (Nat ⊕ Nat)) (hpk : ws2.map some = pk.map (k_pk ws wc2)) (hok : pk.all (k_pkok is) = true) : va_P D cl ws2 H1 := by
  intro k x hx
  have h1 : (pk.map (k_pk ws wc2))[k]? = some (some x) := by rw [← hpk, List.getElem?_map, hx]; rfl
  rw [List.getElem?_map] at h1
  cases hz : pk[k]? with
  | none => rw [hz] at h1; cases h1
  | some z =>
    rw [hz] at h1
    have h2 : k_pk ws wc2 z = some x := Option.some.inj h1
    cases z with
    | inr j => exact hPn j x h2
    | inl i =>
      have h3 : ws[i]? = some x := h2
      have hni : i ∉ is := by
        have := List.all_eq_true.mp hok _ (List.mem_of_getElem? hz)
        exact of_decide_eq_true this
      have h4 := hP i x h3
      refine h4.kept (hk x.1 h4.lt (fun hin => ?_))
      obtain ⟨y, hy, hyx⟩ := List.mem_map.mp hin
      obtain ⟨j, hj⟩ := List.getElem?_of_mem hy
      have h5 : (is.map (fun i => ws[i]?))[j]? = some (some y) := by rw [hc, List.getElem?_map, hj]; rfl
      rw [List.getElem?_map] at h5
      cases hij : is[j]? with
      | none => rw [hij] at h5; cases h5
      | some i2 =>
        rw [hij] at h5
        have h6 : ws[i2]? = some y := Option.some.inj h5
        have := hD.1 i i2 x y h3 h6 hyx.symm
        subst this
        exact hni (List.mem_of_getElem? hij)
def fX2_save (v_ring : Nat → SV) (v_oldest v_count : Int32) (w_ones : Nat → Int32) (w_twos : Nat → Int32) (w_settings : Nat → Int32) (w_tick : Int32) (w_energy : Int32) (w_valuesPut : Int32) : Option ((Nat → SV) × Int32 × Int32) :=
  k_j1 (fun (g : Nat → SV) =>
    k_if (6 ≤ v_count)
    (k_let (v_oldest + 1) fun (x1 : Int32) =>
     k_let (x1 - x1 / 6 * 6) fun (x2 : Int32) =>
     some (g, x2, v_count))
    (k_let (v_count + 1) fun (x1 : Int32) =>
     some (g, v_oldest, x1)))
  (fun K =>
    k_let (v_oldest + v_count) fun (x1 : Int32) =>
    k_let (x1 - x1 / 6 * 6) fun (x2 : Int32) =>
    k_ck x2 6 <|
    k_b6 (fX3_copyFrom (v_ring x2.toNatClampNeg).1 (v_ring x2.toNatClampNeg).2.1 (v_ring x2.toNatClampNeg).2.2.1 (v_ring x2.toNatClampNeg).2.2.2.1 (v_ring x2.toNatClampNeg).2.2.2.2.1 (v_ring x2.toNatClampNeg).2.2.2.2.2 w_ones w_twos w_settings w_tick w_energy w_valuesPut) fun (c1 : Nat → Int32) (c2 : Nat → Int32) (c3 : Nat → Int32) (c4 : Int32) (c5 : Int32) (c6 : Int32) =>
    K (va_up v_ring x2.toNatClampNeg (c1, c2, c3, c4, c5, c6)))
theorem hdX2_save : yX2_save.cls = RX2 ∧ yX2_save.cls ≠ "java/lang/invoke/MethodHandle" ∧ yX2_save.cls ≠ "java/lang/invoke/VarHandle" ∧ (parseMethodDescriptor yX2_save.desc).map (fun d => d.parameters.length) = some 1 := by decide +kernel
set_option maxRecDepth 100000 in
set_option maxHeartbeats 8000000 in
theorem mX2_save (l : Launch) (dC : Nat → ClassId) (dI : Nat → Nat → Nat) (cyI cyC cyO : ClassId) (ob aR : Nat) (ro r1 r2 r3 : Nat → Nat) (ob2 b1 b2 b3 : Nat) (v_ring : Nat → SV) (v_oldest v_count : Int32) (w_ones : Nat → Int32) (w_twos : Nat → Int32) (w_settings : Nat → Int32) (w_tick : Int32) (w_energy : Int32) (w_valuesPut : Int32) {r_ring : Nat → SV} {r_oldest r_count : Int32} (hf : fX2_save v_ring v_oldest v_count w_ones w_twos w_settings w_tick w_energy w_valuesPut = some (r_ring, r_oldest, r_count)) : MetMV l yX2_save cX2_save 2 none 2 47 [.ref ob, .ref ob2] (dC, dI) (tyS cyI cyC cyO) ((wX2 cyI cyC cyO ob aR ro r1 r2 r3 v_ring v_oldest v_count) ++ (wX3 cyI cyC ob2 b1 b2 b3 w_ones w_twos w_settings w_tick w_energy w_valuesPut)) ((wX2 cyI cyC cyO ob aR ro r1 r2 r3 r_ring r_oldest r_count) ++ (wX3 cyI cyC ob2 b1 b2 b3 w_ones w_twos w_settings w_tick w_energy w_valuesPut)) := by
  refine metMV_of (by decide) (Nat.le_of_ble_eq_true rfl) ?_
  intro p e s m below meth c ls hC hr hlk hP hK hD hl
  have hC : CallFix p m c cX2_save 2 s [.ref ob, .ref ob2].toArray wA RX2 := hC
  obtain ⟨hx, hb, hml, hown, hts⟩ := id hC
  have hS : va_S (k_A ((wX2 cyI cyC cyO ob aR ro r1 r2 r3 v_ring v_oldest v_count) ++ (wX3 cyI cyC ob2 b1 b2 b3 w_ones w_twos w_settings w_tick w_energy w_valuesPut))) s.heap s.heap [] := va_S.rf
  have hl : lv_has ls 2 [(0, .ref ob), (1, .ref ob2)] := hl
  have h := hf
  unfold fX2_save at h
  obtain ⟨H, hH⟩ : ∃ H, H = s.heap := ⟨_, rfl⟩
  obtain ⟨locs, hlo⟩ : ∃ locs : List Loc, locs = [] := ⟨_, rfl⟩
  rw [← hH] at hP
  rw [← hlo] at hS
  have hS : va_S (k_A ((wX2 cyI cyC cyO ob aR ro r1 r2 r3 v_ring v_oldest v_count) ++ (wX3 cyI cyC ob2 b1 b2 b3 w_ones w_twos w_settings w_tick w_energy w_valuesPut))) s.heap H locs := by rw [hH]; exact hS
  show W p l e (k_rm 2 47) s m [.ref ob, .ref ob2].toArray below meth c s.heap [] 0 0 _ _
  rw [← hlo, ← hH]
  obtain ⟨K, hK0, h⟩ := k_j1_e h
  have J21 : ∀ (g : Nat → SV) (H : Heap) (locs : List Loc) (ls : Array Slot), K g = some (r_ring, r_oldest, r_count) → va_P (dC, dI) vwCl ((wX2 cyI cyC cyO ob aR ro r1 r2 r3 g v_oldest v_count) ++ (wX3 cyI cyC ob2 b1 b2 b3 w_ones w_twos w_settings w_tick w_energy w_valuesPut)) H → va_S (k_A ((wX2 cyI cyC cyO ob aR ro r1 r2 r3 v_ring v_oldest v_count) ++ (wX3 cyI cyC ob2 b1 b2 b3 w_ones w_twos w_settings w_tick w_energy w_valuesPut))) s.heap H locs → lv_has ls 2 [(0, .ref ob), (1, .ref ob2)] → W p l e (k_rm 2 47) s m [.ref ob, .ref ob2].toArray below meth c H locs 0 0 (MQ below (qMV (dC, dI) ((wX2 cyI cyC cyO ob aR ro r1 r2 r3 v_ring v_oldest v_count) ++ (wX3 cyI cyC ob2 b1 b2 b3 w_ones w_twos w_settings w_tick w_energy w_valuesPut)) ((wX2 cyI cyC cyO ob aR ro r1 r2 r3 r_ring r_oldest r_count) ++ (wX3 cyI cyC ob2 b1 b2 b3 w_ones w_twos w_settings w_tick w_energy w_valuesPut))) [.ref ob, .ref ob2].toArray s 0 0 (k_A ((wX2 cyI cyC cyO ob aR ro r1 r2 r3 v_ring v_oldest v_count) ++ (wX3 cyI cyC ob2 b1 b2 b3 w_ones w_twos w_settings w_tick w_energy w_valuesPut)))) (F0 m 21 ls []) := by
    intro g H locs ls h hP hS hl
    have hD : va_D (k_A ((wX2 cyI cyC cyO ob aR ro r1 r2 r3 v_ring v_oldest v_count) ++ (wX3 cyI cyC ob2 b1 b2 b3 w_ones w_twos w_settings w_tick w_energy w_valuesPut))) ((wX2 cyI cyC cyO ob aR ro r1 r2 r3 g v_oldest v_count) ++ (wX3 cyI cyC ob2 b1 b2 b3 w_ones w_twos w_settings w_tick w_energy w_valuesPut)) := k_Dm hD rfl
    have h := k_a1 hK0 h
    refine lv_aload_n hx hb dX2_save_21 rfl (lv_at hl 0 rfl) ?_
    refine va_get (D := (dC, dI)) (ci := 1) (v := .int v_count) (C := RX2) (T := TX2) (N := 3) hx hb hts iaX2 hown hK hP 0 rfl rfl 2 (by decide) (hts _ q59) (fun _ h9 => h9) rfl dX2_save_22 ?_
    refine lv_bipush (v := 6) hx hb dX2_save_25 (by decide) ?_
    refine g_icmp_ge (tgt := 43) hx hb dX2_save_27 (by decide) h (fun h => ?_) (fun h => ?_)
    · refine lv_aload_n hx hb dX2_save_43 rfl (lv_at hl 0 rfl) ?_
      refine lv_aload_n hx hb dX2_save_44 rfl (lv_at hl 0 rfl) ?_
      refine va_get (D := (dC, dI)) (ci := 1) (v := .int v_oldest) (C := RX2) (T := TX2) (N := 3) hx hb hts iaX2 hown hK hP 0 rfl rfl 1 (by decide) (hts _ q58) (fun _ h9 => h9) rfl dX2_save_45 ?_
      refine lv_iconst (v := 1) hx hb dX2_save_48 (by decide) ?_
      refine g_iadd hx hb dX2_save_49 h (fun x1 h => ?_)
      refine lv_bipush (v := 6) hx hb dX2_save_50 (by decide) ?_
      refine g_irem hx hb dX2_save_52 (by decide) h (fun x2 h => ?_)
      refine va_put (D := (dC, dI)) (ci := 1) (v := .int x2) (ty := .int) (C := RX2) (T := TX2) (N := 3) hx hb hts iaX2 tyX2 tyX2_ok nmX2 hown hK hP hD hS 0 rfl rfl 1 (by decide) (hts _ q58) (fun _ h9 => h9) rfl (by decide +kernel) rfl rfl (Nat.le_of_ble_eq_true rfl) dX2_save_53 (fun H locs hP _ hS => ?_)
      have hP : va_P (dC, dI) vwCl ((wX2 cyI cyC cyO ob aR ro r1 r2 r3 g x2 v_count) ++ (wX3 cyI cyC ob2 b1 b2 b3 w_ones w_twos w_settings w_tick w_energy w_valuesPut)) H := hP
      obtain ⟨e0, e1, e2⟩ := k_t3 h
      exact g_retMV hx hb hr hlk hS (by rw [← e0, ← e1, ← e2]; exact hP) dX2_save_56
    · refine lv_aload_n hx hb dX2_save_30 rfl (lv_at hl 0 rfl) ?_
      refine lv_dup hx hb dX2_save_31 rfl ?_
      refine va_get (D := (dC, dI)) (ci := 1) (v := .int v_count) (C := RX2) (T := TX2) (N := 3) hx hb hts iaX2 hown hK hP 0 rfl rfl 2 (by decide) (hts _ q59) (fun _ h9 => h9) rfl dX2_save_32 ?_
      refine lv_iconst (v := 1) hx hb dX2_save_35 (by decide) ?_
      refine g_iadd hx hb dX2_save_36 h (fun x1 h => ?_)
      refine va_put (D := (dC, dI)) (ci := 1) (v := .int x1) (ty := .int) (C := RX2) (T := TX2) (N := 3) hx hb hts iaX2 tyX2 tyX2_ok nmX2 hown hK hP hD hS 0 rfl rfl 2 (by decide) (hts _ q59) (fun _ h9 => h9) rfl (by decide +kernel) rfl rfl (Nat.le_of_ble_eq_true rfl) dX2_save_37 (fun H locs hP _ hS => ?_)
      have hP : va_P (dC, dI) vwCl ((wX2 cyI cyC cyO ob aR ro r1 r2 r3 g v_oldest x1) ++ (wX3 cyI cyC ob2 b1 b2 b3 w_ones w_twos w_settings w_tick w_energy w_valuesPut)) H := hP
      refine lv_goto (tgt := 56) hx hb dX2_save_40 (by decide) ?_
      obtain ⟨e0, e1, e2⟩ := k_t3 h
      exact g_retMV hx hb hr hlk hS (by rw [← e0, ← e1, ← e2]; exact hP) dX2_save_56
  refine lv_aload_n hx hb dX2_save_0 rfl (lv_at hl 0 rfl) ?_
  refine va_get (D := (dC, dI)) (ci := 1) (v := .ref aR) (C := RX2) (T := TX2) (N := 3) hx hb hts iaX2 hown hK hP 0 rfl rfl 0 (by decide) (hts _ q57) (fun _ h9 => h9) rfl dX2_save_1 ?_
  refine lv_aload_n hx hb dX2_save_4 rfl (lv_at hl 0 rfl) ?_
  refine va_get (D := (dC, dI)) (ci := 1) (v := .int v_oldest) (C := RX2) (T := TX2) (N := 3) hx hb hts iaX2 hown hK hP 0 rfl rfl 1 (by decide) (hts _ q58) (fun _ h9 => h9) rfl dX2_save_5 ?_
  refine lv_aload_n hx hb dX2_save_8 rfl (lv_at hl 0 rfl) ?_
  refine va_get (D := (dC, dI)) (ci := 1) (v := .int v_count) (C := RX2) (T := TX2) (N := 3) hx hb hts iaX2 hown hK hP 0 rfl rfl 2 (by decide) (hts _ q59) (fun _ h9 => h9) rfl dX2_save_9 ?_
  refine g_iadd hx hb dX2_save_12 h (fun x1 h => ?_)
  refine lv_bipush (v := 6) hx hb dX2_save_13 (by decide) ?_
  refine g_irem hx hb dX2_save_15 (by decide) h (fun x2 h => ?_)
  obtain ⟨hi, h⟩ := k_ck_e h
  refine va_aldq hx hb hK hP 1 2 rfl rfl hi dX2_save_16 ?_
  obtain ⟨j, hj, rfl⟩ := vp_in_of hi (by decide)
  rw [nI_clamp (by omega)] at h ⊢
  show W p l e _ s m _ below meth c H locs 0 0 _ (F0 m _ ls [.ref (ro j)])
  refine lv_aload_n hx hb dX2_save_17 rfl (lv_at hl 1 rfl) ?_
  obtain ⟨c1, c2, c3, c4, c5, c6, hc, h⟩ := k_b6_e h
  have hj : j = 0 ∨ j = 1 ∨ j = 2 ∨ j = 3 ∨ j = 4 ∨ j = 5 := by omega
  rcases hj with rfl | rfl | rfl | rfl | rfl | rfl
  · refine g_callMV_V (As := [.ref ob2]) (rest := []) hC (mX3_copyFrom l dC dI cyI cyC cyO (ro 0) (r1 0) (r2 0) (r3 0) ob2 b1 b2 b3 (v_ring 0).1 (v_ring 0).2.1 (v_ring 0).2.2.1 (v_ring 0).2.2.2.1 (v_ring 0).2.2.2.2.1 (v_ring 0).2.2.2.2.2 w_ones w_twos w_settings w_tick w_energy w_valuesPut hc) q128 q129 q130 q9 q131 1 hdX3_copyFrom ⟨Nat.le_of_ble_eq_true rfl, Nat.le_of_ble_eq_true rfl⟩ ⟨Nat.le_of_ble_eq_true rfl, Nat.le_of_ble_eq_true rfl⟩ rfl rfl hl.1 (Nat.le_of_ble_eq_true rfl) (hP.sub (ws' := (wX3 cyI cyC (ro 0) (r1 0) (r2 0) (r3 0) (v_ring 0).1 (v_ring 0).2.1 (v_ring 0).2.2.1 (v_ring 0).2.2.2.1 (v_ring 0).2.2.2.2.1 (v_ring 0).2.2.2.2.2) ++ (wX3 cyI cyC ob2 b1 b2 b3 w_ones w_twos w_settings w_tick w_energy w_valuesPut)) [2, 3, 4, 5, 26, 27, 28, 29] rfl) hK (hD.sub (ws' := (wX3 cyI cyC (ro 0) (r1 0) (r2 0) (r3 0) (v_ring 0).1 (v_ring 0).2.1 (v_ring 0).2.2.1 (v_ring 0).2.2.2.1 (v_ring 0).2.2.2.2.1 (v_ring 0).2.2.2.2.2) ++ (wX3 cyI cyC ob2 b1 b2 b3 w_ones w_twos w_settings w_tick w_energy w_valuesPut)) [2, 3, 4, 5, 26, 27, 28, 29] (by decide) rfl) (va_recv hK hP (ci := 2) (q0 := 2) rfl rfl) hS dX2_save_18 (fun H locs hPn hk hS => ?_)
    have hP : va_P (dC, dI) vwCl ((wX2 cyI cyC cyO ob aR ro r1 r2 r3 (va_up v_ring 0 (c1, c2, c3, c4, c5, c6)) v_oldest v_count) ++ (wX3 cyI cyC ob2 b1 b2 b3 w_ones w_twos w_settings w_tick w_energy w_valuesPut)) H := k_repl hP hD [2, 3, 4, 5, 26, 27, 28, 29] rfl hk hPn [.inl 0, .inl 1, .inr 0, .inr 1, .inr 2, .inr 3, .inl 6, .inl 7, .inl 8, .inl 9, .inl 10, .inl 11, .inl 12, .inl 13, .inl 14, .inl 15, .inl 16, .inl 17, .inl 18, .inl 19, .inl 20, .inl 21, .inl 22, .inl 23, .inl 24, .inl 25, .inr 4, .inr 5, .inr 6, .inr 7] rfl (by decide)
    exact J21 (va_up v_ring 0 (c1, c2, c3, c4, c5, c6)) _ _ _ h hP hS hl
  · refine g_callMV_V (As := [.ref ob2]) (rest := []) hC (mX3_copyFrom l dC dI cyI cyC cyO (ro 1) (r1 1) (r2 1) (r3 1) ob2 b1 b2 b3 (v_ring 1).1 (v_ring 1).2.1 (v_ring 1).2.2.1 (v_ring 1).2.2.2.1 (v_ring 1).2.2.2.2.1 (v_ring 1).2.2.2.2.2 w_ones w_twos w_settings w_tick w_energy w_valuesPut hc) q128 q129 q130 q9 q131 1 hdX3_copyFrom ⟨Nat.le_of_ble_eq_true rfl, Nat.le_of_ble_eq_true rfl⟩ ⟨Nat.le_of_ble_eq_true rfl, Nat.le_of_ble_eq_true rfl⟩ rfl rfl hl.1 (Nat.le_of_ble_eq_true rfl) (hP.sub (ws' := (wX3 cyI cyC (ro 1) (r1 1) (r2 1) (r3 1) (v_ring 1).1 (v_ring 1).2.1 (v_ring 1).2.2.1 (v_ring 1).2.2.2.1 (v_ring 1).2.2.2.2.1 (v_ring 1).2.2.2.2.2) ++ (wX3 cyI cyC ob2 b1 b2 b3 w_ones w_twos w_settings w_tick w_energy w_valuesPut)) [6, 7, 8, 9, 26, 27, 28, 29] rfl) hK (hD.sub (ws' := (wX3 cyI cyC (ro 1) (r1 1) (r2 1) (r3 1) (v_ring 1).1 (v_ring 1).2.1 (v_ring 1).2.2.1 (v_ring 1).2.2.2.1 (v_ring 1).2.2.2.2.1 (v_ring 1).2.2.2.2.2) ++ (wX3 cyI cyC ob2 b1 b2 b3 w_ones w_twos w_settings w_tick w_energy w_valuesPut)) [6, 7, 8, 9, 26, 27, 28, 29] (by decide) rfl) (va_recv hK hP (ci := 2) (q0 := 6) rfl rfl) hS dX2_save_18 (fun H locs hPn hk hS => ?_)
    have hP : va_P (dC, dI) vwCl ((wX2 cyI cyC cyO ob aR ro r1 r2 r3 (va_up v_ring 1 (c1, c2, c3, c4, c5, c6)) v_oldest v_count) ++ (wX3 cyI cyC ob2 b1 b2 b3 w_ones w_twos w_settings w_tick w_energy w_valuesPut)) H := k_repl hP hD [6, 7, 8, 9, 26, 27, 28, 29] rfl hk hPn [.inl 0, .inl 1, .inl 2, .inl 3, .inl 4, .inl 5, .inr 0, .inr 1, .inr 2, .inr 3, .inl 10, .inl 11, .inl 12, .inl 13, .inl 14, .inl 15, .inl 16, .inl 17, .inl 18, .inl 19, .inl 20, .inl 21, .inl 22, .inl 23, .inl 24, .inl 25, .inr 4, .inr 5, .inr 6, .inr 7] rfl (by decide)
    exact J21 (va_up v_ring 1 (c1, c2, c3, c4, c5, c6)) _ _ _ h hP hS hl
  · refine g_callMV_V (As := [.ref ob2]) (rest := []) hC (mX3_copyFrom l dC dI cyI cyC cyO (ro 2) (r1 2) (r2 2) (r3 2) ob2 b1 b2 b3 (v_ring 2).1 (v_ring 2).2.1 (v_ring 2).2.2.1 (v_ring 2).2.2.2.1 (v_ring 2).2.2.2.2.1 (v_ring 2).2.2.2.2.2 w_ones w_twos w_settings w_tick w_energy w_valuesPut hc) q128 q129 q130 q9 q131 1 hdX3_copyFrom ⟨Nat.le_of_ble_eq_true rfl, Nat.le_of_ble_eq_true rfl⟩ ⟨Nat.le_of_ble_eq_true rfl, Nat.le_of_ble_eq_true rfl⟩ rfl rfl hl.1 (Nat.le_of_ble_eq_true rfl) (hP.sub (ws' := (wX3 cyI cyC (ro 2) (r1 2) (r2 2) (r3 2) (v_ring 2).1 (v_ring 2).2.1 (v_ring 2).2.2.1 (v_ring 2).2.2.2.1 (v_ring 2).2.2.2.2.1 (v_ring 2).2.2.2.2.2) ++ (wX3 cyI cyC ob2 b1 b2 b3 w_ones w_twos w_settings w_tick w_energy w_valuesPut)) [10, 11, 12, 13, 26, 27, 28, 29] rfl) hK (hD.sub (ws' := (wX3 cyI cyC (ro 2) (r1 2) (r2 2) (r3 2) (v_ring 2).1 (v_ring 2).2.1 (v_ring 2).2.2.1 (v_ring 2).2.2.2.1 (v_ring 2).2.2.2.2.1 (v_ring 2).2.2.2.2.2) ++ (wX3 cyI cyC ob2 b1 b2 b3 w_ones w_twos w_settings w_tick w_energy w_valuesPut)) [10, 11, 12, 13, 26, 27, 28, 29] (by decide) rfl) (va_recv hK hP (ci := 2) (q0 := 10) rfl rfl) hS dX2_save_18 (fun H locs hPn hk hS => ?_)
    have hP : va_P (dC, dI) vwCl ((wX2 cyI cyC cyO ob aR ro r1 r2 r3 (va_up v_ring 2 (c1, c2, c3, c4, c5, c6)) v_oldest v_count) ++ (wX3 cyI cyC ob2 b1 b2 b3 w_ones w_twos w_settings w_tick w_energy w_valuesPut)) H := k_repl hP hD [10, 11, 12, 13, 26, 27, 28, 29] rfl hk hPn [.inl 0, .inl 1, .inl 2, .inl 3, .inl 4, .inl 5, .inl 6, .inl 7, .inl 8, .inl 9, .inr 0, .inr 1, .inr 2, .inr 3, .inl 14, .inl 15, .inl 16, .inl 17, .inl 18, .inl 19, .inl 20, .inl 21, .inl 22, .inl 23, .inl 24, .inl 25, .inr 4, .inr 5, .inr 6, .inr 7] rfl (by decide)
    exact J21 (va_up v_ring 2 (c1, c2, c3, c4, c5, c6)) _ _ _ h hP hS hl
  · refine g_callMV_V (As := [.ref ob2]) (rest := []) hC (mX3_copyFrom l dC dI cyI cyC cyO (ro 3) (r1 3) (r2 3) (r3 3) ob2 b1 b2 b3 (v_ring 3).1 (v_ring 3).2.1 (v_ring 3).2.2.1 (v_ring 3).2.2.2.1 (v_ring 3).2.2.2.2.1 (v_ring 3).2.2.2.2.2 w_ones w_twos w_settings w_tick w_energy w_valuesPut hc) q128 q129 q130 q9 q131 1 hdX3_copyFrom ⟨Nat.le_of_ble_eq_true rfl, Nat.le_of_ble_eq_true rfl⟩ ⟨Nat.le_of_ble_eq_true rfl, Nat.le_of_ble_eq_true rfl⟩ rfl rfl hl.1 (Nat.le_of_ble_eq_true rfl) (hP.sub (ws' := (wX3 cyI cyC (ro 3) (r1 3) (r2 3) (r3 3) (v_ring 3).1 (v_ring 3).2.1 (v_ring 3).2.2.1 (v_ring 3).2.2.2.1 (v_ring 3).2.2.2.2.1 (v_ring 3).2.2.2.2.2) ++ (wX3 cyI cyC ob2 b1 b2 b3 w_ones w_twos w_settings w_tick w_energy w_valuesPut)) [14, 15, 16, 17, 26, 27, 28, 29] rfl) hK (hD.sub (ws' := (wX3 cyI cyC (ro 3) (r1 3) (r2 3) (r3 3) (v_ring 3).1 (v_ring 3).2.1 (v_ring 3).2.2.1 (v_ring 3).2.2.2.1 (v_ring 3).2.2.2.2.1 (v_ring 3).2.2.2.2.2) ++ (wX3 cyI cyC ob2 b1 b2 b3 w_ones w_twos w_settings w_tick w_energy w_valuesPut)) [14, 15, 16, 17, 26, 27, 28, 29] (by decide) rfl) (va_recv hK hP (ci := 2) (q0 := 14) rfl rfl) hS dX2_save_18 (fun H locs hPn hk hS => ?_)
    have hP : va_P (dC, dI) vwCl ((wX2 cyI cyC cyO ob aR ro r1 r2 r3 (va_up v_ring 3 (c1, c2, c3, c4, c5, c6)) v_oldest v_count) ++ (wX3 cyI cyC ob2 b1 b2 b3 w_ones w_twos w_settings w_tick w_energy w_valuesPut)) H := k_repl hP hD [14, 15, 16, 17, 26, 27, 28, 29] rfl hk hPn [.inl 0, .inl 1, .inl 2, .inl 3, .inl 4, .inl 5, .inl 6, .inl 7, .inl 8, .inl 9, .inl 10, .inl 11, .inl 12, .inl 13, .inr 0, .inr 1, .inr 2, .inr 3, .inl 18, .inl 19, .inl 20, .inl 21, .inl 22, .inl 23, .inl 24, .inl 25, .inr 4, .inr 5, .inr 6, .inr 7] rfl (by decide)
    exact J21 (va_up v_ring 3 (c1, c2, c3, c4, c5, c6)) _ _ _ h hP hS hl
  · refine g_callMV_V (As := [.ref ob2]) (rest := []) hC (mX3_copyFrom l dC dI cyI cyC cyO (ro 4) (r1 4) (r2 4) (r3 4) ob2 b1 b2 b3 (v_ring 4).1 (v_ring 4).2.1 (v_ring 4).2.2.1 (v_ring 4).2.2.2.1 (v_ring 4).2.2.2.2.1 (v_ring 4).2.2.2.2.2 w_ones w_twos w_settings w_tick w_energy w_valuesPut hc) q128 q129 q130 q9 q131 1 hdX3_copyFrom ⟨Nat.le_of_ble_eq_true rfl, Nat.le_of_ble_eq_true rfl⟩ ⟨Nat.le_of_ble_eq_true rfl, Nat.le_of_ble_eq_true rfl⟩ rfl rfl hl.1 (Nat.le_of_ble_eq_true rfl) (hP.sub (ws' := (wX3 cyI cyC (ro 4) (r1 4) (r2 4) (r3 4) (v_ring 4).1 (v_ring 4).2.1 (v_ring 4).2.2.1 (v_ring 4).2.2.2.1 (v_ring 4).2.2.2.2.1 (v_ring 4).2.2.2.2.2) ++ (wX3 cyI cyC ob2 b1 b2 b3 w_ones w_twos w_settings w_tick w_energy w_valuesPut)) [18, 19, 20, 21, 26, 27, 28, 29] rfl) hK (hD.sub (ws' := (wX3 cyI cyC (ro 4) (r1 4) (r2 4) (r3 4) (v_ring 4).1 (v_ring 4).2.1 (v_ring 4).2.2.1 (v_ring 4).2.2.2.1 (v_ring 4).2.2.2.2.1 (v_ring 4).2.2.2.2.2) ++ (wX3 cyI cyC ob2 b1 b2 b3 w_ones w_twos w_settings w_tick w_energy w_valuesPut)) [18, 19, 20, 21, 26, 27, 28, 29] (by decide) rfl) (va_recv hK hP (ci := 2) (q0 := 18) rfl rfl) hS dX2_save_18 (fun H locs hPn hk hS => ?_)
    have hP : va_P (dC, dI) vwCl ((wX2 cyI cyC cyO ob aR ro r1 r2 r3 (va_up v_ring 4 (c1, c2, c3, c4, c5, c6)) v_oldest v_count) ++ (wX3 cyI cyC ob2 b1 b2 b3 w_ones w_twos w_settings w_tick w_energy w_valuesPut)) H := k_repl hP hD [18, 19, 20, 21, 26, 27, 28, 29] rfl hk hPn [.inl 0, .inl 1, .inl 2, .inl 3, .inl 4, .inl 5, .inl 6, .inl 7, .inl 8, .inl 9, .inl 10, .inl 11, .inl 12, .inl 13, .inl 14, .inl 15, .inl 16, .inl 17, .inr 0, .inr 1, .inr 2, .inr 3, .inl 22, .inl 23, .inl 24, .inl 25, .inr 4, .inr 5, .inr 6, .inr 7] rfl (by decide)
    exact J21 (va_up v_ring 4 (c1, c2, c3, c4, c5, c6)) _ _ _ h hP hS hl
  · refine g_callMV_V (As := [.ref ob2]) (rest := []) hC (mX3_copyFrom l dC dI cyI cyC cyO (ro 5) (r1 5) (r2 5) (r3 5) ob2 b1 b2 b3 (v_ring 5).1 (v_ring 5).2.1 (v_ring 5).2.2.1 (v_ring 5).2.2.2.1 (v_ring 5).2.2.2.2.1 (v_ring 5).2.2.2.2.2 w_ones w_twos w_settings w_tick w_energy w_valuesPut hc) q128 q129 q130 q9 q131 1 hdX3_copyFrom ⟨Nat.le_of_ble_eq_true rfl, Nat.le_of_ble_eq_true rfl⟩ ⟨Nat.le_of_ble_eq_true rfl, Nat.le_of_ble_eq_true rfl⟩ rfl rfl hl.1 (Nat.le_of_ble_eq_true rfl) (hP.sub (ws' := (wX3 cyI cyC (ro 5) (r1 5) (r2 5) (r3 5) (v_ring 5).1 (v_ring 5).2.1 (v_ring 5).2.2.1 (v_ring 5).2.2.2.1 (v_ring 5).2.2.2.2.1 (v_ring 5).2.2.2.2.2) ++ (wX3 cyI cyC ob2 b1 b2 b3 w_ones w_twos w_settings w_tick w_energy w_valuesPut)) [22, 23, 24, 25, 26, 27, 28, 29] rfl) hK (hD.sub (ws' := (wX3 cyI cyC (ro 5) (r1 5) (r2 5) (r3 5) (v_ring 5).1 (v_ring 5).2.1 (v_ring 5).2.2.1 (v_ring 5).2.2.2.1 (v_ring 5).2.2.2.2.1 (v_ring 5).2.2.2.2.2) ++ (wX3 cyI cyC ob2 b1 b2 b3 w_ones w_twos w_settings w_tick w_energy w_valuesPut)) [22, 23, 24, 25, 26, 27, 28, 29] (by decide) rfl) (va_recv hK hP (ci := 2) (q0 := 22) rfl rfl) hS dX2_save_18 (fun H locs hPn hk hS => ?_)
    have hP : va_P (dC, dI) vwCl ((wX2 cyI cyC cyO ob aR ro r1 r2 r3 (va_up v_ring 5 (c1, c2, c3, c4, c5, c6)) v_oldest v_count) ++ (wX3 cyI cyC ob2 b1 b2 b3 w_ones w_twos w_settings w_tick w_energy w_valuesPut)) H := k_repl hP hD [22, 23, 24, 25, 26, 27, 28, 29] rfl hk hPn [.inl 0, .inl 1, .inl 2, .inl 3, .inl 4, .inl 5, .inl 6, .inl 7, .inl 8, .inl 9, .inl 10, .inl 11, .inl 12, .inl 13, .inl 14, .inl 15, .inl 16, .inl 17, .inl 18, .inl 19, .inl 20, .inl 21, .inr 0, .inr 1, .inr 2, .inr 3, .inr 4, .inr 5, .inr 6, .inr 7] rfl (by decide)
    exact J21 (va_up v_ring 5 (c1, c2, c3, c4, c5, c6)) _ _ _ h hP hS hl
def fX2_restore (v_ring : Nat → SV) (v_oldest v_count : Int32) (w_ones : Nat → Int32) (w_twos : Nat → Int32) (w_settings : Nat → Int32) (w_tick : Int32) (w_energy : Int32) (w_valuesPut : Int32) : Option (Int32 × (Nat → Int32) × (Nat → Int32) × (Nat → Int32) × Int32 × Int32 × Int32) :=
  k_if (v_count ≤ 0)
  (some (v_count, w_ones, w_twos, w_settings, w_tick, w_energy, w_valuesPut))
  (k_let (v_count - 1) fun (x0 : Int32) =>
   k_let (v_oldest + x0) fun (x1 : Int32) =>
   k_let (x1 - x1 / 6 * 6) fun (x2 : Int32) =>
   k_ck x2 6 <|
   k_b6 (fX3_copyFrom w_ones w_twos w_settings w_tick w_energy w_valuesPut (v_ring x2.toNatClampNeg).1 (v_ring x2.toNatClampNeg).2.1 (v_ring x2.toNatClampNeg).2.2.1 (v_ring x2.toNatClampNeg).2.2.2.1 (v_ring x2.toNatClampNeg).2.2.2.2.1 (v_ring x2.toNatClampNeg).2.2.2.2.2) fun (c1 : Nat → Int32) (c2 : Nat → Int32) (c3 : Nat → Int32) (c4 : Int32) (c5 : Int32) (c6 : Int32) =>
   some (x0, c1, c2, c3, c4, c5, c6))
theorem hdX2_restore : yX2_restore.cls = RX2 ∧ yX2_restore.cls ≠ "java/lang/invoke/MethodHandle" ∧ yX2_restore.cls ≠ "java/lang/invoke/VarHandle" ∧ (parseMethodDescriptor yX2_restore.desc).map (fun d => d.parameters.length) = some 1 := by decide +kernel
set_option maxRecDepth 100000 in
set_option maxHeartbeats 8000000 in
theorem mX2_restore (l : Launch) (dC : Nat → ClassId) (dI : Nat → Nat → Nat) (cyI cyC cyO : ClassId) (ob aR : Nat) (ro r1 r2 r3 : Nat → Nat) (ob2 b1 b2 b3 : Nat) (v_ring : Nat → SV) (v_oldest v_count : Int32) (w_ones : Nat → Int32) (w_twos : Nat → Int32) (w_settings : Nat → Int32) (w_tick : Int32) (w_energy : Int32) (w_valuesPut : Int32) {r_count : Int32} {r_ones : Nat → Int32} {r_twos : Nat → Int32} {r_settings : Nat → Int32} {r_tick : Int32} {r_energy : Int32} {r_valuesPut : Int32} (hf : fX2_restore v_ring v_oldest v_count w_ones w_twos w_settings w_tick w_energy w_valuesPut = some (r_count, r_ones, r_twos, r_settings, r_tick, r_energy, r_valuesPut)) : MetMV l yX2_restore cX2_restore 2 none 2 47 [.ref ob, .ref ob2] (dC, dI) (tyS cyI cyC cyO) ((wX2 cyI cyC cyO ob aR ro r1 r2 r3 v_ring v_oldest v_count) ++ (wX3 cyI cyC ob2 b1 b2 b3 w_ones w_twos w_settings w_tick w_energy w_valuesPut)) ((wX2 cyI cyC cyO ob aR ro r1 r2 r3 v_ring v_oldest r_count) ++ (wX3 cyI cyC ob2 b1 b2 b3 r_ones r_twos r_settings r_tick r_energy r_valuesPut)) := by
  refine metMV_of (by decide) (Nat.le_of_ble_eq_true rfl) ?_
  intro p e s m below meth c ls hC hr hlk hP hK hD hl
  have hC : CallFix p m c cX2_restore 2 s [.ref ob, .ref ob2].toArray wA RX2 := hC
  obtain ⟨hx, hb, hml, hown, hts⟩ := id hC
  have hS : va_S (k_A ((wX2 cyI cyC cyO ob aR ro r1 r2 r3 v_ring v_oldest v_count) ++ (wX3 cyI cyC ob2 b1 b2 b3 w_ones w_twos w_settings w_tick w_energy w_valuesPut))) s.heap s.heap [] := va_S.rf
  have hl : lv_has ls 2 [(0, .ref ob), (1, .ref ob2)] := hl
  have h := hf
  unfold fX2_restore at h
  obtain ⟨H, hH⟩ : ∃ H, H = s.heap := ⟨_, rfl⟩
  obtain ⟨locs, hlo⟩ : ∃ locs : List Loc, locs = [] := ⟨_, rfl⟩
  rw [← hH] at hP
  rw [← hlo] at hS
  have hS : va_S (k_A ((wX2 cyI cyC cyO ob aR ro r1 r2 r3 v_ring v_oldest v_count) ++ (wX3 cyI cyC ob2 b1 b2 b3 w_ones w_twos w_settings w_tick w_energy w_valuesPut))) s.heap H locs := by rw [hH]; exact hS
  show W p l e (k_rm 2 47) s m [.ref ob, .ref ob2].toArray below meth c s.heap [] 0 0 _ _
  rw [← hlo, ← hH]
  refine lv_aload_n hx hb dX2_restore_0 rfl (lv_at hl 0 rfl) ?_
  refine va_get (D := (dC, dI)) (ci := 1) (v := .int v_count) (C := RX2) (T := TX2) (N := 3) hx hb hts iaX2 hown hK hP 0 rfl rfl 2 (by decide) (hts _ q59) (fun _ h9 => h9) rfl dX2_restore_1 ?_
  refine g_if_le (tgt := 38) hx hb dX2_restore_4 (by decide) h (fun h => ?_) (fun h => ?_)
  · obtain ⟨e0, e1, e2, e3, e4, e5, e6⟩ := k_t7 h
    exact g_retMV hx hb hr hlk hS (by rw [← e0, ← e1, ← e2, ← e3, ← e4, ← e5, ← e6]; exact hP) dX2_restore_38
  refine lv_aload_n hx hb dX2_restore_7 rfl (lv_at hl 0 rfl) ?_
  refine lv_dup hx hb dX2_restore_8 rfl ?_
  refine va_get (D := (dC, dI)) (ci := 1) (v := .int v_count) (C := RX2) (T := TX2) (N := 3) hx hb hts iaX2 hown hK hP 0 rfl rfl 2 (by decide) (hts _ q59) (fun _ h9 => h9) rfl dX2_restore_9 ?_
  refine lv_iconst (v := 1) hx hb dX2_restore_12 (by decide) ?_
  refine g_isub hx hb dX2_restore_13 h (fun x0 h => ?_)
  refine va_put (D := (dC, dI)) (ci := 1) (v := .int x0) (ty := .int) (C := RX2) (T := TX2) (N := 3) hx hb hts iaX2 tyX2 tyX2_ok nmX2 hown hK hP hD hS 0 rfl rfl 2 (by decide) (hts _ q59) (fun _ h9 => h9) rfl (by decide +kernel) rfl rfl (Nat.le_of_ble_eq_true rfl) dX2_restore_14 (fun H locs hP _ hS => ?_)
  have hP : va_P (dC, dI) vwCl ((wX2 cyI cyC cyO ob aR ro r1 r2 r3 v_ring v_oldest x0) ++ (wX3 cyI cyC ob2 b1 b2 b3 w_ones w_twos w_settings w_tick w_energy w_valuesPut)) H := hP
  have hD : va_D (k_A ((wX2 cyI cyC cyO ob aR ro r1 r2 r3 v_ring v_oldest v_count) ++ (wX3 cyI cyC ob2 b1 b2 b3 w_ones w_twos w_settings w_tick w_energy w_valuesPut))) ((wX2 cyI cyC cyO ob aR ro r1 r2 r3 v_ring v_oldest x0) ++ (wX3 cyI cyC ob2 b1 b2 b3 w_ones w_twos w_settings w_tick w_energy w_valuesPut)) := k_Dm hD rfl
  refine lv_aload_n hx hb dX2_restore_17 rfl (lv_at hl 1 rfl) ?_
  refine lv_aload_n hx hb dX2_restore_18 rfl (lv_at hl 0 rfl) ?_
  refine va_get (D := (dC, dI)) (ci := 1) (v := .ref aR) (C := RX2) (T := TX2) (N := 3) hx hb hts iaX2 hown hK hP 0 rfl rfl 0 (by decide) (hts _ q57) (fun _ h9 => h9) rfl dX2_restore_19 ?_
  refine lv_aload_n hx hb dX2_restore_22 rfl (lv_at hl 0 rfl) ?_
  refine va_get (D := (dC, dI)) (ci := 1) (v := .int v_oldest) (C := RX2) (T := TX2) (N := 3) hx hb hts iaX2 hown hK hP 0 rfl rfl 1 (by decide) (hts _ q58) (fun _ h9 => h9) rfl dX2_restore_23 ?_
  refine lv_aload_n hx hb dX2_restore_26 rfl (lv_at hl 0 rfl) ?_
  refine va_get (D := (dC, dI)) (ci := 1) (v := .int x0) (C := RX2) (T := TX2) (N := 3) hx hb hts iaX2 hown hK hP 0 rfl rfl 2 (by decide) (hts _ q59) (fun _ h9 => h9) rfl dX2_restore_27 ?_
  refine g_iadd hx hb dX2_restore_30 h (fun x1 h => ?_)
  refine lv_bipush (v := 6) hx hb dX2_restore_31 (by decide) ?_
  refine g_irem hx hb dX2_restore_33 (by decide) h (fun x2 h => ?_)
  obtain ⟨hi, h⟩ := k_ck_e h
  refine va_aldq hx hb hK hP 1 2 rfl rfl hi dX2_restore_34 ?_
  obtain ⟨j, hj, rfl⟩ := vp_in_of hi (by decide)
  rw [nI_clamp (by omega)] at h ⊢
  show W p l e _ s m _ below meth c H locs 0 0 _ (F0 m _ ls [.ref (ro j), .ref ob2])
  obtain ⟨c1, c2, c3, c4, c5, c6, hc, h⟩ := k_b6_e h
  obtain ⟨e0, e1, e2, e3, e4, e5, e6⟩ := k_t7 h
  have hj : j = 0 ∨ j = 1 ∨ j = 2 ∨ j = 3 ∨ j = 4 ∨ j = 5 := by omega
  rcases hj with rfl | rfl | rfl | rfl | rfl | rfl
  · refine g_callMV_V (As := [.ref (ro 0)]) (rest := []) hC (mX3_copyFrom l dC dI cyI cyC cyO ob2 b1 b2 b3 (ro 0) (r1 0) (r2 0) (r3 0) w_ones w_twos w_settings w_tick w_energy w_valuesPut (v_ring 0).1 (v_ring 0).2.1 (v_ring 0).2.2.1 (v_ring 0).2.2.2.1 (v_ring 0).2.2.2.2.1 (v_ring 0).2.2.2.2.2 hc) q128 q129 q130 q9 q131 1 hdX3_copyFrom ⟨Nat.le_of_ble_eq_true rfl, Nat.le_of_ble_eq_true rfl⟩ ⟨Nat.le_of_ble_eq_true rfl, Nat.le_of_ble_eq_true rfl⟩ rfl rfl hl.1 (Nat.le_of_ble_eq_true rfl) (hP.sub (ws' := (wX3 cyI cyC ob2 b1 b2 b3 w_ones w_twos w_settings w_tick w_energy w_valuesPut) ++ (wX3 cyI cyC (ro 0) (r1 0) (r2 0) (r3 0) (v_ring 0).1 (v_ring 0).2.1 (v_ring 0).2.2.1 (v_ring 0).2.2.2.1 (v_ring 0).2.2.2.2.1 (v_ring 0).2.2.2.2.2)) [26, 27, 28, 29, 2, 3, 4, 5] rfl) hK (hD.sub (ws' := (wX3 cyI cyC ob2 b1 b2 b3 w_ones w_twos w_settings w_tick w_energy w_valuesPut) ++ (wX3 cyI cyC (ro 0) (r1 0) (r2 0) (r3 0) (v_ring 0).1 (v_ring 0).2.1 (v_ring 0).2.2.1 (v_ring 0).2.2.2.1 (v_ring 0).2.2.2.2.1 (v_ring 0).2.2.2.2.2)) [26, 27, 28, 29, 2, 3, 4, 5] (by decide) rfl) (va_recv hK hP (ci := 2) (q0 := 26) rfl rfl) hS dX2_restore_35 (fun H locs hPn hk hS => ?_)
    have hP : va_P (dC, dI) vwCl ((wX2 cyI cyC cyO ob aR ro r1 r2 r3 v_ring v_oldest x0) ++ (wX3 cyI cyC ob2 b1 b2 b3 c1 c2 c3 c4 c5 c6)) H := k_repl hP hD [26, 27, 28, 29, 2, 3, 4, 5] rfl hk hPn [.inl 0, .inl 1, .inr 4, .inr 5, .inr 6, .inr 7, .inl 6, .inl 7, .inl 8, .inl 9, .inl 10, .inl 11, .inl 12, .inl 13, .inl 14, .inl 15, .inl 16, .inl 17, .inl 18, .inl 19, .inl 20, .inl 21, .inl 22, .inl 23, .inl 24, .inl 25, .inr 0, .inr 1, .inr 2, .inr 3] rfl (by decide)
    exact g_retMV hx hb hr hlk hS (by rw [← e0, ← e1, ← e2, ← e3, ← e4, ← e5, ← e6]; exact hP) dX2_restore_38
  · refine g_callMV_V (As := [.ref (ro 1)]) (rest := []) hC (mX3_copyFrom l dC dI cyI cyC cyO ob2 b1 b2 b3 (ro 1) (r1 1) (r2 1) (r3 1) w_ones w_twos w_settings w_tick w_energy w_valuesPut (v_ring 1).1 (v_ring 1).2.1 (v_ring 1).2.2.1 (v_ring 1).2.2.2.1 (v_ring 1).2.2.2.2.1 (v_ring 1).2.2.2.2.2 hc) q128 q129 q130 q9 q131 1 hdX3_copyFrom ⟨Nat.le_of_ble_eq_true rfl, Nat.le_of_ble_eq_true rfl⟩ ⟨Nat.le_of_ble_eq_true rfl, Nat.le_of_ble_eq_true rfl⟩ rfl rfl hl.1 (Nat.le_of_ble_eq_true rfl) (hP.sub (ws' := (wX3 cyI cyC ob2 b1 b2 b3 w_ones w_twos w_settings w_tick w_energy w_valuesPut) ++ (wX3 cyI cyC (ro 1) (r1 1) (r2 1) (r3 1) (v_ring 1).1 (v_ring 1).2.1 (v_ring 1).2.2.1 (v_ring 1).2.2.2.1 (v_ring 1).2.2.2.2.1 (v_ring 1).2.2.2.2.2)) [26, 27, 28, 29, 6, 7, 8, 9] rfl) hK (hD.sub (ws' := (wX3 cyI cyC ob2 b1 b2 b3 w_ones w_twos w_settings w_tick w_energy w_valuesPut) ++ (wX3 cyI cyC (ro 1) (r1 1) (r2 1) (r3 1) (v_ring 1).1 (v_ring 1).2.1 (v_ring 1).2.2.1 (v_ring 1).2.2.2.1 (v_ring 1).2.2.2.2.1 (v_ring 1).2.2.2.2.2)) [26, 27, 28, 29, 6, 7, 8, 9] (by decide) rfl) (va_recv hK hP (ci := 2) (q0 := 26) rfl rfl) hS dX2_restore_35 (fun H locs hPn hk hS => ?_)
    have hP : va_P (dC, dI) vwCl ((wX2 cyI cyC cyO ob aR ro r1 r2 r3 v_ring v_oldest x0) ++ (wX3 cyI cyC ob2 b1 b2 b3 c1 c2 c3 c4 c5 c6)) H := k_repl hP hD [26, 27, 28, 29, 6, 7, 8, 9] rfl hk hPn [.inl 0, .inl 1, .inl 2, .inl 3, .inl 4, .inl 5, .inr 4, .inr 5, .inr 6, .inr 7, .inl 10, .inl 11, .inl 12, .inl 13, .inl 14, .inl 15, .inl 16, .inl 17, .inl 18, .inl 19, .inl 20, .inl 21, .inl 22, .inl 23, .inl 24, .inl 25, .inr 0, .inr 1, .inr 2, .inr 3] rfl (by decide)
    exact g_retMV hx hb hr hlk hS (by rw [← e0, ← e1, ← e2, ← e3, ← e4, ← e5, ← e6]; exact hP) dX2_restore_38
  · refine g_callMV_V (As := [.ref (ro 2)]) (rest := []) hC (mX3_copyFrom l dC dI cyI cyC cyO ob2 b1 b2 b3 (ro 2) (r1 2) (r2 2) (r3 2) w_ones w_twos w_settings w_tick w_energy w_valuesPut (v_ring 2).1 (v_ring 2).2.1 (v_ring 2).2.2.1 (v_ring 2).2.2.2.1 (v_ring 2).2.2.2.2.1 (v_ring 2).2.2.2.2.2 hc) q128 q129 q130 q9 q131 1 hdX3_copyFrom ⟨Nat.le_of_ble_eq_true rfl, Nat.le_of_ble_eq_true rfl⟩ ⟨Nat.le_of_ble_eq_true rfl, Nat.le_of_ble_eq_true rfl⟩ rfl rfl hl.1 (Nat.le_of_ble_eq_true rfl) (hP.sub (ws' := (wX3 cyI cyC ob2 b1 b2 b3 w_ones w_twos w_settings w_tick w_energy w_valuesPut) ++ (wX3 cyI cyC (ro 2) (r1 2) (r2 2) (r3 2) (v_ring 2).1 (v_ring 2).2.1 (v_ring 2).2.2.1 (v_ring 2).2.2.2.1 (v_ring 2).2.2.2.2.1 (v_ring 2).2.2.2.2.2)) [26, 27, 28, 29, 10, 11, 12, 13] rfl) hK (hD.sub (ws' := (wX3 cyI cyC ob2 b1 b2 b3 w_ones w_twos w_settings w_tick w_energy w_valuesPut) ++ (wX3 cyI cyC (ro 2) (r1 2) (r2 2) (r3 2) (v_ring 2).1 (v_ring 2).2.1 (v_ring 2).2.2.1 (v_ring 2).2.2.2.1 (v_ring 2).2.2.2.2.1 (v_ring 2).2.2.2.2.2)) [26, 27, 28, 29, 10, 11, 12, 13] (by decide) rfl) (va_recv hK hP (ci := 2) (q0 := 26) rfl rfl) hS dX2_restore_35 (fun H locs hPn hk hS => ?_)
    have hP : va_P (dC, dI) vwCl ((wX2 cyI cyC cyO ob aR ro r1 r2 r3 v_ring v_oldest x0) ++ (wX3 cyI cyC ob2 b1 b2 b3 c1 c2 c3 c4 c5 c6)) H := k_repl hP hD [26, 27, 28, 29, 10, 11, 12, 13] rfl hk hPn [.inl 0, .inl 1, .inl 2, .inl 3, .inl 4, .inl 5, .inl 6, .inl 7, .inl 8, .inl 9, .inr 4, .inr 5, .inr 6, .inr 7, .inl 14, .inl 15, .inl 16, .inl 17, .inl 18, .inl 19, .inl 20, .inl 21, .inl 22, .inl 23, .inl 24, .inl 25, .inr 0, .inr 1, .inr 2, .inr 3] rfl (by decide)
    exact g_retMV hx hb hr hlk hS (by rw [← e0, ← e1, ← e2, ← e3, ← e4, ← e5, ← e6]; exact hP) dX2_restore_38
  · refine g_callMV_V (As := [.ref (ro 3)]) (rest := []) hC (mX3_copyFrom l dC dI cyI cyC cyO ob2 b1 b2 b3 (ro 3) (r1 3) (r2 3) (r3 3) w_ones w_twos w_settings w_tick w_energy w_valuesPut (v_ring 3).1 (v_ring 3).2.1 (v_ring 3).2.2.1 (v_ring 3).2.2.2.1 (v_ring 3).2.2.2.2.1 (v_ring 3).2.2.2.2.2 hc) q128 q129 q130 q9 q131 1 hdX3_copyFrom ⟨Nat.le_of_ble_eq_true rfl, Nat.le_of_ble_eq_true rfl⟩ ⟨Nat.le_of_ble_eq_true rfl, Nat.le_of_ble_eq_true rfl⟩ rfl rfl hl.1 (Nat.le_of_ble_eq_true rfl) (hP.sub (ws' := (wX3 cyI cyC ob2 b1 b2 b3 w_ones w_twos w_settings w_tick w_energy w_valuesPut) ++ (wX3 cyI cyC (ro 3) (r1 3) (r2 3) (r3 3) (v_ring 3).1 (v_ring 3).2.1 (v_ring 3).2.2.1 (v_ring 3).2.2.2.1 (v_ring 3).2.2.2.2.1 (v_ring 3).2.2.2.2.2)) [26, 27, 28, 29, 14, 15, 16, 17] rfl) hK (hD.sub (ws' := (wX3 cyI cyC ob2 b1 b2 b3 w_ones w_twos w_settings w_tick w_energy w_valuesPut) ++ (wX3 cyI cyC (ro 3) (r1 3) (r2 3) (r3 3) (v_ring 3).1 (v_ring 3).2.1 (v_ring 3).2.2.1 (v_ring 3).2.2.2.1 (v_ring 3).2.2.2.2.1 (v_ring 3).2.2.2.2.2)) [26, 27, 28, 29, 14, 15, 16, 17] (by decide) rfl) (va_recv hK hP (ci := 2) (q0 := 26) rfl rfl) hS dX2_restore_35 (fun H locs hPn hk hS => ?_)
    have hP : va_P (dC, dI) vwCl ((wX2 cyI cyC cyO ob aR ro r1 r2 r3 v_ring v_oldest x0) ++ (wX3 cyI cyC ob2 b1 b2 b3 c1 c2 c3 c4 c5 c6)) H := k_repl hP hD [26, 27, 28, 29, 14, 15, 16, 17] rfl hk hPn [.inl 0, .inl 1, .inl 2, .inl 3, .inl 4, .inl 5, .inl 6, .inl 7, .inl 8, .inl 9, .inl 10, .inl 11, .inl 12, .inl 13, .inr 4, .inr 5, .inr 6, .inr 7, .inl 18, .inl 19, .inl 20, .inl 21, .inl 22, .inl 23, .inl 24, .inl 25, .inr 0, .inr 1, .inr 2, .inr 3] rfl (by decide)
    exact g_retMV hx hb hr hlk hS (by rw [← e0, ← e1, ← e2, ← e3, ← e4, ← e5, ← e6]; exact hP) dX2_restore_38
  · refine g_callMV_V (As := [.ref (ro 4)]) (rest := []) hC (mX3_copyFrom l dC dI cyI cyC cyO ob2 b1 b2 b3 (ro 4) (r1 4) (r2 4) (r3 4) w_ones w_twos w_settings w_tick w_energy w_valuesPut (v_ring 4).1 (v_ring 4).2.1 (v_ring 4).2.2.1 (v_ring 4).2.2.2.1 (v_ring 4).2.2.2.2.1 (v_ring 4).2.2.2.2.2 hc) q128 q129 q130 q9 q131 1 hdX3_copyFrom ⟨Nat.le_of_ble_eq_true rfl, Nat.le_of_ble_eq_true rfl⟩ ⟨Nat.le_of_ble_eq_true rfl, Nat.le_of_ble_eq_true rfl⟩ rfl rfl hl.1 (Nat.le_of_ble_eq_true rfl) (hP.sub (ws' := (wX3 cyI cyC ob2 b1 b2 b3 w_ones w_twos w_settings w_tick w_energy w_valuesPut) ++ (wX3 cyI cyC (ro 4) (r1 4) (r2 4) (r3 4) (v_ring 4).1 (v_ring 4).2.1 (v_ring 4).2.2.1 (v_ring 4).2.2.2.1 (v_ring 4).2.2.2.2.1 (v_ring 4).2.2.2.2.2)) [26, 27, 28, 29, 18, 19, 20, 21] rfl) hK (hD.sub (ws' := (wX3 cyI cyC ob2 b1 b2 b3 w_ones w_twos w_settings w_tick w_energy w_valuesPut) ++ (wX3 cyI cyC (ro 4) (r1 4) (r2 4) (r3 4) (v_ring 4).1 (v_ring 4).2.1 (v_ring 4).2.2.1 (v_ring 4).2.2.2.1 (v_ring 4).2.2.2.2.1 (v_ring 4).2.2.2.2.2)) [26, 27, 28, 29, 18, 19, 20, 21] (by decide) rfl) (va_recv hK hP (ci := 2) (q0 := 26) rfl rfl) hS dX2_restore_35 (fun H locs hPn hk hS => ?_)
    have hP : va_P (dC, dI) vwCl ((wX2 cyI cyC cyO ob aR ro r1 r2 r3 v_ring v_oldest x0) ++ (wX3 cyI cyC ob2 b1 b2 b3 c1 c2 c3 c4 c5 c6)) H := k_repl hP hD [26, 27, 28, 29, 18, 19, 20, 21] rfl hk hPn [.inl 0, .inl 1, .inl 2, .inl 3, .inl 4, .inl 5, .inl 6, .inl 7, .inl 8, .inl 9, .inl 10, .inl 11, .inl 12, .inl 13, .inl 14, .inl 15, .inl 16, .inl 17, .inr 4, .inr 5, .inr 6, .inr 7, .inl 22, .inl 23, .inl 24, .inl 25, .inr 0, .inr 1, .inr 2, .inr 3] rfl (by decide)
    exact g_retMV hx hb hr hlk hS (by rw [← e0, ← e1, ← e2, ← e3, ← e4, ← e5, ← e6]; exact hP) dX2_restore_38
  · refine g_callMV_V (As := [.ref (ro 5)]) (rest := []) hC (mX3_copyFrom l dC dI cyI cyC cyO ob2 b1 b2 b3 (ro 5) (r1 5) (r2 5) (r3 5) w_ones w_twos w_settings w_tick w_energy w_valuesPut (v_ring 5).1 (v_ring 5).2.1 (v_ring 5).2.2.1 (v_ring 5).2.2.2.1 (v_ring 5).2.2.2.2.1 (v_ring 5).2.2.2.2.2 hc) q128 q129 q130 q9 q131 1 hdX3_copyFrom ⟨Nat.le_of_ble_eq_true rfl, Nat.le_of_ble_eq_true rfl⟩ ⟨Nat.le_of_ble_eq_true rfl, Nat.le_of_ble_eq_true rfl⟩ rfl rfl hl.1 (Nat.le_of_ble_eq_true rfl) (hP.sub (ws' := (wX3 cyI cyC ob2 b1 b2 b3 w_ones w_twos w_settings w_tick w_energy w_valuesPut) ++ (wX3 cyI cyC (ro 5) (r1 5) (r2 5) (r3 5) (v_ring 5).1 (v_ring 5).2.1 (v_ring 5).2.2.1 (v_ring 5).2.2.2.1 (v_ring 5).2.2.2.2.1 (v_ring 5).2.2.2.2.2)) [26, 27, 28, 29, 22, 23, 24, 25] rfl) hK (hD.sub (ws' := (wX3 cyI cyC ob2 b1 b2 b3 w_ones w_twos w_settings w_tick w_energy w_valuesPut) ++ (wX3 cyI cyC (ro 5) (r1 5) (r2 5) (r3 5) (v_ring 5).1 (v_ring 5).2.1 (v_ring 5).2.2.1 (v_ring 5).2.2.2.1 (v_ring 5).2.2.2.2.1 (v_ring 5).2.2.2.2.2)) [26, 27, 28, 29, 22, 23, 24, 25] (by decide) rfl) (va_recv hK hP (ci := 2) (q0 := 26) rfl rfl) hS dX2_restore_35 (fun H locs hPn hk hS => ?_)
    have hP : va_P (dC, dI) vwCl ((wX2 cyI cyC cyO ob aR ro r1 r2 r3 v_ring v_oldest x0) ++ (wX3 cyI cyC ob2 b1 b2 b3 c1 c2 c3 c4 c5 c6)) H := k_repl hP hD [26, 27, 28, 29, 22, 23, 24, 25] rfl hk hPn [.inl 0, .inl 1, .inl 2, .inl 3, .inl 4, .inl 5, .inl 6, .inl 7, .inl 8, .inl 9, .inl 10, .inl 11, .inl 12, .inl 13, .inl 14, .inl 15, .inl 16, .inl 17, .inl 18, .inl 19, .inl 20, .inl 21, .inr 4, .inr 5, .inr 6, .inr 7, .inr 0, .inr 1, .inr 2, .inr 3] rfl (by decide)
    exact g_retMV hx hb hr hlk hS (by rw [← e0, ← e1, ← e2, ← e3, ← e4, ← e5, ← e6]; exact hP) dX2_restore_38
