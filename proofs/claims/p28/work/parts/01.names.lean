-- ===== PART A: goes FIRST, ahead of the names: the tables' words, and 'selects' of the private methods out of them =====
/-- a private method of a class that the tables say can be made, by its rows of tables_1 -/
def lw_okq (q : MethodName × Nat) : Prop := (q.1.cls ≠ "java/lang/invoke/MethodHandle" ∧ q.1.cls ≠ "java/lang/invoke/VarHandle") ∧ Cond.instantiable q.1.cls q.2 ∈ tables_1 ∧ Cond.privateMethod q.1 ∈ tables_1 ∧ Cond.instanceMethod q.1 ∈ tables_1
theorem lw_p0 : lw_okq (⟨"java/lang/Throwable", "fillInStackTrace", "(I)Ljava/lang/Throwable;"⟩, 6) := ⟨⟨by decide +kernel, by decide +kernel⟩, List.mem_of_getElem? (i := 165) (by decide +kernel), List.mem_of_getElem? (i := 163) (by decide +kernel), List.mem_of_getElem? (i := 164) (by decide +kernel)⟩
theorem lw_p1 : lw_okq (⟨"FuseRows", "rowProperty", "(II)I"⟩, 4) := ⟨⟨by decide +kernel, by decide +kernel⟩, List.mem_of_getElem? (i := 16) (by decide +kernel), List.mem_of_getElem? (i := 322) (by decide +kernel), List.mem_of_getElem? (i := 323) (by decide +kernel)⟩
theorem lw_p2 : lw_okq (⟨"FuseRows", "keyProperty", "(II)I"⟩, 4) := ⟨⟨by decide +kernel, by decide +kernel⟩, List.mem_of_getElem? (i := 16) (by decide +kernel), List.mem_of_getElem? (i := 349) (by decide +kernel), List.mem_of_getElem? (i := 350) (by decide +kernel)⟩
theorem lw_p3 : lw_okq (⟨"FuseRows", "countOf", "(I)I"⟩, 4) := ⟨⟨by decide +kernel, by decide +kernel⟩, List.mem_of_getElem? (i := 16) (by decide +kernel), List.mem_of_getElem? (i := 392) (by decide +kernel), List.mem_of_getElem? (i := 393) (by decide +kernel)⟩
theorem lw_p4 : lw_okq (⟨"FuseRows", "putOutcome", "(III)I"⟩, 4) := ⟨⟨by decide +kernel, by decide +kernel⟩, List.mem_of_getElem? (i := 16) (by decide +kernel), List.mem_of_getElem? (i := 425) (by decide +kernel), List.mem_of_getElem? (i := 426) (by decide +kernel)⟩
theorem lw_p5 : lw_okq (⟨"FuseRows", "valuesReadOtherwise", "(IZ)I"⟩, 4) := ⟨⟨by decide +kernel, by decide +kernel⟩, List.mem_of_getElem? (i := 16) (by decide +kernel), List.mem_of_getElem? (i := 460) (by decide +kernel), List.mem_of_getElem? (i := 461) (by decide +kernel)⟩
theorem lw_p6 : lw_okq (⟨"FuseRows", "heatOutcome", "(II)I"⟩, 4) := ⟨⟨by decide +kernel, by decide +kernel⟩, List.mem_of_getElem? (i := 16) (by decide +kernel), List.mem_of_getElem? (i := 520) (by decide +kernel), List.mem_of_getElem? (i := 521) (by decide +kernel)⟩
def lw_privs_1 : List (MethodName × Nat) := [(⟨"java/lang/Throwable", "fillInStackTrace", "(I)Ljava/lang/Throwable;"⟩, 6), (⟨"FuseRows", "rowProperty", "(II)I"⟩, 4), (⟨"FuseRows", "keyProperty", "(II)I"⟩, 4), (⟨"FuseRows", "countOf", "(I)I"⟩, 4), (⟨"FuseRows", "putOutcome", "(III)I"⟩, 4), (⟨"FuseRows", "valuesReadOtherwise", "(IZ)I"⟩, 4), (⟨"FuseRows", "heatOutcome", "(II)I"⟩, 4)]
theorem lw_r1 : ∀ q ∈ lw_privs_1, lw_okq q := List.forall_mem_cons.mpr ⟨lw_p0, List.forall_mem_cons.mpr ⟨lw_p1, List.forall_mem_cons.mpr ⟨lw_p2, List.forall_mem_cons.mpr ⟨lw_p3, List.forall_mem_cons.mpr ⟨lw_p4, List.forall_mem_cons.mpr ⟨lw_p5, List.forall_mem_cons.mpr ⟨lw_p6, fun _ h => absurd h List.not_mem_nil⟩⟩⟩⟩⟩⟩⟩
def lw_privs : List (MethodName × Nat) := lw_privs_1
def lw_tbl : List Cond := k2_sels lw_privs ++ tables_1
theorem lw_privs_ok : ∀ q ∈ lw_privs, lw_okq q := lw_r1
/-- the streams that the claim lets the run draw from -/
abbrev lw_cs : List Choice := [Jvm.Choice.named "NaN.bits"]
theorem lw_bits : nanBits ∈ lw_cs := by first | decide | exact List.mem_cons_self | simp [lw_cs, nanBits]

def RX0 : String := "FuseRows$Mask"
def TX0 : u_T := fun k => match k with
  | _ => ("", "", "", false)
def tyX0 : Nat → FieldType := fun k => match k with
  | _ => .int
abbrev wsX00 : List Cond := u_ws RX0 TX0 0
theorem nmX0 : ∀ a, a < 0 → ∀ b, b < 0 → a ≠ b → (TX0 a).2.1 ≠ (TX0 b).2.1 := by decide +kernel
theorem tyX0_ok : ∀ k, k < 0 → parseFieldDescriptor (TX0 k).2.2.1 = some (tyX0 k) := by decide +kernel
abbrev cX0_keyOf : ByteArray := prog_2_method_2_code
def yX0_keyOf : MethodName := ⟨RX0, "keyOf", "(I)I"⟩
abbrev cX0_valueOf : ByteArray := prog_2_method_3_code
def yX0_valueOf : MethodName := ⟨RX0, "valueOf", "(I)I"⟩
abbrev cX0_checkOf : ByteArray := prog_2_method_4_code
def yX0_checkOf : MethodName := ⟨RX0, "checkOf", "(I)I"⟩
abbrev cX0_zerosOf : ByteArray := prog_2_method_5_code
def yX0_zerosOf : MethodName := ⟨RX0, "zerosOf", "(I)I"⟩
abbrev cX0_kindOf : ByteArray := prog_2_method_6_code
def yX0_kindOf : MethodName := ⟨RX0, "kindOf", "(I)I"⟩
abbrev cX0_ofEntry : ByteArray := prog_2_method_7_code
def yX0_ofEntry : MethodName := ⟨RX0, "ofEntry", "(II)I"⟩
def RX1 : String := "FuseRows$OrderText"
def TX1 : u_T := fun k => match k with
  | 0 => ("FuseRows$OrderText", "signs", "[C", true)
  | 1 => ("FuseRows$OrderText", "length", "I", false)
  | 2 => ("FuseRows$OrderText", "position", "I", false)
  | 3 => ("FuseRows$OrderText", "complete", "Z", false)
  | 4 => ("FuseRows$OrderText", "orders", "I", false)
  | 5 => ("FuseRows$OrderText", "kinds", "[I", true)
  | 6 => ("FuseRows$OrderText", "numbers", "[I", true)
  | _ => ("FuseRows$OrderText", "values", "[I", true)
def tyX1 : Nat → FieldType := fun k => match k with
  | 0 => .array .char
  | 1 => .int
  | 2 => .int
  | 3 => .boolean
  | 4 => .int
  | 5 => .array .int
  | 6 => .array .int
  | _ => .array .int
abbrev wsX10 : List Cond := u_ws RX1 TX1 8
theorem nmX1 : ∀ a, a < 8 → ∀ b, b < 8 → a ≠ b → (TX1 a).2.1 ≠ (TX1 b).2.1 := by decide +kernel
theorem tyX1_ok : ∀ k, k < 8 → parseFieldDescriptor (TX1 k).2.2.1 = some (tyX1 k) := by decide +kernel
abbrev cX1_init : ByteArray := prog_3_method_1_code
def yX1_init : MethodName := ⟨RX1, "<init>", "()V"⟩
def RX2 : String := "FuseRows$SavedStates"
def TX2 : u_T := fun k => match k with
  | 0 => ("FuseRows$SavedStates", "ring", "[LFuseRows$State;", true)
  | 1 => ("FuseRows$SavedStates", "oldest", "I", false)
  | _ => ("FuseRows$SavedStates", "count", "I", false)
def tyX2 : Nat → FieldType := fun k => match k with
  | 0 => .array (.object "FuseRows$State")
  | 1 => .int
  | _ => .int
abbrev wsX20 : List Cond := u_ws RX2 TX2 3
theorem nmX2 : ∀ a, a < 3 → ∀ b, b < 3 → a ≠ b → (TX2 a).2.1 ≠ (TX2 b).2.1 := by decide +kernel
theorem tyX2_ok : ∀ k, k < 3 → parseFieldDescriptor (TX2 k).2.2.1 = some (tyX2 k) := by decide +kernel
abbrev cX2_init : ByteArray := prog_4_method_1_code
def yX2_init : MethodName := ⟨RX2, "<init>", "()V"⟩
abbrev cX2_save : ByteArray := prog_4_method_2_code
def yX2_save : MethodName := ⟨RX2, "save", "(LFuseRows$State;)V"⟩
abbrev cX2_restore : ByteArray := prog_4_method_3_code
def yX2_restore : MethodName := ⟨RX2, "restore", "(LFuseRows$State;)V"⟩
def RX3 : String := "FuseRows$State"
def TX3 : u_T := fun k => match k with
  | 0 => ("FuseRows$State", "ones", "[I", true)
  | 1 => ("FuseRows$State", "twos", "[I", true)
  | 2 => ("FuseRows$State", "settings", "[I", true)
  | 3 => ("FuseRows$State", "tick", "I", false)
  | 4 => ("FuseRows$State", "energy", "I", false)
  | _ => ("FuseRows$State", "valuesPut", "I", false)
def tyX3 : Nat → FieldType := fun k => match k with
  | 0 => .array .int
  | 1 => .array .int
  | 2 => .array .int
  | 3 => .int
  | 4 => .int
  | _ => .int
abbrev wsX30 : List Cond := u_ws RX3 TX3 6
theorem nmX3 : ∀ a, a < 6 → ∀ b, b < 6 → a ≠ b → (TX3 a).2.1 ≠ (TX3 b).2.1 := by decide +kernel
theorem tyX3_ok : ∀ k, k < 6 → parseFieldDescriptor (TX3 k).2.2.1 = some (tyX3 k) := by decide +kernel
abbrev cX3_init : ByteArray := prog_5_method_1_code
def yX3_init : MethodName := ⟨RX3, "<init>", "()V"⟩
abbrev cX3_copyFrom : ByteArray := prog_5_method_2_code
def yX3_copyFrom : MethodName := ⟨RX3, "copyFrom", "(LFuseRows$State;)V"⟩
abbrev cX3_strength : ByteArray := prog_5_method_3_code
def yX3_strength : MethodName := ⟨RX3, "strength", "(II)I"⟩
abbrev cX3_readAt : ByteArray := prog_5_method_4_code
def yX3_readAt : MethodName := ⟨RX3, "readAt", "(IIZ)I"⟩
abbrev cX3_readsThrice : ByteArray := prog_5_method_5_code
def yX3_readsThrice : MethodName := ⟨RX3, "readsThrice", "()Z"⟩
abbrev cX3_read : ByteArray := prog_5_method_6_code
def yX3_read : MethodName := ⟨RX3, "read", "(I)I"⟩
abbrev cX3_kind : ByteArray := prog_5_method_7_code
def yX3_kind : MethodName := ⟨RX3, "kind", "(I)I"⟩
abbrev cX3_isLocked : ByteArray := prog_5_method_8_code
def yX3_isLocked : MethodName := ⟨RX3, "isLocked", "(I)Z"⟩
abbrev cX3_doubtfulFuses : ByteArray := prog_5_method_9_code
def yX3_doubtfulFuses : MethodName := ⟨RX3, "doubtfulFuses", "(I)I"⟩
abbrev cX3_strengthSum : ByteArray := prog_5_method_10_code
def yX3_strengthSum : MethodName := ⟨RX3, "strengthSum", "(I)I"⟩
abbrev cX3_allDoubtfulFuses : ByteArray := prog_5_method_11_code
def yX3_allDoubtfulFuses : MethodName := ⟨RX3, "allDoubtfulFuses", "()I"⟩
abbrev cX3_lockedRows : ByteArray := prog_5_method_12_code
def yX3_lockedRows : MethodName := ⟨RX3, "lockedRows", "()I"⟩
abbrev cX3_rowsOfKind : ByteArray := prog_5_method_13_code
def yX3_rowsOfKind : MethodName := ⟨RX3, "rowsOfKind", "(I)I"⟩
abbrev cX3_nextRow : ByteArray := prog_5_method_14_code
def yX3_nextRow : MethodName := ⟨RX3, "nextRow", "()I"⟩
abbrev cX3_isRowOf : ByteArray := prog_5_method_15_code
def yX3_isRowOf : MethodName := ⟨RX3, "isRowOf", "(II)Z"⟩
abbrev cX3_entryRow : ByteArray := prog_5_method_16_code
def yX3_entryRow : MethodName := ⟨RX3, "entryRow", "(IIZ)I"⟩
abbrev cX3_valueAt : ByteArray := prog_5_method_17_code
def yX3_valueAt : MethodName := ⟨RX3, "valueAt", "(IIZ)I"⟩
abbrev cX3_valueOfKey : ByteArray := prog_5_method_18_code
def yX3_valueOfKey : MethodName := ⟨RX3, "valueOfKey", "(I)I"⟩
abbrev cX3_keysWithValue : ByteArray := prog_5_method_19_code
def yX3_keysWithValue : MethodName := ⟨RX3, "keysWithValue", "()I"⟩
abbrev cX3_entriesOf : ByteArray := prog_5_method_20_code
def yX3_entriesOf : MethodName := ⟨RX3, "entriesOf", "(I)I"⟩
abbrev cX3_rowsOf : ByteArray := prog_5_method_21_code
def yX3_rowsOf : MethodName := ⟨RX3, "rowsOf", "(I)I"⟩
abbrev cX3_greatestValue : ByteArray := prog_5_method_22_code
def yX3_greatestValue : MethodName := ⟨RX3, "greatestValue", "(I)I"⟩
abbrev cX3_earlierValue : ByteArray := prog_5_method_23_code
def yX3_earlierValue : MethodName := ⟨RX3, "earlierValue", "(II)I"⟩
abbrev cX3_steadyReadings : ByteArray := prog_5_method_24_code
def yX3_steadyReadings : MethodName := ⟨RX3, "steadyReadings", "(I)I"⟩
abbrev cX3_blowFuse : ByteArray := prog_5_method_25_code
def yX3_blowFuse : MethodName := ⟨RX3, "blowFuse", "(III)V"⟩
abbrev cX3_blowFuses : ByteArray := prog_5_method_26_code
def yX3_blowFuses : MethodName := ⟨RX3, "blowFuses", "(III)V"⟩
abbrev cX3_strengthenFuses : ByteArray := prog_5_method_27_code
def yX3_strengthenFuses : MethodName := ⟨RX3, "strengthenFuses", "(II)V"⟩
abbrev cX3_putNext : ByteArray := prog_5_method_28_code
def yX3_putNext : MethodName := ⟨RX3, "putNext", "(II)I"⟩
abbrev cX3_writeEntry : ByteArray := prog_5_method_29_code
def yX3_writeEntry : MethodName := ⟨RX3, "writeEntry", "(III)I"⟩
abbrev cX3_tellsEntry : ByteArray := prog_5_method_30_code
def yX3_tellsEntry : MethodName := ⟨RX3, "tellsEntry", "(III)Z"⟩
abbrev cX3_markEarlier : ByteArray := prog_5_method_31_code
def yX3_markEarlier : MethodName := ⟨RX3, "markEarlier", "(II)I"⟩
abbrev cX3_markEntries : ByteArray := prog_5_method_32_code
def yX3_markEntries : MethodName := ⟨RX3, "markEntries", "(III)I"⟩
abbrev cX3_refreshRow : ByteArray := prog_5_method_33_code
def yX3_refreshRow : MethodName := ⟨RX3, "refreshRow", "(I)I"⟩
abbrev cX3_heatRows : ByteArray := prog_5_method_34_code
def yX3_heatRows : MethodName := ⟨RX3, "heatRows", "(I)I"⟩
def RX4 : String := "FuseRows"
def TX4 : u_T := fun k => match k with
  | 0 => ("FuseRows", "now", "LFuseRows$State;", true)
  | 1 => ("FuseRows", "trial", "LFuseRows$State;", true)
  | 2 => ("FuseRows", "saved", "LFuseRows$SavedStates;", true)
  | _ => ("FuseRows", "text", "LFuseRows$OrderText;", true)
def tyX4 : Nat → FieldType := fun k => match k with
  | 0 => .object "FuseRows$State"
  | 1 => .object "FuseRows$State"
  | 2 => .object "FuseRows$SavedStates"
  | _ => .object "FuseRows$OrderText"
abbrev wsX40 : List Cond := u_ws RX4 TX4 4
theorem nmX4 : ∀ a, a < 4 → ∀ b, b < 4 → a ≠ b → (TX4 a).2.1 ≠ (TX4 b).2.1 := by decide +kernel
theorem tyX4_ok : ∀ k, k < 4 → parseFieldDescriptor (TX4 k).2.2.1 = some (tyX4 k) := by decide +kernel
abbrev cX4_init : ByteArray := prog_1_method_1_code
def yX4_init : MethodName := ⟨RX4, "<init>", "()V"⟩
abbrev cX4_blow : ByteArray := prog_1_method_2_code
def yX4_blow : MethodName := ⟨RX4, "blow", "(III)I"⟩
abbrev cX4_put : ByteArray := prog_1_method_3_code
def yX4_put : MethodName := ⟨RX4, "put", "(II)I"⟩
abbrev cX4_drop : ByteArray := prog_1_method_4_code
def yX4_drop : MethodName := ⟨RX4, "drop", "(I)I"⟩
abbrev cX4_lock : ByteArray := prog_1_method_5_code
def yX4_lock : MethodName := ⟨RX4, "lock", "(I)I"⟩
abbrev cX4_refresh : ByteArray := prog_1_method_6_code
def yX4_refresh : MethodName := ⟨RX4, "refresh", "(I)I"⟩
abbrev cX4_heat : ByteArray := prog_1_method_7_code
def yX4_heat : MethodName := ⟨RX4, "heat", "(I)I"⟩
abbrev cX4_pass : ByteArray := prog_1_method_8_code
def yX4_pass : MethodName := ⟨RX4, "pass", "(I)I"⟩
abbrev cX4_set : ByteArray := prog_1_method_9_code
def yX4_set : MethodName := ⟨RX4, "set", "(II)I"⟩
abbrev cX4_undo : ByteArray := prog_1_method_14_code
def yX4_undo : MethodName := ⟨RX4, "undo", "()I"⟩
abbrev cX4_fuse : ByteArray := prog_1_method_15_code
def yX4_fuse : MethodName := ⟨RX4, "fuse", "(III)I"⟩
abbrev cX4_row : ByteArray := prog_1_method_16_code
def yX4_row : MethodName := ⟨RX4, "row", "(II)I"⟩
abbrev cX4_key : ByteArray := prog_1_method_17_code
def yX4_key : MethodName := ⟨RX4, "key", "(II)I"⟩
abbrev cX4_history : ByteArray := prog_1_method_18_code
def yX4_history : MethodName := ⟨RX4, "history", "(II)I"⟩
abbrev cX4_count : ByteArray := prog_1_method_19_code
def yX4_count : MethodName := ⟨RX4, "count", "(I)I"⟩
abbrev cX4_setting : ByteArray := prog_1_method_20_code
def yX4_setting : MethodName := ⟨RX4, "setting", "(I)I"⟩
abbrev cX4_ifPut : ByteArray := prog_1_method_21_code
def yX4_ifPut : MethodName := ⟨RX4, "ifPut", "(III)I"⟩
abbrev cX4_ifHeated : ByteArray := prog_1_method_22_code
def yX4_ifHeated : MethodName := ⟨RX4, "ifHeated", "(II)I"⟩
abbrev cX4_ifRead : ByteArray := prog_1_method_23_code
def yX4_ifRead : MethodName := ⟨RX4, "ifRead", "(IZ)I"⟩
abbrev cX4_worst : ByteArray := prog_1_method_24_code
def yX4_worst : MethodName := ⟨RX4, "worst", "()I"⟩
abbrev cX4_sureShare : ByteArray := prog_1_method_25_code
def yX4_sureShare : MethodName := ⟨RX4, "sureShare", "()D"⟩
abbrev cX4_isIndex : ByteArray := prog_1_method_27_code
def yX4_isIndex : MethodName := ⟨RX4, "isIndex", "(II)Z"⟩
abbrev cX4_isWithin : ByteArray := prog_1_method_28_code
def yX4_isWithin : MethodName := ⟨RX4, "isWithin", "(III)Z"⟩
abbrev cX4_requireIndex : ByteArray := prog_1_method_29_code
def yX4_requireIndex : MethodName := ⟨RX4, "requireIndex", "(Z)V"⟩
abbrev cX4_requireArgument : ByteArray := prog_1_method_30_code
def yX4_requireArgument : MethodName := ⟨RX4, "requireArgument", "(Z)V"⟩
abbrev cX4_requireState : ByteArray := prog_1_method_31_code
def yX4_requireState : MethodName := ⟨RX4, "requireState", "(Z)V"⟩
abbrev cX4_rowProperty : ByteArray := prog_1_method_34_code
def yX4_rowProperty : MethodName := ⟨RX4, "rowProperty", "(II)I"⟩
abbrev cX4_keyProperty : ByteArray := prog_1_method_35_code
def yX4_keyProperty : MethodName := ⟨RX4, "keyProperty", "(II)I"⟩
abbrev cX4_countOf : ByteArray := prog_1_method_36_code
def yX4_countOf : MethodName := ⟨RX4, "countOf", "(I)I"⟩
abbrev cX4_putOutcome : ByteArray := prog_1_method_37_code
def yX4_putOutcome : MethodName := ⟨RX4, "putOutcome", "(III)I"⟩
abbrev cX4_heatOutcome : ByteArray := prog_1_method_38_code
def yX4_heatOutcome : MethodName := ⟨RX4, "heatOutcome", "(II)I"⟩
abbrev cX4_valuesReadOtherwise : ByteArray := prog_1_method_39_code
def yX4_valuesReadOtherwise : MethodName := ⟨RX4, "valuesReadOtherwise", "(IZ)I"⟩
def RX5 : String := "FuseRowsModel"
def TX5 : u_T := fun k => match k with
  | _ => ("", "", "", false)
def tyX5 : Nat → FieldType := fun k => match k with
  | _ => .int
abbrev wsX50 : List Cond := u_ws RX5 TX5 0
theorem nmX5 : ∀ a, a < 0 → ∀ b, b < 0 → a ≠ b → (TX5 a).2.1 ≠ (TX5 b).2.1 := by decide +kernel
theorem tyX5_ok : ∀ k, k < 0 → parseFieldDescriptor (TX5 k).2.2.1 = some (tyX5 k) := by decide +kernel
def RJ6 : String := "java/lang/Integer"
def TJ6 : u_T := fun k => match k with
  | _ => ("", "", "", false)
def tyJ6 : Nat → FieldType := fun k => match k with
  | _ => .int
abbrev wsJ60 : List Cond := u_ws RJ6 TJ6 0
theorem nmJ6 : ∀ a, a < 0 → ∀ b, b < 0 → a ≠ b → (TJ6 a).2.1 ≠ (TJ6 b).2.1 := by decide +kernel
theorem tyJ6_ok : ∀ k, k < 0 → parseFieldDescriptor (TJ6 k).2.2.1 = some (tyJ6 k) := by decide +kernel
abbrev cJ6_bitCount_0f7a4 : ByteArray := prog_12_method_49_code
def yJ6_bitCount_0f7a4 : MethodName := ⟨RJ6, "bitCount", "(I)I"⟩
def RJ9 : String := "java/lang/Math"
def TJ9 : u_T := fun k => match k with
  | _ => ("", "", "", false)
def tyJ9 : Nat → FieldType := fun k => match k with
  | _ => .int
abbrev wsJ90 : List Cond := u_ws RJ9 TJ9 0
theorem nmJ9 : ∀ a, a < 0 → ∀ b, b < 0 → a ≠ b → (TJ9 a).2.1 ≠ (TJ9 b).2.1 := by decide +kernel
theorem tyJ9_ok : ∀ k, k < 0 → parseFieldDescriptor (TJ9 k).2.2.1 = some (tyJ9 k) := by decide +kernel
abbrev cJ9_max_7cf53 : ByteArray := prog_13_method_65_code
def yJ9_max_7cf53 : MethodName := ⟨RJ9, "max", "(II)I"⟩
def RJ0 : String := "java/lang/String"
def TJ0 : u_T := fun k => match k with
  | _ => ("", "", "", false)
def tyJ0 : Nat → FieldType := fun k => match k with
  | _ => .int
abbrev wsJ00 : List Cond := u_ws RJ0 TJ0 0
theorem nmJ0 : ∀ a, a < 0 → ∀ b, b < 0 → a ≠ b → (TJ0 a).2.1 ≠ (TJ0 b).2.1 := by decide +kernel
theorem tyJ0_ok : ∀ k, k < 0 → parseFieldDescriptor (TJ0 k).2.2.1 = some (tyJ0 k) := by decide +kernel
def RJ10 : String := "java/lang/System"
def TJ10 : u_T := fun k => match k with
  | _ => ("", "", "", false)
def tyJ10 : Nat → FieldType := fun k => match k with
  | _ => .int
abbrev wsJ100 : List Cond := u_ws RJ10 TJ10 0
theorem nmJ10 : ∀ a, a < 0 → ∀ b, b < 0 → a ≠ b → (TJ10 a).2.1 ≠ (TJ10 b).2.1 := by decide +kernel
theorem tyJ10_ok : ∀ k, k < 0 → parseFieldDescriptor (TJ10 k).2.2.1 = some (tyJ10 k) := by decide +kernel
def RL : String := "FuseRowsLaw"
abbrev cL_cell : ByteArray := method_2_code
def yL_cell : MethodName := ⟨RL, "cell", "([II)I"⟩
abbrev cL_low : ByteArray := method_3_code
def yL_low : MethodName := ⟨RL, "low", "(II)I"⟩
abbrev cL_put : ByteArray := method_4_code
def yL_put : MethodName := ⟨RL, "put", "(LFuseRows;II)Z"⟩
abbrev cL_isSealed : ByteArray := method_5_code
def yL_isSealed : MethodName := ⟨RL, "isSealed", "(LFuseRows;II)Z"⟩
abbrev cL_heat : ByteArray := method_6_code
def yL_heat : MethodName := ⟨RL, "heat", "(LFuseRows;I)Z"⟩
abbrev cL_refresh : ByteArray := method_7_code
def yL_refresh : MethodName := ⟨RL, "refresh", "(LFuseRows;I)Z"⟩
abbrev cL_addUp : ByteArray := method_8_code
def yL_addUp : MethodName := ⟨RL, "addUp", "(LFuseRows;)Z"⟩
abbrev cL_law : ByteArray := code
def yL_law : MethodName := ⟨RL, "law", "([I)Z"⟩
abbrev vwCl : List vw_C := [(RX1, TX1, 8), (RX2, TX2, 3), (RX3, TX3, 6), (RX4, TX4, 4)]
