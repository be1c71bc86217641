-- ===== PART A: goes FIRST, ahead of the names: the tables' words, and 'selects' of the private methods out of them =====
/-- a private method of a class that the tables say can be made, by its rows of tables_1 -/
def lw_okq (q : MethodName × Nat) : Prop := (q.1.cls ≠ "java/lang/invoke/MethodHandle" ∧ q.1.cls ≠ "java/lang/invoke/VarHandle") ∧ Cond.instantiable q.1.cls q.2 ∈ tables_1 ∧ Cond.privateMethod q.1 ∈ tables_1 ∧ Cond.instanceMethod q.1 ∈ tables_1
theorem lw_p0 : lw_okq (⟨"FuseRows$OrderText", "scanOrder", "()Z"⟩, 8) := ⟨⟨by decide +kernel, by decide +kernel⟩, List.mem_of_getElem? (i := 81) (by decide +kernel), List.mem_of_getElem? (i := 150) (by decide +kernel), List.mem_of_getElem? (i := 151) (by decide +kernel)⟩
theorem lw_p1 : lw_okq (⟨"FuseRows$OrderText", "scanWord", "()I"⟩, 8) := ⟨⟨by decide +kernel, by decide +kernel⟩, List.mem_of_getElem? (i := 81) (by decide +kernel), List.mem_of_getElem? (i := 154) (by decide +kernel), List.mem_of_getElem? (i := 155) (by decide +kernel)⟩
theorem lw_p2 : lw_okq (⟨"FuseRows$OrderText", "sameSigns", "(Ljava/lang/String;)I"⟩, 8) := ⟨⟨by decide +kernel, by decide +kernel⟩, List.mem_of_getElem? (i := 81) (by decide +kernel), List.mem_of_getElem? (i := 166) (by decide +kernel), List.mem_of_getElem? (i := 167) (by decide +kernel)⟩
theorem lw_p3 : lw_okq (⟨"FuseRows$OrderText", "scanNumber", "(II)I"⟩, 8) := ⟨⟨by decide +kernel, by decide +kernel⟩, List.mem_of_getElem? (i := 81) (by decide +kernel), List.mem_of_getElem? (i := 225) (by decide +kernel), List.mem_of_getElem? (i := 226) (by decide +kernel)⟩
theorem lw_p4 : lw_okq (⟨"FuseRows$OrderText", "scanSign", "(C)Z"⟩, 8) := ⟨⟨by decide +kernel, by decide +kernel⟩, List.mem_of_getElem? (i := 81) (by decide +kernel), List.mem_of_getElem? (i := 232) (by decide +kernel), List.mem_of_getElem? (i := 233) (by decide +kernel)⟩
theorem lw_p5 : lw_okq (⟨"FuseRows", "countOf", "(I)I"⟩, 4) := ⟨⟨by decide +kernel, by decide +kernel⟩, List.mem_of_getElem? (i := 21) (by decide +kernel), List.mem_of_getElem? (i := 292) (by decide +kernel), List.mem_of_getElem? (i := 293) (by decide +kernel)⟩
theorem lw_p6 : lw_okq (⟨"FuseRows", "rowProperty", "(II)I"⟩, 4) := ⟨⟨by decide +kernel, by decide +kernel⟩, List.mem_of_getElem? (i := 21) (by decide +kernel), List.mem_of_getElem? (i := 326) (by decide +kernel), List.mem_of_getElem? (i := 327) (by decide +kernel)⟩
theorem lw_p7 : lw_okq (⟨"FuseRows", "keyProperty", "(II)I"⟩, 4) := ⟨⟨by decide +kernel, by decide +kernel⟩, List.mem_of_getElem? (i := 21) (by decide +kernel), List.mem_of_getElem? (i := 348) (by decide +kernel), List.mem_of_getElem? (i := 349) (by decide +kernel)⟩
theorem lw_p8 : lw_okq (⟨"FuseRows", "putOutcome", "(III)I"⟩, 4) := ⟨⟨by decide +kernel, by decide +kernel⟩, List.mem_of_getElem? (i := 21) (by decide +kernel), List.mem_of_getElem? (i := 388) (by decide +kernel), List.mem_of_getElem? (i := 389) (by decide +kernel)⟩
theorem lw_p9 : lw_okq (⟨"FuseRows", "heatOutcome", "(II)I"⟩, 4) := ⟨⟨by decide +kernel, by decide +kernel⟩, List.mem_of_getElem? (i := 21) (by decide +kernel), List.mem_of_getElem? (i := 432) (by decide +kernel), List.mem_of_getElem? (i := 433) (by decide +kernel)⟩
theorem lw_p10 : lw_okq (⟨"FuseRows", "valuesReadOtherwise", "(IZ)I"⟩, 4) := ⟨⟨by decide +kernel, by decide +kernel⟩, List.mem_of_getElem? (i := 21) (by decide +kernel), List.mem_of_getElem? (i := 440) (by decide +kernel), List.mem_of_getElem? (i := 441) (by decide +kernel)⟩
theorem lw_p11 : lw_okq (⟨"java/lang/Throwable", "fillInStackTrace", "(I)Ljava/lang/Throwable;"⟩, 6) := ⟨⟨by decide +kernel, by decide +kernel⟩, List.mem_of_getElem? (i := 507) (by decide +kernel), List.mem_of_getElem? (i := 505) (by decide +kernel), List.mem_of_getElem? (i := 506) (by decide +kernel)⟩
theorem lw_p12 : lw_okq (⟨"FuseRows", "carryOut", "(I)Z"⟩, 4) := ⟨⟨by decide +kernel, by decide +kernel⟩, List.mem_of_getElem? (i := 21) (by decide +kernel), List.mem_of_getElem? (i := 669) (by decide +kernel), List.mem_of_getElem? (i := 670) (by decide +kernel)⟩
theorem lw_p13 : lw_okq (⟨"FuseRows", "isRefused", "(II)Z"⟩, 4) := ⟨⟨by decide +kernel, by decide +kernel⟩, List.mem_of_getElem? (i := 21) (by decide +kernel), List.mem_of_getElem? (i := 673) (by decide +kernel), List.mem_of_getElem? (i := 674) (by decide +kernel)⟩
theorem lw_p14 : lw_okq (⟨"FuseRowsModel", "isLocked", "(I)Z"⟩, 17) := ⟨⟨by decide +kernel, by decide +kernel⟩, List.mem_of_getElem? (i := 752) (by decide +kernel), List.mem_of_getElem? (i := 828) (by decide +kernel), List.mem_of_getElem? (i := 829) (by decide +kernel)⟩
theorem lw_p15 : lw_okq (⟨"FuseRowsModel", "thrice", "(III)I"⟩, 17) := ⟨⟨by decide +kernel, by decide +kernel⟩, List.mem_of_getElem? (i := 752) (by decide +kernel), List.mem_of_getElem? (i := 832) (by decide +kernel), List.mem_of_getElem? (i := 833) (by decide +kernel)⟩
def lw_privs_1 : List (MethodName × Nat) := [(⟨"FuseRows$OrderText", "scanOrder", "()Z"⟩, 8), (⟨"FuseRows$OrderText", "scanWord", "()I"⟩, 8), (⟨"FuseRows$OrderText", "sameSigns", "(Ljava/lang/String;)I"⟩, 8), (⟨"FuseRows$OrderText", "scanNumber", "(II)I"⟩, 8), (⟨"FuseRows$OrderText", "scanSign", "(C)Z"⟩, 8), (⟨"FuseRows", "countOf", "(I)I"⟩, 4), (⟨"FuseRows", "rowProperty", "(II)I"⟩, 4), (⟨"FuseRows", "keyProperty", "(II)I"⟩, 4), (⟨"FuseRows", "putOutcome", "(III)I"⟩, 4), (⟨"FuseRows", "heatOutcome", "(II)I"⟩, 4), (⟨"FuseRows", "valuesReadOtherwise", "(IZ)I"⟩, 4), (⟨"java/lang/Throwable", "fillInStackTrace", "(I)Ljava/lang/Throwable;"⟩, 6), (⟨"FuseRows", "carryOut", "(I)Z"⟩, 4), (⟨"FuseRows", "isRefused", "(II)Z"⟩, 4), (⟨"FuseRowsModel", "isLocked", "(I)Z"⟩, 17), (⟨"FuseRowsModel", "thrice", "(III)I"⟩, 17)]
theorem lw_r1 : ∀ q ∈ lw_privs_1, lw_okq q := List.forall_mem_cons.mpr ⟨lw_p0, List.forall_mem_cons.mpr ⟨lw_p1, List.forall_mem_cons.mpr ⟨lw_p2, List.forall_mem_cons.mpr ⟨lw_p3, List.forall_mem_cons.mpr ⟨lw_p4, List.forall_mem_cons.mpr ⟨lw_p5, List.forall_mem_cons.mpr ⟨lw_p6, List.forall_mem_cons.mpr ⟨lw_p7, List.forall_mem_cons.mpr ⟨lw_p8, List.forall_mem_cons.mpr ⟨lw_p9, List.forall_mem_cons.mpr ⟨lw_p10, List.forall_mem_cons.mpr ⟨lw_p11, List.forall_mem_cons.mpr ⟨lw_p12, List.forall_mem_cons.mpr ⟨lw_p13, List.forall_mem_cons.mpr ⟨lw_p14, List.forall_mem_cons.mpr ⟨lw_p15, fun _ h => absurd h List.not_mem_nil⟩⟩⟩⟩⟩⟩⟩⟩⟩⟩⟩⟩⟩⟩⟩⟩
theorem lw_p16 : lw_okq (⟨"FuseRowsModel", "once", "(III)I"⟩, 17) := ⟨⟨by decide +kernel, by decide +kernel⟩, List.mem_of_getElem? (i := 752) (by decide +kernel), List.mem_of_getElem? (i := 836) (by decide +kernel), List.mem_of_getElem? (i := 837) (by decide +kernel)⟩
theorem lw_p17 : lw_okq (⟨"FuseRowsModel", "strength", "(II)I"⟩, 17) := ⟨⟨by decide +kernel, by decide +kernel⟩, List.mem_of_getElem? (i := 752) (by decide +kernel), List.mem_of_getElem? (i := 840) (by decide +kernel), List.mem_of_getElem? (i := 841) (by decide +kernel)⟩
theorem lw_p18 : lw_okq (⟨"FuseRowsModel", "save", "()V"⟩, 17) := ⟨⟨by decide +kernel, by decide +kernel⟩, List.mem_of_getElem? (i := 752) (by decide +kernel), List.mem_of_getElem? (i := 844) (by decide +kernel), List.mem_of_getElem? (i := 845) (by decide +kernel)⟩
theorem lw_p19 : lw_okq (⟨"FuseRowsModel", "blowOne", "(III)V"⟩, 17) := ⟨⟨by decide +kernel, by decide +kernel⟩, List.mem_of_getElem? (i := 752) (by decide +kernel), List.mem_of_getElem? (i := 848) (by decide +kernel), List.mem_of_getElem? (i := 849) (by decide +kernel)⟩
theorem lw_p20 : lw_okq (⟨"FuseRowsModel", "whyNotPut", "(II)I"⟩, 17) := ⟨⟨by decide +kernel, by decide +kernel⟩, List.mem_of_getElem? (i := 752) (by decide +kernel), List.mem_of_getElem? (i := 856) (by decide +kernel), List.mem_of_getElem? (i := 857) (by decide +kernel)⟩
theorem lw_p21 : lw_okq (⟨"FuseRowsModel", "nextRow", "()I"⟩, 17) := ⟨⟨by decide +kernel, by decide +kernel⟩, List.mem_of_getElem? (i := 752) (by decide +kernel), List.mem_of_getElem? (i := 863) (by decide +kernel), List.mem_of_getElem? (i := 864) (by decide +kernel)⟩
theorem lw_p22 : lw_okq (⟨"FuseRowsModel", "maskNow", "(I)I"⟩, 17) := ⟨⟨by decide +kernel, by decide +kernel⟩, List.mem_of_getElem? (i := 752) (by decide +kernel), List.mem_of_getElem? (i := 867) (by decide +kernel), List.mem_of_getElem? (i := 868) (by decide +kernel)⟩
theorem lw_p23 : lw_okq (⟨"FuseRowsModel", "isThriceNow", "()Z"⟩, 17) := ⟨⟨by decide +kernel, by decide +kernel⟩, List.mem_of_getElem? (i := 752) (by decide +kernel), List.mem_of_getElem? (i := 871) (by decide +kernel), List.mem_of_getElem? (i := 872) (by decide +kernel)⟩
theorem lw_p24 : lw_okq (⟨"FuseRowsModel", "mask", "(IIZ)I"⟩, 17) := ⟨⟨by decide +kernel, by decide +kernel⟩, List.mem_of_getElem? (i := 752) (by decide +kernel), List.mem_of_getElem? (i := 875) (by decide +kernel), List.mem_of_getElem? (i := 876) (by decide +kernel)⟩
theorem lw_p25 : lw_okq (⟨"FuseRowsModel", "reads", "(IIIZ)I"⟩, 17) := ⟨⟨by decide +kernel, by decide +kernel⟩, List.mem_of_getElem? (i := 752) (by decide +kernel), List.mem_of_getElem? (i := 879) (by decide +kernel), List.mem_of_getElem? (i := 880) (by decide +kernel)⟩
theorem lw_p26 : lw_okq (⟨"FuseRowsModel", "putInto", "(III)I"⟩, 17) := ⟨⟨by decide +kernel, by decide +kernel⟩, List.mem_of_getElem? (i := 752) (by decide +kernel), List.mem_of_getElem? (i := 883) (by decide +kernel), List.mem_of_getElem? (i := 884) (by decide +kernel)⟩
theorem lw_p27 : lw_okq (⟨"FuseRowsModel", "readsAs", "(III)Z"⟩, 17) := ⟨⟨by decide +kernel, by decide +kernel⟩, List.mem_of_getElem? (i := 752) (by decide +kernel), List.mem_of_getElem? (i := 893) (by decide +kernel), List.mem_of_getElem? (i := 894) (by decide +kernel)⟩
theorem lw_p28 : lw_okq (⟨"FuseRowsModel", "markAll", "(III)I"⟩, 17) := ⟨⟨by decide +kernel, by decide +kernel⟩, List.mem_of_getElem? (i := 752) (by decide +kernel), List.mem_of_getElem? (i := 906) (by decide +kernel), List.mem_of_getElem? (i := 907) (by decide +kernel)⟩
theorem lw_p29 : lw_okq (⟨"FuseRowsModel", "whyNotChange", "(I)I"⟩, 17) := ⟨⟨by decide +kernel, by decide +kernel⟩, List.mem_of_getElem? (i := 752) (by decide +kernel), List.mem_of_getElem? (i := 918) (by decide +kernel), List.mem_of_getElem? (i := 919) (by decide +kernel)⟩
theorem lw_p30 : lw_okq (⟨"FuseRowsModel", "lockedMany", "()I"⟩, 17) := ⟨⟨by decide +kernel, by decide +kernel⟩, List.mem_of_getElem? (i := 752) (by decide +kernel), List.mem_of_getElem? (i := 922) (by decide +kernel), List.mem_of_getElem? (i := 923) (by decide +kernel)⟩
theorem lw_p31 : lw_okq (⟨"FuseRowsModel", "refreshAll", "(I)I"⟩, 17) := ⟨⟨by decide +kernel, by decide +kernel⟩, List.mem_of_getElem? (i := 752) (by decide +kernel), List.mem_of_getElem? (i := 930) (by decide +kernel), List.mem_of_getElem? (i := 931) (by decide +kernel)⟩
def lw_privs_2 : List (MethodName × Nat) := [(⟨"FuseRowsModel", "once", "(III)I"⟩, 17), (⟨"FuseRowsModel", "strength", "(II)I"⟩, 17), (⟨"FuseRowsModel", "save", "()V"⟩, 17), (⟨"FuseRowsModel", "blowOne", "(III)V"⟩, 17), (⟨"FuseRowsModel", "whyNotPut", "(II)I"⟩, 17), (⟨"FuseRowsModel", "nextRow", "()I"⟩, 17), (⟨"FuseRowsModel", "maskNow", "(I)I"⟩, 17), (⟨"FuseRowsModel", "isThriceNow", "()Z"⟩, 17), (⟨"FuseRowsModel", "mask", "(IIZ)I"⟩, 17), (⟨"FuseRowsModel", "reads", "(IIIZ)I"⟩, 17), (⟨"FuseRowsModel", "putInto", "(III)I"⟩, 17), (⟨"FuseRowsModel", "readsAs", "(III)Z"⟩, 17), (⟨"FuseRowsModel", "markAll", "(III)I"⟩, 17), (⟨"FuseRowsModel", "whyNotChange", "(I)I"⟩, 17), (⟨"FuseRowsModel", "lockedMany", "()I"⟩, 17), (⟨"FuseRowsModel", "refreshAll", "(I)I"⟩, 17)]
theorem lw_r2 : ∀ q ∈ lw_privs_2, lw_okq q := List.forall_mem_cons.mpr ⟨lw_p16, List.forall_mem_cons.mpr ⟨lw_p17, List.forall_mem_cons.mpr ⟨lw_p18, List.forall_mem_cons.mpr ⟨lw_p19, List.forall_mem_cons.mpr ⟨lw_p20, List.forall_mem_cons.mpr ⟨lw_p21, List.forall_mem_cons.mpr ⟨lw_p22, List.forall_mem_cons.mpr ⟨lw_p23, List.forall_mem_cons.mpr ⟨lw_p24, List.forall_mem_cons.mpr ⟨lw_p25, List.forall_mem_cons.mpr ⟨lw_p26, List.forall_mem_cons.mpr ⟨lw_p27, List.forall_mem_cons.mpr ⟨lw_p28, List.forall_mem_cons.mpr ⟨lw_p29, List.forall_mem_cons.mpr ⟨lw_p30, List.forall_mem_cons.mpr ⟨lw_p31, fun _ h => absurd h List.not_mem_nil⟩⟩⟩⟩⟩⟩⟩⟩⟩⟩⟩⟩⟩⟩⟩⟩
theorem lw_p32 : lw_okq (⟨"FuseRowsModel", "heatAll", "(I)I"⟩, 17) := ⟨⟨by decide +kernel, by decide +kernel⟩, List.mem_of_getElem? (i := 752) (by decide +kernel), List.mem_of_getElem? (i := 938) (by decide +kernel), List.mem_of_getElem? (i := 939) (by decide +kernel)⟩
theorem lw_p33 : lw_okq (⟨"FuseRowsModel", "readBuffer", "()V"⟩, 17) := ⟨⟨by decide +kernel, by decide +kernel⟩, List.mem_of_getElem? (i := 752) (by decide +kernel), List.mem_of_getElem? (i := 968) (by decide +kernel), List.mem_of_getElem? (i := 969) (by decide +kernel)⟩
theorem lw_p34 : lw_okq (⟨"FuseRowsModel", "order", "()V"⟩, 17) := ⟨⟨by decide +kernel, by decide +kernel⟩, List.mem_of_getElem? (i := 752) (by decide +kernel), List.mem_of_getElem? (i := 972) (by decide +kernel), List.mem_of_getElem? (i := 973) (by decide +kernel)⟩
theorem lw_p35 : lw_okq (⟨"FuseRowsModel", "kindAt", "()I"⟩, 17) := ⟨⟨by decide +kernel, by decide +kernel⟩, List.mem_of_getElem? (i := 752) (by decide +kernel), List.mem_of_getElem? (i := 976) (by decide +kernel), List.mem_of_getElem? (i := 977) (by decide +kernel)⟩
theorem lw_p36 : lw_okq (⟨"FuseRowsModel", "letter", "()I"⟩, 17) := ⟨⟨by decide +kernel, by decide +kernel⟩, List.mem_of_getElem? (i := 752) (by decide +kernel), List.mem_of_getElem? (i := 980) (by decide +kernel), List.mem_of_getElem? (i := 981) (by decide +kernel)⟩
theorem lw_p37 : lw_okq (⟨"FuseRowsModel", "word", "(I)V"⟩, 17) := ⟨⟨by decide +kernel, by decide +kernel⟩, List.mem_of_getElem? (i := 752) (by decide +kernel), List.mem_of_getElem? (i := 984) (by decide +kernel), List.mem_of_getElem? (i := 985) (by decide +kernel)⟩
theorem lw_p38 : lw_okq (⟨"FuseRowsModel", "takes", "(C)V"⟩, 17) := ⟨⟨by decide +kernel, by decide +kernel⟩, List.mem_of_getElem? (i := 752) (by decide +kernel), List.mem_of_getElem? (i := 988) (by decide +kernel), List.mem_of_getElem? (i := 989) (by decide +kernel)⟩
theorem lw_p39 : lw_okq (⟨"FuseRowsModel", "isFine", "()Z"⟩, 17) := ⟨⟨by decide +kernel, by decide +kernel⟩, List.mem_of_getElem? (i := 752) (by decide +kernel), List.mem_of_getElem? (i := 992) (by decide +kernel), List.mem_of_getElem? (i := 993) (by decide +kernel)⟩
theorem lw_p40 : lw_okq (⟨"FuseRowsModel", "number", "(II)I"⟩, 17) := ⟨⟨by decide +kernel, by decide +kernel⟩, List.mem_of_getElem? (i := 752) (by decide +kernel), List.mem_of_getElem? (i := 996) (by decide +kernel), List.mem_of_getElem? (i := 997) (by decide +kernel)⟩
theorem lw_p41 : lw_okq (⟨"FuseRowsModel", "does", "(I)Z"⟩, 17) := ⟨⟨by decide +kernel, by decide +kernel⟩, List.mem_of_getElem? (i := 752) (by decide +kernel), List.mem_of_getElem? (i := 1004) (by decide +kernel), List.mem_of_getElem? (i := 1005) (by decide +kernel)⟩
theorem lw_p42 : lw_okq (⟨"FuseRowsModel", "toldRow", "(II)I"⟩, 17) := ⟨⟨by decide +kernel, by decide +kernel⟩, List.mem_of_getElem? (i := 752) (by decide +kernel), List.mem_of_getElem? (i := 1016) (by decide +kernel), List.mem_of_getElem? (i := 1017) (by decide +kernel)⟩
theorem lw_p43 : lw_okq (⟨"FuseRowsModel", "doubtful", "(I)I"⟩, 17) := ⟨⟨by decide +kernel, by decide +kernel⟩, List.mem_of_getElem? (i := 752) (by decide +kernel), List.mem_of_getElem? (i := 1020) (by decide +kernel), List.mem_of_getElem? (i := 1021) (by decide +kernel)⟩
theorem lw_p44 : lw_okq (⟨"FuseRowsModel", "strengths", "(I)I"⟩, 17) := ⟨⟨by decide +kernel, by decide +kernel⟩, List.mem_of_getElem? (i := 752) (by decide +kernel), List.mem_of_getElem? (i := 1024) (by decide +kernel), List.mem_of_getElem? (i := 1025) (by decide +kernel)⟩
theorem lw_p45 : lw_okq (⟨"FuseRowsModel", "toldKey", "(II)I"⟩, 17) := ⟨⟨by decide +kernel, by decide +kernel⟩, List.mem_of_getElem? (i := 752) (by decide +kernel), List.mem_of_getElem? (i := 1032) (by decide +kernel), List.mem_of_getElem? (i := 1033) (by decide +kernel)⟩
theorem lw_p46 : lw_okq (⟨"FuseRowsModel", "valueNow", "(I)I"⟩, 17) := ⟨⟨by decide +kernel, by decide +kernel⟩, List.mem_of_getElem? (i := 752) (by decide +kernel), List.mem_of_getElem? (i := 1036) (by decide +kernel), List.mem_of_getElem? (i := 1037) (by decide +kernel)⟩
theorem lw_p47 : lw_okq (⟨"FuseRowsModel", "valueOf", "(IIZ)I"⟩, 17) := ⟨⟨by decide +kernel, by decide +kernel⟩, List.mem_of_getElem? (i := 752) (by decide +kernel), List.mem_of_getElem? (i := 1040) (by decide +kernel), List.mem_of_getElem? (i := 1041) (by decide +kernel)⟩
def lw_privs_3 : List (MethodName × Nat) := [(⟨"FuseRowsModel", "heatAll", "(I)I"⟩, 17), (⟨"FuseRowsModel", "readBuffer", "()V"⟩, 17), (⟨"FuseRowsModel", "order", "()V"⟩, 17), (⟨"FuseRowsModel", "kindAt", "()I"⟩, 17), (⟨"FuseRowsModel", "letter", "()I"⟩, 17), (⟨"FuseRowsModel", "word", "(I)V"⟩, 17), (⟨"FuseRowsModel", "takes", "(C)V"⟩, 17), (⟨"FuseRowsModel", "isFine", "()Z"⟩, 17), (⟨"FuseRowsModel", "number", "(II)I"⟩, 17), (⟨"FuseRowsModel", "does", "(I)Z"⟩, 17), (⟨"FuseRowsModel", "toldRow", "(II)I"⟩, 17), (⟨"FuseRowsModel", "doubtful", "(I)I"⟩, 17), (⟨"FuseRowsModel", "strengths", "(I)I"⟩, 17), (⟨"FuseRowsModel", "toldKey", "(II)I"⟩, 17), (⟨"FuseRowsModel", "valueNow", "(I)I"⟩, 17), (⟨"FuseRowsModel", "valueOf", "(IIZ)I"⟩, 17)]
theorem lw_r3 : ∀ q ∈ lw_privs_3, lw_okq q := List.forall_mem_cons.mpr ⟨lw_p32, List.forall_mem_cons.mpr ⟨lw_p33, List.forall_mem_cons.mpr ⟨lw_p34, List.forall_mem_cons.mpr ⟨lw_p35, List.forall_mem_cons.mpr ⟨lw_p36, List.forall_mem_cons.mpr ⟨lw_p37, List.forall_mem_cons.mpr ⟨lw_p38, List.forall_mem_cons.mpr ⟨lw_p39, List.forall_mem_cons.mpr ⟨lw_p40, List.forall_mem_cons.mpr ⟨lw_p41, List.forall_mem_cons.mpr ⟨lw_p42, List.forall_mem_cons.mpr ⟨lw_p43, List.forall_mem_cons.mpr ⟨lw_p44, List.forall_mem_cons.mpr ⟨lw_p45, List.forall_mem_cons.mpr ⟨lw_p46, List.forall_mem_cons.mpr ⟨lw_p47, fun _ h => absurd h List.not_mem_nil⟩⟩⟩⟩⟩⟩⟩⟩⟩⟩⟩⟩⟩⟩⟩⟩
theorem lw_p48 : lw_okq (⟨"FuseRowsModel", "rowOf", "(IIZ)I"⟩, 17) := ⟨⟨by decide +kernel, by decide +kernel⟩, List.mem_of_getElem? (i := 752) (by decide +kernel), List.mem_of_getElem? (i := 1044) (by decide +kernel), List.mem_of_getElem? (i := 1045) (by decide +kernel)⟩
theorem lw_p49 : lw_okq (⟨"FuseRowsModel", "entriesOf", "(I)I"⟩, 17) := ⟨⟨by decide +kernel, by decide +kernel⟩, List.mem_of_getElem? (i := 752) (by decide +kernel), List.mem_of_getElem? (i := 1048) (by decide +kernel), List.mem_of_getElem? (i := 1049) (by decide +kernel)⟩
theorem lw_p50 : lw_okq (⟨"FuseRowsModel", "isRowOf", "(II)Z"⟩, 17) := ⟨⟨by decide +kernel, by decide +kernel⟩, List.mem_of_getElem? (i := 752) (by decide +kernel), List.mem_of_getElem? (i := 1052) (by decide +kernel), List.mem_of_getElem? (i := 1053) (by decide +kernel)⟩
theorem lw_p51 : lw_okq (⟨"FuseRowsModel", "rowsOf", "(I)I"⟩, 17) := ⟨⟨by decide +kernel, by decide +kernel⟩, List.mem_of_getElem? (i := 752) (by decide +kernel), List.mem_of_getElem? (i := 1056) (by decide +kernel), List.mem_of_getElem? (i := 1057) (by decide +kernel)⟩
theorem lw_p52 : lw_okq (⟨"FuseRowsModel", "greatestOf", "(I)I"⟩, 17) := ⟨⟨by decide +kernel, by decide +kernel⟩, List.mem_of_getElem? (i := 752) (by decide +kernel), List.mem_of_getElem? (i := 1060) (by decide +kernel), List.mem_of_getElem? (i := 1061) (by decide +kernel)⟩
theorem lw_p53 : lw_okq (⟨"FuseRowsModel", "agreeing", "(I)I"⟩, 17) := ⟨⟨by decide +kernel, by decide +kernel⟩, List.mem_of_getElem? (i := 752) (by decide +kernel), List.mem_of_getElem? (i := 1064) (by decide +kernel), List.mem_of_getElem? (i := 1065) (by decide +kernel)⟩
theorem lw_p54 : lw_okq (⟨"FuseRowsModel", "earlier", "(II)I"⟩, 17) := ⟨⟨by decide +kernel, by decide +kernel⟩, List.mem_of_getElem? (i := 752) (by decide +kernel), List.mem_of_getElem? (i := 1072) (by decide +kernel), List.mem_of_getElem? (i := 1073) (by decide +kernel)⟩
theorem lw_p55 : lw_okq (⟨"FuseRowsModel", "counted", "(I)I"⟩, 17) := ⟨⟨by decide +kernel, by decide +kernel⟩, List.mem_of_getElem? (i := 752) (by decide +kernel), List.mem_of_getElem? (i := 1080) (by decide +kernel), List.mem_of_getElem? (i := 1081) (by decide +kernel)⟩
theorem lw_p56 : lw_okq (⟨"FuseRowsModel", "doubtfulAll", "()I"⟩, 17) := ⟨⟨by decide +kernel, by decide +kernel⟩, List.mem_of_getElem? (i := 752) (by decide +kernel), List.mem_of_getElem? (i := 1084) (by decide +kernel), List.mem_of_getElem? (i := 1085) (by decide +kernel)⟩
theorem lw_p57 : lw_okq (⟨"FuseRowsModel", "keysWithValue", "()I"⟩, 17) := ⟨⟨by decide +kernel, by decide +kernel⟩, List.mem_of_getElem? (i := 752) (by decide +kernel), List.mem_of_getElem? (i := 1088) (by decide +kernel), List.mem_of_getElem? (i := 1089) (by decide +kernel)⟩
theorem lw_p58 : lw_okq (⟨"FuseRowsModel", "rowsOfKind", "(I)I"⟩, 17) := ⟨⟨by decide +kernel, by decide +kernel⟩, List.mem_of_getElem? (i := 752) (by decide +kernel), List.mem_of_getElem? (i := 1092) (by decide +kernel), List.mem_of_getElem? (i := 1093) (by decide +kernel)⟩
theorem lw_p59 : lw_okq (⟨"FuseRowsModel", "wouldPut", "(III)I"⟩, 17) := ⟨⟨by decide +kernel, by decide +kernel⟩, List.mem_of_getElem? (i := 752) (by decide +kernel), List.mem_of_getElem? (i := 1104) (by decide +kernel), List.mem_of_getElem? (i := 1105) (by decide +kernel)⟩
theorem lw_p60 : lw_okq (⟨"FuseRowsModel", "putAside", "()V"⟩, 17) := ⟨⟨by decide +kernel, by decide +kernel⟩, List.mem_of_getElem? (i := 752) (by decide +kernel), List.mem_of_getElem? (i := 1108) (by decide +kernel), List.mem_of_getElem? (i := 1109) (by decide +kernel)⟩
theorem lw_p61 : lw_okq (⟨"FuseRowsModel", "bringBack", "()V"⟩, 17) := ⟨⟨by decide +kernel, by decide +kernel⟩, List.mem_of_getElem? (i := 752) (by decide +kernel), List.mem_of_getElem? (i := 1112) (by decide +kernel), List.mem_of_getElem? (i := 1113) (by decide +kernel)⟩
theorem lw_p62 : lw_okq (⟨"FuseRowsModel", "wouldHeat", "(II)I"⟩, 17) := ⟨⟨by decide +kernel, by decide +kernel⟩, List.mem_of_getElem? (i := 752) (by decide +kernel), List.mem_of_getElem? (i := 1120) (by decide +kernel), List.mem_of_getElem? (i := 1121) (by decide +kernel)⟩
theorem lw_p63 : lw_okq (⟨"FuseRowsModel", "layBefore", "()V"⟩, 17) := ⟨⟨by decide +kernel, by decide +kernel⟩, List.mem_of_getElem? (i := 752) (by decide +kernel), List.mem_of_getElem? (i := 1124) (by decide +kernel), List.mem_of_getElem? (i := 1125) (by decide +kernel)⟩
def lw_privs_4 : List (MethodName × Nat) := [(⟨"FuseRowsModel", "rowOf", "(IIZ)I"⟩, 17), (⟨"FuseRowsModel", "entriesOf", "(I)I"⟩, 17), (⟨"FuseRowsModel", "isRowOf", "(II)Z"⟩, 17), (⟨"FuseRowsModel", "rowsOf", "(I)I"⟩, 17), (⟨"FuseRowsModel", "greatestOf", "(I)I"⟩, 17), (⟨"FuseRowsModel", "agreeing", "(I)I"⟩, 17), (⟨"FuseRowsModel", "earlier", "(II)I"⟩, 17), (⟨"FuseRowsModel", "counted", "(I)I"⟩, 17), (⟨"FuseRowsModel", "doubtfulAll", "()I"⟩, 17), (⟨"FuseRowsModel", "keysWithValue", "()I"⟩, 17), (⟨"FuseRowsModel", "rowsOfKind", "(I)I"⟩, 17), (⟨"FuseRowsModel", "wouldPut", "(III)I"⟩, 17), (⟨"FuseRowsModel", "putAside", "()V"⟩, 17), (⟨"FuseRowsModel", "bringBack", "()V"⟩, 17), (⟨"FuseRowsModel", "wouldHeat", "(II)I"⟩, 17), (⟨"FuseRowsModel", "layBefore", "()V"⟩, 17)]
theorem lw_r4 : ∀ q ∈ lw_privs_4, lw_okq q := List.forall_mem_cons.mpr ⟨lw_p48, List.forall_mem_cons.mpr ⟨lw_p49, List.forall_mem_cons.mpr ⟨lw_p50, List.forall_mem_cons.mpr ⟨lw_p51, List.forall_mem_cons.mpr ⟨lw_p52, List.forall_mem_cons.mpr ⟨lw_p53, List.forall_mem_cons.mpr ⟨lw_p54, List.forall_mem_cons.mpr ⟨lw_p55, List.forall_mem_cons.mpr ⟨lw_p56, List.forall_mem_cons.mpr ⟨lw_p57, List.forall_mem_cons.mpr ⟨lw_p58, List.forall_mem_cons.mpr ⟨lw_p59, List.forall_mem_cons.mpr ⟨lw_p60, List.forall_mem_cons.mpr ⟨lw_p61, List.forall_mem_cons.mpr ⟨lw_p62, List.forall_mem_cons.mpr ⟨lw_p63, fun _ h => absurd h List.not_mem_nil⟩⟩⟩⟩⟩⟩⟩⟩⟩⟩⟩⟩⟩⟩⟩⟩
theorem lw_p64 : lw_okq (⟨"FuseRowsModel", "wouldRead", "(IZ)I"⟩, 17) := ⟨⟨by decide +kernel, by decide +kernel⟩, List.mem_of_getElem? (i := 752) (by decide +kernel), List.mem_of_getElem? (i := 1132) (by decide +kernel), List.mem_of_getElem? (i := 1133) (by decide +kernel)⟩
theorem lw_p65 : lw_okq (⟨"FuseRowsModel", "worstNow", "()I"⟩, 17) := ⟨⟨by decide +kernel, by decide +kernel⟩, List.mem_of_getElem? (i := 752) (by decide +kernel), List.mem_of_getElem? (i := 1140) (by decide +kernel), List.mem_of_getElem? (i := 1141) (by decide +kernel)⟩
theorem lw_p66 : lw_okq (⟨"FuseRowsModel", "share", "()D"⟩, 17) := ⟨⟨by decide +kernel, by decide +kernel⟩, List.mem_of_getElem? (i := 752) (by decide +kernel), List.mem_of_getElem? (i := 1148) (by decide +kernel), List.mem_of_getElem? (i := 1149) (by decide +kernel)⟩
theorem lw_p67 : lw_okq (⟨"FuseRowsModel", "mix", "(J)V"⟩, 17) := ⟨⟨by decide +kernel, by decide +kernel⟩, List.mem_of_getElem? (i := 752) (by decide +kernel), List.mem_of_getElem? (i := 1157) (by decide +kernel), List.mem_of_getElem? (i := 1158) (by decide +kernel)⟩
theorem lw_p68 : lw_okq (⟨"FuseRowsModel", "mixRow", "(I)V"⟩, 17) := ⟨⟨by decide +kernel, by decide +kernel⟩, List.mem_of_getElem? (i := 752) (by decide +kernel), List.mem_of_getElem? (i := 1162) (by decide +kernel), List.mem_of_getElem? (i := 1163) (by decide +kernel)⟩
theorem lw_p69 : lw_okq (⟨"FuseRowsModel", "mixKey", "(I)V"⟩, 17) := ⟨⟨by decide +kernel, by decide +kernel⟩, List.mem_of_getElem? (i := 752) (by decide +kernel), List.mem_of_getElem? (i := 1166) (by decide +kernel), List.mem_of_getElem? (i := 1167) (by decide +kernel)⟩
def lw_privs_5 : List (MethodName × Nat) := [(⟨"FuseRowsModel", "wouldRead", "(IZ)I"⟩, 17), (⟨"FuseRowsModel", "worstNow", "()I"⟩, 17), (⟨"FuseRowsModel", "share", "()D"⟩, 17), (⟨"FuseRowsModel", "mix", "(J)V"⟩, 17), (⟨"FuseRowsModel", "mixRow", "(I)V"⟩, 17), (⟨"FuseRowsModel", "mixKey", "(I)V"⟩, 17)]
theorem lw_r5 : ∀ q ∈ lw_privs_5, lw_okq q := List.forall_mem_cons.mpr ⟨lw_p64, List.forall_mem_cons.mpr ⟨lw_p65, List.forall_mem_cons.mpr ⟨lw_p66, List.forall_mem_cons.mpr ⟨lw_p67, List.forall_mem_cons.mpr ⟨lw_p68, List.forall_mem_cons.mpr ⟨lw_p69, fun _ h => absurd h List.not_mem_nil⟩⟩⟩⟩⟩⟩
def lw_privs : List (MethodName × Nat) := lw_privs_1 ++ (lw_privs_2 ++ (lw_privs_3 ++ (lw_privs_4 ++ (lw_privs_5))))
def lw_tbl : List Cond := k2_sels lw_privs ++ tables_1
theorem lw_privs_ok : ∀ q ∈ lw_privs, lw_okq q := by
  show ∀ q ∈ lw_privs_1 ++ (lw_privs_2 ++ (lw_privs_3 ++ (lw_privs_4 ++ (lw_privs_5)))), lw_okq q
  exact List.forall_mem_append.mpr ⟨lw_r1, List.forall_mem_append.mpr ⟨lw_r2, List.forall_mem_append.mpr ⟨lw_r3, List.forall_mem_append.mpr ⟨lw_r4, lw_r5⟩⟩⟩⟩
/-- the streams that the claim lets the run draw from -/
abbrev lw_cs : List Choice := [Jvm.Choice.named "NaN.bits"]
theorem lw_bits : nanBits ∈ lw_cs := by first | decide | exact List.mem_cons_self | simp [lw_cs, nanBits]

def RX0 : String := "FuseRows$Mask"
def TX0 : u_T := fun k => match k with
  | _ => ("", "", "", false)
def tyX0 : Nat → FieldType := fun k => match k with
  | _ => .int
abbrev wsX00 : List Cond := u_ws RX0 TX0 0
theorem nmX0 : ∀ a, a < 0 → ∀ b, b < 0 → a ≠ b → (TX0 a).2.1 ≠ (TX0 b).2.1 := by decide +kernel
theorem tyX0_ok : ∀ k, k < 0 → parseFieldDescriptor (TX0 k).2.2.1 = some (tyX0 k) := by decide +kernel
abbrev cX0_keyOf : ByteArray := prog_2_method_2_code
def yX0_keyOf : MethodName := ⟨RX0, "keyOf", "(I)I"⟩
abbrev cX0_valueOf : ByteArray := prog_2_method_3_code
def yX0_valueOf : MethodName := ⟨RX0, "valueOf", "(I)I"⟩
abbrev cX0_checkOf : ByteArray := prog_2_method_4_code
def yX0_checkOf : MethodName := ⟨RX0, "checkOf", "(I)I"⟩
abbrev cX0_zerosOf : ByteArray := prog_2_method_5_code
def yX0_zerosOf : MethodName := ⟨RX0, "zerosOf", "(I)I"⟩
abbrev cX0_kindOf : ByteArray := prog_2_method_6_code
def yX0_kindOf : MethodName := ⟨RX0, "kindOf", "(I)I"⟩
abbrev cX0_ofEntry : ByteArray := prog_2_method_7_code
def yX0_ofEntry : MethodName := ⟨RX0, "ofEntry", "(II)I"⟩
def RX1 : String := "FuseRows$OrderText"
def TX1 : u_T := fun k => match k with
  | 0 => ("FuseRows$OrderText", "signs", "[C", true)
  | 1 => ("FuseRows$OrderText", "length", "I", false)
  | 2 => ("FuseRows$OrderText", "position", "I", false)
  | 3 => ("FuseRows$OrderText", "complete", "Z", false)
  | 4 => ("FuseRows$OrderText", "orders", "I", false)
  | 5 => ("FuseRows$OrderText", "kinds", "[I", true)
  | 6 => ("FuseRows$OrderText", "numbers", "[I", true)
  | _ => ("FuseRows$OrderText", "values", "[I", true)
def tyX1 : Nat → FieldType := fun k => match k with
  | 0 => .array .char
  | 1 => .int
  | 2 => .int
  | 3 => .boolean
  | 4 => .int
  | 5 => .array .int
  | 6 => .array .int
  | _ => .array .int
abbrev wsX10 : List Cond := u_ws RX1 TX1 8
theorem nmX1 : ∀ a, a < 8 → ∀ b, b < 8 → a ≠ b → (TX1 a).2.1 ≠ (TX1 b).2.1 := by decide +kernel
theorem tyX1_ok : ∀ k, k < 8 → parseFieldDescriptor (TX1 k).2.2.1 = some (tyX1 k) := by decide +kernel
abbrev cX1_init : ByteArray := prog_3_method_1_code
def yX1_init : MethodName := ⟨RX1, "<init>", "()V"⟩
abbrev cX1_isFull : ByteArray := prog_3_method_2_code
def yX1_isFull : MethodName := ⟨RX1, "isFull", "()Z"⟩
abbrev cX1_add : ByteArray := prog_3_method_3_code
def yX1_add : MethodName := ⟨RX1, "add", "(C)V"⟩
abbrev cX1_empty : ByteArray := prog_3_method_4_code
def yX1_empty : MethodName := ⟨RX1, "empty", "()V"⟩
abbrev cX1_scan : ByteArray := prog_3_method_5_code
def yX1_scan : MethodName := ⟨RX1, "scan", "()V"⟩
abbrev cX1_scanOrder : ByteArray := prog_3_method_6_code
def yX1_scanOrder : MethodName := ⟨RX1, "scanOrder", "()Z"⟩
abbrev cX1_scanWord : ByteArray := prog_3_method_7_code
def yX1_scanWord : MethodName := ⟨RX1, "scanWord", "()I"⟩
abbrev cX1_sameSigns : ByteArray := prog_3_method_8_code
def yX1_sameSigns : MethodName := ⟨RX1, "sameSigns", "(Ljava/lang/String;)I"⟩
abbrev cX1_wordOf : ByteArray := prog_3_method_9_code
def yX1_wordOf : MethodName := ⟨RX1, "wordOf", "(I)Ljava/lang/String;"⟩
abbrev cX1_scanSign : ByteArray := prog_3_method_10_code
def yX1_scanSign : MethodName := ⟨RX1, "scanSign", "(C)Z"⟩
abbrev cX1_scanNumber : ByteArray := prog_3_method_11_code
def yX1_scanNumber : MethodName := ⟨RX1, "scanNumber", "(II)I"⟩
def RX2 : String := "FuseRows$SavedStates"
def TX2 : u_T := fun k => match k with
  | 0 => ("FuseRows$SavedStates", "ring", "[LFuseRows$State;", true)
  | 1 => ("FuseRows$SavedStates", "oldest", "I", false)
  | _ => ("FuseRows$SavedStates", "count", "I", false)
def tyX2 : Nat → FieldType := fun k => match k with
  | 0 => .array (.object "FuseRows$State")
  | 1 => .int
  | _ => .int
abbrev wsX20 : List Cond := u_ws RX2 TX2 3
theorem nmX2 : ∀ a, a < 3 → ∀ b, b < 3 → a ≠ b → (TX2 a).2.1 ≠ (TX2 b).2.1 := by decide +kernel
theorem tyX2_ok : ∀ k, k < 3 → parseFieldDescriptor (TX2 k).2.2.1 = some (tyX2 k) := by decide +kernel
abbrev cX2_init : ByteArray := prog_4_method_1_code
def yX2_init : MethodName := ⟨RX2, "<init>", "()V"⟩
abbrev cX2_save : ByteArray := prog_4_method_2_code
def yX2_save : MethodName := ⟨RX2, "save", "(LFuseRows$State;)V"⟩
abbrev cX2_restore : ByteArray := prog_4_method_3_code
def yX2_restore : MethodName := ⟨RX2, "restore", "(LFuseRows$State;)V"⟩
def RX3 : String := "FuseRows$State"
def TX3 : u_T := fun k => match k with
  | 0 => ("FuseRows$State", "ones", "[I", true)
  | 1 => ("FuseRows$State", "twos", "[I", true)
  | 2 => ("FuseRows$State", "settings", "[I", true)
  | 3 => ("FuseRows$State", "tick", "I", false)
  | 4 => ("FuseRows$State", "energy", "I", false)
  | _ => ("FuseRows$State", "valuesPut", "I", false)
def tyX3 : Nat → FieldType := fun k => match k with
  | 0 => .array .int
  | 1 => .array .int
  | 2 => .array .int
  | 3 => .int
  | 4 => .int
  | _ => .int
abbrev wsX30 : List Cond := u_ws RX3 TX3 6
theorem nmX3 : ∀ a, a < 6 → ∀ b, b < 6 → a ≠ b → (TX3 a).2.1 ≠ (TX3 b).2.1 := by decide +kernel
theorem tyX3_ok : ∀ k, k < 6 → parseFieldDescriptor (TX3 k).2.2.1 = some (tyX3 k) := by decide +kernel
abbrev cX3_init : ByteArray := prog_5_method_1_code
def yX3_init : MethodName := ⟨RX3, "<init>", "()V"⟩
abbrev cX3_copyFrom : ByteArray := prog_5_method_2_code
def yX3_copyFrom : MethodName := ⟨RX3, "copyFrom", "(LFuseRows$State;)V"⟩
abbrev cX3_strength : ByteArray := prog_5_method_3_code
def yX3_strength : MethodName := ⟨RX3, "strength", "(II)I"⟩
abbrev cX3_readAt : ByteArray := prog_5_method_4_code
def yX3_readAt : MethodName := ⟨RX3, "readAt", "(IIZ)I"⟩
abbrev cX3_readsThrice : ByteArray := prog_5_method_5_code
def yX3_readsThrice : MethodName := ⟨RX3, "readsThrice", "()Z"⟩
abbrev cX3_read : ByteArray := prog_5_method_6_code
def yX3_read : MethodName := ⟨RX3, "read", "(I)I"⟩
abbrev cX3_kind : ByteArray := prog_5_method_7_code
def yX3_kind : MethodName := ⟨RX3, "kind", "(I)I"⟩
abbrev cX3_isLocked : ByteArray := prog_5_method_8_code
def yX3_isLocked : MethodName := ⟨RX3, "isLocked", "(I)Z"⟩
abbrev cX3_doubtfulFuses : ByteArray := prog_5_method_9_code
def yX3_doubtfulFuses : MethodName := ⟨RX3, "doubtfulFuses", "(I)I"⟩
abbrev cX3_strengthSum : ByteArray := prog_5_method_10_code
def yX3_strengthSum : MethodName := ⟨RX3, "strengthSum", "(I)I"⟩
abbrev cX3_allDoubtfulFuses : ByteArray := prog_5_method_11_code
def yX3_allDoubtfulFuses : MethodName := ⟨RX3, "allDoubtfulFuses", "()I"⟩
abbrev cX3_lockedRows : ByteArray := prog_5_method_12_code
def yX3_lockedRows : MethodName := ⟨RX3, "lockedRows", "()I"⟩
abbrev cX3_rowsOfKind : ByteArray := prog_5_method_13_code
def yX3_rowsOfKind : MethodName := ⟨RX3, "rowsOfKind", "(I)I"⟩
abbrev cX3_nextRow : ByteArray := prog_5_method_14_code
def yX3_nextRow : MethodName := ⟨RX3, "nextRow", "()I"⟩
abbrev cX3_isRowOf : ByteArray := prog_5_method_15_code
def yX3_isRowOf : MethodName := ⟨RX3, "isRowOf", "(II)Z"⟩
abbrev cX3_entryRow : ByteArray := prog_5_method_16_code
def yX3_entryRow : MethodName := ⟨RX3, "entryRow", "(IIZ)I"⟩
abbrev cX3_valueAt : ByteArray := prog_5_method_17_code
def yX3_valueAt : MethodName := ⟨RX3, "valueAt", "(IIZ)I"⟩
abbrev cX3_valueOfKey : ByteArray := prog_5_method_18_code
def yX3_valueOfKey : MethodName := ⟨RX3, "valueOfKey", "(I)I"⟩
abbrev cX3_keysWithValue : ByteArray := prog_5_method_19_code
def yX3_keysWithValue : MethodName := ⟨RX3, "keysWithValue", "()I"⟩
abbrev cX3_entriesOf : ByteArray := prog_5_method_20_code
def yX3_entriesOf : MethodName := ⟨RX3, "entriesOf", "(I)I"⟩
abbrev cX3_rowsOf : ByteArray := prog_5_method_21_code
def yX3_rowsOf : MethodName := ⟨RX3, "rowsOf", "(I)I"⟩
abbrev cX3_greatestValue : ByteArray := prog_5_method_22_code
def yX3_greatestValue : MethodName := ⟨RX3, "greatestValue", "(I)I"⟩
abbrev cX3_earlierValue : ByteArray := prog_5_method_23_code
def yX3_earlierValue : MethodName := ⟨RX3, "earlierValue", "(II)I"⟩
abbrev cX3_steadyReadings : ByteArray := prog_5_method_24_code
def yX3_steadyReadings : MethodName := ⟨RX3, "steadyReadings", "(I)I"⟩
abbrev cX3_blowFuse : ByteArray := prog_5_method_25_code
def yX3_blowFuse : MethodName := ⟨RX3, "blowFuse", "(III)V"⟩
abbrev cX3_blowFuses : ByteArray := prog_5_method_26_code
def yX3_blowFuses : MethodName := ⟨RX3, "blowFuses", "(III)V"⟩
abbrev cX3_strengthenFuses : ByteArray := prog_5_method_27_code
def yX3_strengthenFuses : MethodName := ⟨RX3, "strengthenFuses", "(II)V"⟩
abbrev cX3_putNext : ByteArray := prog_5_method_28_code
def yX3_putNext : MethodName := ⟨RX3, "putNext", "(II)I"⟩
abbrev cX3_writeEntry : ByteArray := prog_5_method_29_code
def yX3_writeEntry : MethodName := ⟨RX3, "writeEntry", "(III)I"⟩
abbrev cX3_tellsEntry : ByteArray := prog_5_method_30_code
def yX3_tellsEntry : MethodName := ⟨RX3, "tellsEntry", "(III)Z"⟩
abbrev cX3_markEarlier : ByteArray := prog_5_method_31_code
def yX3_markEarlier : MethodName := ⟨RX3, "markEarlier", "(II)I"⟩
abbrev cX3_markEntries : ByteArray := prog_5_method_32_code
def yX3_markEntries : MethodName := ⟨RX3, "markEntries", "(III)I"⟩
abbrev cX3_refreshRow : ByteArray := prog_5_method_33_code
def yX3_refreshRow : MethodName := ⟨RX3, "refreshRow", "(I)I"⟩
abbrev cX3_heatRows : ByteArray := prog_5_method_34_code
def yX3_heatRows : MethodName := ⟨RX3, "heatRows", "(I)I"⟩
def RX4 : String := "FuseRows"
def TX4 : u_T := fun k => match k with
  | 0 => ("FuseRows", "now", "LFuseRows$State;", true)
  | 1 => ("FuseRows", "trial", "LFuseRows$State;", true)
  | 2 => ("FuseRows", "saved", "LFuseRows$SavedStates;", true)
  | _ => ("FuseRows", "text", "LFuseRows$OrderText;", true)
def tyX4 : Nat → FieldType := fun k => match k with
  | 0 => .object "FuseRows$State"
  | 1 => .object "FuseRows$State"
  | 2 => .object "FuseRows$SavedStates"
  | _ => .object "FuseRows$OrderText"
abbrev wsX40 : List Cond := u_ws RX4 TX4 4
theorem nmX4 : ∀ a, a < 4 → ∀ b, b < 4 → a ≠ b → (TX4 a).2.1 ≠ (TX4 b).2.1 := by decide +kernel
theorem tyX4_ok : ∀ k, k < 4 → parseFieldDescriptor (TX4 k).2.2.1 = some (tyX4 k) := by decide +kernel
abbrev cX4_init : ByteArray := prog_1_method_1_code
def yX4_init : MethodName := ⟨RX4, "<init>", "()V"⟩
abbrev cX4_blow : ByteArray := prog_1_method_2_code
def yX4_blow : MethodName := ⟨RX4, "blow", "(III)I"⟩
abbrev cX4_put : ByteArray := prog_1_method_3_code
def yX4_put : MethodName := ⟨RX4, "put", "(II)I"⟩
abbrev cX4_drop : ByteArray := prog_1_method_4_code
def yX4_drop : MethodName := ⟨RX4, "drop", "(I)I"⟩
abbrev cX4_lock : ByteArray := prog_1_method_5_code
def yX4_lock : MethodName := ⟨RX4, "lock", "(I)I"⟩
abbrev cX4_refresh : ByteArray := prog_1_method_6_code
def yX4_refresh : MethodName := ⟨RX4, "refresh", "(I)I"⟩
abbrev cX4_heat : ByteArray := prog_1_method_7_code
def yX4_heat : MethodName := ⟨RX4, "heat", "(I)I"⟩
abbrev cX4_pass : ByteArray := prog_1_method_8_code
def yX4_pass : MethodName := ⟨RX4, "pass", "(I)I"⟩
abbrev cX4_set : ByteArray := prog_1_method_9_code
def yX4_set : MethodName := ⟨RX4, "set", "(II)I"⟩
abbrev cX4_append : ByteArray := prog_1_method_10_code
def yX4_append : MethodName := ⟨RX4, "append", "(I)I"⟩
abbrev cX4_clearBuffer : ByteArray := prog_1_method_11_code
def yX4_clearBuffer : MethodName := ⟨RX4, "clearBuffer", "()I"⟩
abbrev cX4_firstError : ByteArray := prog_1_method_12_code
def yX4_firstError : MethodName := ⟨RX4, "firstError", "()I"⟩
abbrev cX4_run : ByteArray := prog_1_method_13_code
def yX4_run : MethodName := ⟨RX4, "run", "()I"⟩
abbrev cX4_undo : ByteArray := prog_1_method_14_code
def yX4_undo : MethodName := ⟨RX4, "undo", "()I"⟩
abbrev cX4_fuse : ByteArray := prog_1_method_15_code
def yX4_fuse : MethodName := ⟨RX4, "fuse", "(III)I"⟩
abbrev cX4_row : ByteArray := prog_1_method_16_code
def yX4_row : MethodName := ⟨RX4, "row", "(II)I"⟩
abbrev cX4_key : ByteArray := prog_1_method_17_code
def yX4_key : MethodName := ⟨RX4, "key", "(II)I"⟩
abbrev cX4_history : ByteArray := prog_1_method_18_code
def yX4_history : MethodName := ⟨RX4, "history", "(II)I"⟩
abbrev cX4_count : ByteArray := prog_1_method_19_code
def yX4_count : MethodName := ⟨RX4, "count", "(I)I"⟩
abbrev cX4_setting : ByteArray := prog_1_method_20_code
def yX4_setting : MethodName := ⟨RX4, "setting", "(I)I"⟩
abbrev cX4_ifPut : ByteArray := prog_1_method_21_code
def yX4_ifPut : MethodName := ⟨RX4, "ifPut", "(III)I"⟩
abbrev cX4_ifHeated : ByteArray := prog_1_method_22_code
def yX4_ifHeated : MethodName := ⟨RX4, "ifHeated", "(II)I"⟩
abbrev cX4_ifRead : ByteArray := prog_1_method_23_code
def yX4_ifRead : MethodName := ⟨RX4, "ifRead", "(IZ)I"⟩
abbrev cX4_worst : ByteArray := prog_1_method_24_code
def yX4_worst : MethodName := ⟨RX4, "worst", "()I"⟩
abbrev cX4_sureShare : ByteArray := prog_1_method_25_code
def yX4_sureShare : MethodName := ⟨RX4, "sureShare", "()D"⟩
abbrev cX4_digest : ByteArray := prog_1_method_26_code
def yX4_digest : MethodName := ⟨RX4, "digest", "()J"⟩
abbrev cX4_isIndex : ByteArray := prog_1_method_27_code
def yX4_isIndex : MethodName := ⟨RX4, "isIndex", "(II)Z"⟩
abbrev cX4_isWithin : ByteArray := prog_1_method_28_code
def yX4_isWithin : MethodName := ⟨RX4, "isWithin", "(III)Z"⟩
abbrev cX4_requireIndex : ByteArray := prog_1_method_29_code
def yX4_requireIndex : MethodName := ⟨RX4, "requireIndex", "(Z)V"⟩
abbrev cX4_requireArgument : ByteArray := prog_1_method_30_code
def yX4_requireArgument : MethodName := ⟨RX4, "requireArgument", "(Z)V"⟩
abbrev cX4_requireState : ByteArray := prog_1_method_31_code
def yX4_requireState : MethodName := ⟨RX4, "requireState", "(Z)V"⟩
abbrev cX4_carryOut : ByteArray := prog_1_method_32_code
def yX4_carryOut : MethodName := ⟨RX4, "carryOut", "(I)Z"⟩
abbrev cX4_isRefused : ByteArray := prog_1_method_33_code
def yX4_isRefused : MethodName := ⟨RX4, "isRefused", "(II)Z"⟩
abbrev cX4_rowProperty : ByteArray := prog_1_method_34_code
def yX4_rowProperty : MethodName := ⟨RX4, "rowProperty", "(II)I"⟩
abbrev cX4_keyProperty : ByteArray := prog_1_method_35_code
def yX4_keyProperty : MethodName := ⟨RX4, "keyProperty", "(II)I"⟩
abbrev cX4_countOf : ByteArray := prog_1_method_36_code
def yX4_countOf : MethodName := ⟨RX4, "countOf", "(I)I"⟩
abbrev cX4_putOutcome : ByteArray := prog_1_method_37_code
def yX4_putOutcome : MethodName := ⟨RX4, "putOutcome", "(III)I"⟩
abbrev cX4_heatOutcome : ByteArray := prog_1_method_38_code
def yX4_heatOutcome : MethodName := ⟨RX4, "heatOutcome", "(II)I"⟩
abbrev cX4_valuesReadOtherwise : ByteArray := prog_1_method_39_code
def yX4_valuesReadOtherwise : MethodName := ⟨RX4, "valuesReadOtherwise", "(IZ)I"⟩
abbrev cX4_bitsOfShare : ByteArray := prog_1_method_40_code
def yX4_bitsOfShare : MethodName := ⟨RX4, "bitsOfShare", "(D)J"⟩
def RX5 : String := "FuseRowsModel"
def TX5 : u_T := fun k => match k with
  | 0 => ("FuseRowsModel", "thrown", "I", false)
  | 1 => ("FuseRowsModel", "z", "[I", true)
  | 2 => ("FuseRowsModel", "saved", "[I", true)
  | 3 => ("FuseRowsModel", "savedMany", "I", false)
  | 4 => ("FuseRowsModel", "spare", "[I", true)
  | 5 => ("FuseRowsModel", "buffer", "[I", true)
  | 6 => ("FuseRowsModel", "typed", "I", false)
  | 7 => ("FuseRowsModel", "marksBlown", "I", false)
  | 8 => ("FuseRowsModel", "rests", "[C", true)
  | 9 => ("FuseRowsModel", "begins", "[I", true)
  | 10 => ("FuseRowsModel", "orders", "[I", true)
  | 11 => ("FuseRowsModel", "orderMany", "I", false)
  | 12 => ("FuseRowsModel", "spot", "I", false)
  | 13 => ("FuseRowsModel", "wrong", "I", false)
  | 14 => ("FuseRowsModel", "isShort", "Z", false)
  | 15 => ("FuseRowsModel", "before", "[I", true)
  | _ => ("FuseRowsModel", "hash", "J", false)
def tyX5 : Nat → FieldType := fun k => match k with
  | 0 => .int
  | 1 => .array .int
  | 2 => .array .int
  | 3 => .int
  | 4 => .array .int
  | 5 => .array .int
  | 6 => .int
  | 7 => .int
  | 8 => .array .char
  | 9 => .array .int
  | 10 => .array .int
  | 11 => .int
  | 12 => .int
  | 13 => .int
  | 14 => .boolean
  | 15 => .array .int
  | _ => .long
abbrev wsX50 : List Cond := u_ws RX5 TX5 17
theorem nmX5 : ∀ a, a < 17 → ∀ b, b < 17 → a ≠ b → (TX5 a).2.1 ≠ (TX5 b).2.1 := by decide +kernel
theorem tyX5_ok : ∀ k, k < 17 → parseFieldDescriptor (TX5 k).2.2.1 = some (tyX5 k) := by decide +kernel
abbrev cX5_init : ByteArray := prog_7_method_1_code
def yX5_init : MethodName := ⟨RX5, "<init>", "()V"⟩
abbrev cX5_thrown : ByteArray := prog_7_method_2_code
def yX5_thrown : MethodName := ⟨RX5, "thrown", "()I"⟩
abbrev cX5_in : ByteArray := prog_7_method_3_code
def yX5_in : MethodName := ⟨RX5, "in", "(III)Z"⟩
abbrev cX5_isRow : ByteArray := prog_7_method_4_code
def yX5_isRow : MethodName := ⟨RX5, "isRow", "(I)Z"⟩
abbrev cX5_isKey : ByteArray := prog_7_method_5_code
def yX5_isKey : MethodName := ⟨RX5, "isKey", "(I)Z"⟩
abbrev cX5_save : ByteArray := prog_7_method_6_code
def yX5_save : MethodName := ⟨RX5, "save", "()V"⟩
abbrev cX5_undo : ByteArray := prog_7_method_7_code
def yX5_undo : MethodName := ⟨RX5, "undo", "()I"⟩
abbrev cX5_putAside : ByteArray := prog_7_method_8_code
def yX5_putAside : MethodName := ⟨RX5, "putAside", "()V"⟩
abbrev cX5_bringBack : ByteArray := prog_7_method_9_code
def yX5_bringBack : MethodName := ⟨RX5, "bringBack", "()V"⟩
abbrev cX5_strength : ByteArray := prog_7_method_10_code
def yX5_strength : MethodName := ⟨RX5, "strength", "(II)I"⟩
abbrev cX5_once : ByteArray := prog_7_method_11_code
def yX5_once : MethodName := ⟨RX5, "once", "(III)I"⟩
abbrev cX5_thrice : ByteArray := prog_7_method_12_code
def yX5_thrice : MethodName := ⟨RX5, "thrice", "(III)I"⟩
abbrev cX5_reads : ByteArray := prog_7_method_13_code
def yX5_reads : MethodName := ⟨RX5, "reads", "(IIIZ)I"⟩
abbrev cX5_mask : ByteArray := prog_7_method_14_code
def yX5_mask : MethodName := ⟨RX5, "mask", "(IIZ)I"⟩
abbrev cX5_isThriceNow : ByteArray := prog_7_method_15_code
def yX5_isThriceNow : MethodName := ⟨RX5, "isThriceNow", "()Z"⟩
abbrev cX5_maskNow : ByteArray := prog_7_method_16_code
def yX5_maskNow : MethodName := ⟨RX5, "maskNow", "(I)I"⟩
abbrev cX5_bits : ByteArray := prog_7_method_17_code
def yX5_bits : MethodName := ⟨RX5, "bits", "(I)I"⟩
abbrev cX5_keyIn : ByteArray := prog_7_method_18_code
def yX5_keyIn : MethodName := ⟨RX5, "keyIn", "(I)I"⟩
abbrev cX5_valueIn : ByteArray := prog_7_method_19_code
def yX5_valueIn : MethodName := ⟨RX5, "valueIn", "(I)I"⟩
abbrev cX5_zerosIn : ByteArray := prog_7_method_20_code
def yX5_zerosIn : MethodName := ⟨RX5, "zerosIn", "(I)I"⟩
abbrev cX5_kindOf : ByteArray := prog_7_method_21_code
def yX5_kindOf : MethodName := ⟨RX5, "kindOf", "(I)I"⟩
abbrev cX5_isLocked : ByteArray := prog_7_method_22_code
def yX5_isLocked : MethodName := ⟨RX5, "isLocked", "(I)Z"⟩
abbrev cX5_rowOf : ByteArray := prog_7_method_23_code
def yX5_rowOf : MethodName := ⟨RX5, "rowOf", "(IIZ)I"⟩
abbrev cX5_valueOf : ByteArray := prog_7_method_24_code
def yX5_valueOf : MethodName := ⟨RX5, "valueOf", "(IIZ)I"⟩
abbrev cX5_valueNow : ByteArray := prog_7_method_25_code
def yX5_valueNow : MethodName := ⟨RX5, "valueNow", "(I)I"⟩
abbrev cX5_blowOne : ByteArray := prog_7_method_26_code
def yX5_blowOne : MethodName := ⟨RX5, "blowOne", "(III)V"⟩
abbrev cX5_blow : ByteArray := prog_7_method_27_code
def yX5_blow : MethodName := ⟨RX5, "blow", "(III)I"⟩
abbrev cX5_nextRow : ByteArray := prog_7_method_28_code
def yX5_nextRow : MethodName := ⟨RX5, "nextRow", "()I"⟩
abbrev cX5_markAll : ByteArray := prog_7_method_29_code
def yX5_markAll : MethodName := ⟨RX5, "markAll", "(III)I"⟩
abbrev cX5_readsAs : ByteArray := prog_7_method_30_code
def yX5_readsAs : MethodName := ⟨RX5, "readsAs", "(III)Z"⟩
abbrev cX5_putInto : ByteArray := prog_7_method_31_code
def yX5_putInto : MethodName := ⟨RX5, "putInto", "(III)I"⟩
abbrev cX5_whyNotPut : ByteArray := prog_7_method_32_code
def yX5_whyNotPut : MethodName := ⟨RX5, "whyNotPut", "(II)I"⟩
abbrev cX5_put : ByteArray := prog_7_method_33_code
def yX5_put : MethodName := ⟨RX5, "put", "(II)I"⟩
abbrev cX5_drop : ByteArray := prog_7_method_34_code
def yX5_drop : MethodName := ⟨RX5, "drop", "(I)I"⟩
abbrev cX5_lockedMany : ByteArray := prog_7_method_35_code
def yX5_lockedMany : MethodName := ⟨RX5, "lockedMany", "()I"⟩
abbrev cX5_whyNotChange : ByteArray := prog_7_method_36_code
def yX5_whyNotChange : MethodName := ⟨RX5, "whyNotChange", "(I)I"⟩
abbrev cX5_lock : ByteArray := prog_7_method_37_code
def yX5_lock : MethodName := ⟨RX5, "lock", "(I)I"⟩
abbrev cX5_refreshAll : ByteArray := prog_7_method_38_code
def yX5_refreshAll : MethodName := ⟨RX5, "refreshAll", "(I)I"⟩
abbrev cX5_refresh : ByteArray := prog_7_method_39_code
def yX5_refresh : MethodName := ⟨RX5, "refresh", "(I)I"⟩
abbrev cX5_heatAll : ByteArray := prog_7_method_40_code
def yX5_heatAll : MethodName := ⟨RX5, "heatAll", "(I)I"⟩
abbrev cX5_heat : ByteArray := prog_7_method_41_code
def yX5_heat : MethodName := ⟨RX5, "heat", "(I)I"⟩
abbrev cX5_pass : ByteArray := prog_7_method_42_code
def yX5_pass : MethodName := ⟨RX5, "pass", "(I)I"⟩
abbrev cX5_leastOf : ByteArray := prog_7_method_43_code
def yX5_leastOf : MethodName := ⟨RX5, "leastOf", "(I)I"⟩
abbrev cX5_mostOf : ByteArray := prog_7_method_44_code
def yX5_mostOf : MethodName := ⟨RX5, "mostOf", "(I)I"⟩
abbrev cX5_set : ByteArray := prog_7_method_45_code
def yX5_set : MethodName := ⟨RX5, "set", "(II)I"⟩
abbrev cX5_append : ByteArray := prog_7_method_46_code
def yX5_append : MethodName := ⟨RX5, "append", "(I)I"⟩
abbrev cX5_clearBuffer : ByteArray := prog_7_method_47_code
def yX5_clearBuffer : MethodName := ⟨RX5, "clearBuffer", "()I"⟩
abbrev cX5_letter : ByteArray := prog_7_method_48_code
def yX5_letter : MethodName := ⟨RX5, "letter", "()I"⟩
abbrev cX5_isFine : ByteArray := prog_7_method_49_code
def yX5_isFine : MethodName := ⟨RX5, "isFine", "()Z"⟩
abbrev cX5_takes : ByteArray := prog_7_method_50_code
def yX5_takes : MethodName := ⟨RX5, "takes", "(C)V"⟩
abbrev cX5_word : ByteArray := prog_7_method_51_code
def yX5_word : MethodName := ⟨RX5, "word", "(I)V"⟩
abbrev cX5_number : ByteArray := prog_7_method_52_code
def yX5_number : MethodName := ⟨RX5, "number", "(II)I"⟩
abbrev cX5_kindAt : ByteArray := prog_7_method_53_code
def yX5_kindAt : MethodName := ⟨RX5, "kindAt", "()I"⟩
abbrev cX5_order : ByteArray := prog_7_method_54_code
def yX5_order : MethodName := ⟨RX5, "order", "()V"⟩
abbrev cX5_readBuffer : ByteArray := prog_7_method_55_code
def yX5_readBuffer : MethodName := ⟨RX5, "readBuffer", "()V"⟩
abbrev cX5_firstError : ByteArray := prog_7_method_56_code
def yX5_firstError : MethodName := ⟨RX5, "firstError", "()I"⟩
abbrev cX5_does : ByteArray := prog_7_method_57_code
def yX5_does : MethodName := ⟨RX5, "does", "(I)Z"⟩
abbrev cX5_run : ByteArray := prog_7_method_58_code
def yX5_run : MethodName := ⟨RX5, "run", "()I"⟩
abbrev cX5_fuse : ByteArray := prog_7_method_59_code
def yX5_fuse : MethodName := ⟨RX5, "fuse", "(III)I"⟩
abbrev cX5_doubtful : ByteArray := prog_7_method_60_code
def yX5_doubtful : MethodName := ⟨RX5, "doubtful", "(I)I"⟩
abbrev cX5_strengths : ByteArray := prog_7_method_61_code
def yX5_strengths : MethodName := ⟨RX5, "strengths", "(I)I"⟩
abbrev cX5_toldRow : ByteArray := prog_7_method_62_code
def yX5_toldRow : MethodName := ⟨RX5, "toldRow", "(II)I"⟩
abbrev cX5_row : ByteArray := prog_7_method_63_code
def yX5_row : MethodName := ⟨RX5, "row", "(II)I"⟩
abbrev cX5_isRowOf : ByteArray := prog_7_method_64_code
def yX5_isRowOf : MethodName := ⟨RX5, "isRowOf", "(II)Z"⟩
abbrev cX5_entriesOf : ByteArray := prog_7_method_65_code
def yX5_entriesOf : MethodName := ⟨RX5, "entriesOf", "(I)I"⟩
abbrev cX5_rowsOf : ByteArray := prog_7_method_66_code
def yX5_rowsOf : MethodName := ⟨RX5, "rowsOf", "(I)I"⟩
abbrev cX5_greatestOf : ByteArray := prog_7_method_67_code
def yX5_greatestOf : MethodName := ⟨RX5, "greatestOf", "(I)I"⟩
abbrev cX5_agreeing : ByteArray := prog_7_method_68_code
def yX5_agreeing : MethodName := ⟨RX5, "agreeing", "(I)I"⟩
abbrev cX5_toldKey : ByteArray := prog_7_method_69_code
def yX5_toldKey : MethodName := ⟨RX5, "toldKey", "(II)I"⟩
abbrev cX5_key : ByteArray := prog_7_method_70_code
def yX5_key : MethodName := ⟨RX5, "key", "(II)I"⟩
abbrev cX5_earlier : ByteArray := prog_7_method_71_code
def yX5_earlier : MethodName := ⟨RX5, "earlier", "(II)I"⟩
abbrev cX5_history : ByteArray := prog_7_method_72_code
def yX5_history : MethodName := ⟨RX5, "history", "(II)I"⟩
abbrev cX5_rowsOfKind : ByteArray := prog_7_method_73_code
def yX5_rowsOfKind : MethodName := ⟨RX5, "rowsOfKind", "(I)I"⟩
abbrev cX5_doubtfulAll : ByteArray := prog_7_method_74_code
def yX5_doubtfulAll : MethodName := ⟨RX5, "doubtfulAll", "()I"⟩
abbrev cX5_keysWithValue : ByteArray := prog_7_method_75_code
def yX5_keysWithValue : MethodName := ⟨RX5, "keysWithValue", "()I"⟩
abbrev cX5_counted : ByteArray := prog_7_method_76_code
def yX5_counted : MethodName := ⟨RX5, "counted", "(I)I"⟩
abbrev cX5_count : ByteArray := prog_7_method_77_code
def yX5_count : MethodName := ⟨RX5, "count", "(I)I"⟩
abbrev cX5_setting : ByteArray := prog_7_method_78_code
def yX5_setting : MethodName := ⟨RX5, "setting", "(I)I"⟩
abbrev cX5_wouldPut : ByteArray := prog_7_method_79_code
def yX5_wouldPut : MethodName := ⟨RX5, "wouldPut", "(III)I"⟩
abbrev cX5_ifPut : ByteArray := prog_7_method_80_code
def yX5_ifPut : MethodName := ⟨RX5, "ifPut", "(III)I"⟩
abbrev cX5_layBefore : ByteArray := prog_7_method_81_code
def yX5_layBefore : MethodName := ⟨RX5, "layBefore", "()V"⟩
abbrev cX5_wouldHeat : ByteArray := prog_7_method_82_code
def yX5_wouldHeat : MethodName := ⟨RX5, "wouldHeat", "(II)I"⟩
abbrev cX5_ifHeated : ByteArray := prog_7_method_83_code
def yX5_ifHeated : MethodName := ⟨RX5, "ifHeated", "(II)I"⟩
abbrev cX5_wouldRead : ByteArray := prog_7_method_84_code
def yX5_wouldRead : MethodName := ⟨RX5, "wouldRead", "(IZ)I"⟩
abbrev cX5_ifRead : ByteArray := prog_7_method_85_code
def yX5_ifRead : MethodName := ⟨RX5, "ifRead", "(IZ)I"⟩
abbrev cX5_worstNow : ByteArray := prog_7_method_86_code
def yX5_worstNow : MethodName := ⟨RX5, "worstNow", "()I"⟩
abbrev cX5_worst : ByteArray := prog_7_method_87_code
def yX5_worst : MethodName := ⟨RX5, "worst", "()I"⟩
abbrev cX5_share : ByteArray := prog_7_method_88_code
def yX5_share : MethodName := ⟨RX5, "share", "()D"⟩
abbrev cX5_sureShare : ByteArray := prog_7_method_89_code
def yX5_sureShare : MethodName := ⟨RX5, "sureShare", "()D"⟩
abbrev cX5_bitsOf : ByteArray := prog_7_method_90_code
def yX5_bitsOf : MethodName := ⟨RX5, "bitsOf", "(D)J"⟩
abbrev cX5_mix : ByteArray := prog_7_method_91_code
def yX5_mix : MethodName := ⟨RX5, "mix", "(J)V"⟩
abbrev cX5_mixRow : ByteArray := prog_7_method_92_code
def yX5_mixRow : MethodName := ⟨RX5, "mixRow", "(I)V"⟩
abbrev cX5_mixKey : ByteArray := prog_7_method_93_code
def yX5_mixKey : MethodName := ⟨RX5, "mixKey", "(I)V"⟩
abbrev cX5_digest : ByteArray := prog_7_method_94_code
def yX5_digest : MethodName := ⟨RX5, "digest", "()J"⟩
def RJ6 : String := "java/lang/Integer"
def TJ6 : u_T := fun k => match k with
  | _ => ("", "", "", false)
def tyJ6 : Nat → FieldType := fun k => match k with
  | _ => .int
abbrev wsJ60 : List Cond := u_ws RJ6 TJ6 0
theorem nmJ6 : ∀ a, a < 0 → ∀ b, b < 0 → a ≠ b → (TJ6 a).2.1 ≠ (TJ6 b).2.1 := by decide +kernel
theorem tyJ6_ok : ∀ k, k < 0 → parseFieldDescriptor (TJ6 k).2.2.1 = some (tyJ6 k) := by decide +kernel
abbrev cJ6_bitCount_0f7a4 : ByteArray := prog_12_method_49_code
def yJ6_bitCount_0f7a4 : MethodName := ⟨RJ6, "bitCount", "(I)I"⟩
def RJ9 : String := "java/lang/Math"
def TJ9 : u_T := fun k => match k with
  | _ => ("", "", "", false)
def tyJ9 : Nat → FieldType := fun k => match k with
  | _ => .int
abbrev wsJ90 : List Cond := u_ws RJ9 TJ9 0
theorem nmJ9 : ∀ a, a < 0 → ∀ b, b < 0 → a ≠ b → (TJ9 a).2.1 ≠ (TJ9 b).2.1 := by decide +kernel
theorem tyJ9_ok : ∀ k, k < 0 → parseFieldDescriptor (TJ9 k).2.2.1 = some (tyJ9 k) := by decide +kernel
abbrev cJ9_max_7cf53 : ByteArray := prog_13_method_65_code
def yJ9_max_7cf53 : MethodName := ⟨RJ9, "max", "(II)I"⟩
def RJ0 : String := "java/lang/String"
def TJ0 : u_T := fun k => match k with
  | _ => ("", "", "", false)
def tyJ0 : Nat → FieldType := fun k => match k with
  | _ => .int
abbrev wsJ00 : List Cond := u_ws RJ0 TJ0 0
theorem nmJ0 : ∀ a, a < 0 → ∀ b, b < 0 → a ≠ b → (TJ0 a).2.1 ≠ (TJ0 b).2.1 := by decide +kernel
theorem tyJ0_ok : ∀ k, k < 0 → parseFieldDescriptor (TJ0 k).2.2.1 = some (tyJ0 k) := by decide +kernel
abbrev cJ0_length_8abf5 : ByteArray := prog_15_method_54_code
def yJ0_length_8abf5 : MethodName := ⟨RJ0, "length", "()I"⟩
abbrev cJ0_charAt_5068e : ByteArray := prog_15_method_56_code
def yJ0_charAt_5068e : MethodName := ⟨RJ0, "charAt", "(I)C"⟩
abbrev cJ0_coder_7d493 : ByteArray := prog_15_method_152_code
def yJ0_coder_7d493 : MethodName := ⟨RJ0, "coder", "()B"⟩
abbrev cJ0_isLatin1_aae02 : ByteArray := prog_15_method_154_code
def yJ0_isLatin1_aae02 : MethodName := ⟨RJ0, "isLatin1", "()Z"⟩
abbrev cJ0_checkIndex_df160 : ByteArray := prog_15_method_155_code
def yJ0_checkIndex_df160 : MethodName := ⟨RJ0, "checkIndex", "(II)V"⟩
def RJ1 : String := "java/lang/StringLatin1"
def TJ1 : u_T := fun k => match k with
  | _ => ("", "", "", false)
def tyJ1 : Nat → FieldType := fun k => match k with
  | _ => .int
abbrev wsJ10 : List Cond := u_ws RJ1 TJ1 0
theorem nmJ1 : ∀ a, a < 0 → ∀ b, b < 0 → a ≠ b → (TJ1 a).2.1 ≠ (TJ1 b).2.1 := by decide +kernel
theorem tyJ1_ok : ∀ k, k < 0 → parseFieldDescriptor (TJ1 k).2.2.1 = some (tyJ1 k) := by decide +kernel
abbrev cJ1_charAt_3b067 : ByteArray := prog_16_method_2_code
def yJ1_charAt_3b067 : MethodName := ⟨RJ1, "charAt", "([BI)C"⟩
def RJ2 : String := "java/lang/StringUTF16"
def TJ2 : u_T := fun k => match k with
  | _ => ("", "", "", false)
def tyJ2 : Nat → FieldType := fun k => match k with
  | _ => .int
abbrev wsJ20 : List Cond := u_ws RJ2 TJ2 0
theorem nmJ2 : ∀ a, a < 0 → ∀ b, b < 0 → a ≠ b → (TJ2 a).2.1 ≠ (TJ2 b).2.1 := by decide +kernel
theorem tyJ2_ok : ∀ k, k < 0 → parseFieldDescriptor (TJ2 k).2.2.1 = some (tyJ2 k) := by decide +kernel
abbrev cJ2_getChar_3b067 : ByteArray := prog_17_method_5_code
def yJ2_getChar_3b067 : MethodName := ⟨RJ2, "getChar", "([BI)C"⟩
abbrev cJ2_length_9d52b : ByteArray := prog_17_method_6_code
def yJ2_length_9d52b : MethodName := ⟨RJ2, "length", "([B)I"⟩
abbrev cJ2_charAt_3b067 : ByteArray := prog_17_method_83_code
def yJ2_charAt_3b067 : MethodName := ⟨RJ2, "charAt", "([BI)C"⟩
abbrev cJ2_checkIndex_2214a : ByteArray := prog_17_method_91_code
def yJ2_checkIndex_2214a : MethodName := ⟨RJ2, "checkIndex", "(I[B)V"⟩
def RJ10 : String := "java/lang/System"
def TJ10 : u_T := fun k => match k with
  | _ => ("", "", "", false)
def tyJ10 : Nat → FieldType := fun k => match k with
  | _ => .int
abbrev wsJ100 : List Cond := u_ws RJ10 TJ10 0
theorem nmJ10 : ∀ a, a < 0 → ∀ b, b < 0 → a ≠ b → (TJ10 a).2.1 ≠ (TJ10 b).2.1 := by decide +kernel
theorem tyJ10_ok : ∀ k, k < 0 → parseFieldDescriptor (TJ10 k).2.2.1 = some (tyJ10 k) := by decide +kernel
def RJ3 : String := "jdk/internal/util/Preconditions"
def TJ3 : u_T := fun k => match k with
  | _ => ("", "", "", false)
def tyJ3 : Nat → FieldType := fun k => match k with
  | _ => .int
abbrev wsJ30 : List Cond := u_ws RJ3 TJ3 0
theorem nmJ3 : ∀ a, a < 0 → ∀ b, b < 0 → a ≠ b → (TJ3 a).2.1 ≠ (TJ3 b).2.1 := by decide +kernel
theorem tyJ3_ok : ∀ k, k < 0 → parseFieldDescriptor (TJ3 k).2.2.1 = some (tyJ3 k) := by decide +kernel
abbrev cJ3_checkIndex_8e157 : ByteArray := prog_20_method_11_code
def yJ3_checkIndex_8e157 : MethodName := ⟨RJ3, "checkIndex", "(IILjava/util/function/BiFunction;)I"⟩
def RL : String := "FuseRowsLaw"
abbrev cL_blow : ByteArray := method_3_code
def yL_blow : MethodName := ⟨RL, "blow", "(LFuseRows;III[J)I"⟩
abbrev cL_put : ByteArray := method_4_code
def yL_put : MethodName := ⟨RL, "put", "(LFuseRows;II[J)I"⟩
abbrev cL_drop : ByteArray := method_5_code
def yL_drop : MethodName := ⟨RL, "drop", "(LFuseRows;I[J)I"⟩
abbrev cL_lock : ByteArray := method_6_code
def yL_lock : MethodName := ⟨RL, "lock", "(LFuseRows;I[J)I"⟩
abbrev cL_refresh : ByteArray := method_7_code
def yL_refresh : MethodName := ⟨RL, "refresh", "(LFuseRows;I[J)I"⟩
abbrev cL_heat : ByteArray := method_8_code
def yL_heat : MethodName := ⟨RL, "heat", "(LFuseRows;I[J)I"⟩
abbrev cL_pass : ByteArray := method_9_code
def yL_pass : MethodName := ⟨RL, "pass", "(LFuseRows;I[J)I"⟩
abbrev cL_set : ByteArray := method_10_code
def yL_set : MethodName := ⟨RL, "set", "(LFuseRows;II[J)I"⟩
abbrev cL_append : ByteArray := method_11_code
def yL_append : MethodName := ⟨RL, "append", "(LFuseRows;I[J)I"⟩
abbrev cL_run : ByteArray := method_12_code
def yL_run : MethodName := ⟨RL, "run", "(LFuseRows;[J)I"⟩
abbrev cL_undo : ByteArray := method_13_code
def yL_undo : MethodName := ⟨RL, "undo", "(LFuseRows;[J)I"⟩
abbrev cL_fuse : ByteArray := method_14_code
def yL_fuse : MethodName := ⟨RL, "fuse", "(LFuseRows;III[J)I"⟩
abbrev cL_row : ByteArray := method_15_code
def yL_row : MethodName := ⟨RL, "row", "(LFuseRows;II[J)I"⟩
abbrev cL_key : ByteArray := method_16_code
def yL_key : MethodName := ⟨RL, "key", "(LFuseRows;II[J)I"⟩
abbrev cL_history : ByteArray := method_17_code
def yL_history : MethodName := ⟨RL, "history", "(LFuseRows;II[J)I"⟩
abbrev cL_count : ByteArray := method_18_code
def yL_count : MethodName := ⟨RL, "count", "(LFuseRows;I[J)I"⟩
abbrev cL_setting : ByteArray := method_19_code
def yL_setting : MethodName := ⟨RL, "setting", "(LFuseRows;I[J)I"⟩
abbrev cL_ifPut : ByteArray := method_20_code
def yL_ifPut : MethodName := ⟨RL, "ifPut", "(LFuseRows;III[J)I"⟩
abbrev cL_ifHeated : ByteArray := method_21_code
def yL_ifHeated : MethodName := ⟨RL, "ifHeated", "(LFuseRows;II[J)I"⟩
abbrev cL_ifRead : ByteArray := method_22_code
def yL_ifRead : MethodName := ⟨RL, "ifRead", "(LFuseRows;IZ[J)I"⟩
abbrev cL_law : ByteArray := code
def yL_law : MethodName := ⟨RL, "law", "([I)Z"⟩
abbrev vwCl : List vw_C := [(RX1, TX1, 8), (RX2, TX2, 3), (RX3, TX3, 6), (RX4, TX4, 4), (RX5, TX5, 17)]
