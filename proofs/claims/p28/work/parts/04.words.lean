/-- all words that tables alone decide, of the tables: each method's contract asks for its own code and for these -/
def wA : List Cond := lw_tbl.filter goodWord
theorem wA_tbl {w : Cond} (h : w ∈ wA) : w ∈ lw_tbl := (List.mem_filter.mp h).1
theorem wA_good {w : Cond} (h : w ∈ wA) : goodWord w = true := (List.mem_filter.mp h).2
theorem wA_1 {w : Cond} (h : w ∈ tables_1_1) (g : goodWord w = true) : w ∈ wA := List.mem_filter.mpr ⟨List.mem_append_right _ (List.mem_append_left _ h), g⟩
theorem wA_2 {w : Cond} (h : w ∈ tables_1_2) (g : goodWord w = true) : w ∈ wA := List.mem_filter.mpr ⟨List.mem_append_right _ (List.mem_append_right _ (List.mem_append_left _ h)), g⟩
theorem wA_3 {w : Cond} (h : w ∈ tables_1_3) (g : goodWord w = true) : w ∈ wA := List.mem_filter.mpr ⟨List.mem_append_right _ (List.mem_append_right _ (List.mem_append_right _ h)), g⟩
theorem wA_0 {w : Cond} (h : w ∈ k2_sels lw_privs) (g : goodWord w = true) : w ∈ wA := List.mem_filter.mpr ⟨List.mem_append_left _ h, g⟩

theorem wT_1 {w : Cond} (h : w ∈ tables_1_1) : w ∈ lw_tbl := List.mem_append_right _ (List.mem_append_left _ h)
theorem wT_2 {w : Cond} (h : w ∈ tables_1_2) : w ∈ lw_tbl := List.mem_append_right _ (List.mem_append_right _ (List.mem_append_left _ h))
theorem wT_3 {w : Cond} (h : w ∈ tables_1_3) : w ∈ lw_tbl := List.mem_append_right _ (List.mem_append_right _ (List.mem_append_right _ h))


theorem q0 : (.selects "java/lang/Throwable" ⟨"java/lang/Throwable", "fillInStackTrace", "(I)Ljava/lang/Throwable;"⟩ ⟨"java/lang/Throwable", "fillInStackTrace", "(I)Ljava/lang/Throwable;"⟩ : Cond) ∈ wA := wA_0 (List.mem_of_getElem? (i := 0) (by decide +kernel)) rfl
theorem q1 : (.selects RX4 yX4_rowProperty yX4_rowProperty : Cond) ∈ wA := wA_0 (List.mem_of_getElem? (i := 1) (by decide +kernel)) rfl
theorem q2 : (.selects RX4 yX4_keyProperty yX4_keyProperty : Cond) ∈ wA := wA_0 (List.mem_of_getElem? (i := 2) (by decide +kernel)) rfl
theorem q3 : (.selects RX4 yX4_countOf yX4_countOf : Cond) ∈ wA := wA_0 (List.mem_of_getElem? (i := 3) (by decide +kernel)) rfl
theorem q4 : (.selects RX4 yX4_putOutcome yX4_putOutcome : Cond) ∈ wA := wA_0 (List.mem_of_getElem? (i := 4) (by decide +kernel)) rfl
theorem q5 : (.selects RX4 yX4_valuesReadOtherwise yX4_valuesReadOtherwise : Cond) ∈ wA := wA_0 (List.mem_of_getElem? (i := 5) (by decide +kernel)) rfl
theorem q6 : (.selects RX4 yX4_heatOutcome yX4_heatOutcome : Cond) ∈ wA := wA_0 (List.mem_of_getElem? (i := 6) (by decide +kernel)) rfl
theorem q7 : (.initialized RL : Cond) ∈ wA := wA_1 (List.mem_of_getElem? (i := 0) (by decide +kernel)) rfl
theorem q8 : (.initialized RX4 : Cond) ∈ wA := wA_1 (List.mem_of_getElem? (i := 1) (by decide +kernel)) rfl
theorem q9 : (.initialized RX3 : Cond) ∈ wA := wA_1 (List.mem_of_getElem? (i := 2) (by decide +kernel)) rfl
theorem q10 : (.initialized RX2 : Cond) ∈ wA := wA_1 (List.mem_of_getElem? (i := 3) (by decide +kernel)) rfl
theorem q11 : (.initialized RX1 : Cond) ∈ wA := wA_1 (List.mem_of_getElem? (i := 4) (by decide +kernel)) rfl
theorem q12 : (.initialized RJ6 : Cond) ∈ wA := wA_1 (List.mem_of_getElem? (i := 5) (by decide +kernel)) rfl
theorem q13 : (.initialized "java/lang/Throwable" : Cond) ∈ wA := wA_1 (List.mem_of_getElem? (i := 6) (by decide +kernel)) rfl
theorem q14 : (.initialized "java/lang/Exception" : Cond) ∈ wA := wA_1 (List.mem_of_getElem? (i := 7) (by decide +kernel)) rfl
theorem q15 : (.initialized "java/lang/RuntimeException" : Cond) ∈ wA := wA_1 (List.mem_of_getElem? (i := 8) (by decide +kernel)) rfl
theorem q16 : (.initialized "java/lang/IllegalArgumentException" : Cond) ∈ wA := wA_1 (List.mem_of_getElem? (i := 9) (by decide +kernel)) rfl
theorem q17 : (.initialized RX0 : Cond) ∈ wA := wA_1 (List.mem_of_getElem? (i := 10) (by decide +kernel)) rfl
theorem q18 : (.initialized "java/lang/IndexOutOfBoundsException" : Cond) ∈ wA := wA_1 (List.mem_of_getElem? (i := 11) (by decide +kernel)) rfl
theorem q19 : (.initialized RJ9 : Cond) ∈ wA := wA_1 (List.mem_of_getElem? (i := 12) (by decide +kernel)) rfl
theorem q20 : (.initialized RJ10 : Cond) ∈ wA := wA_1 (List.mem_of_getElem? (i := 13) (by decide +kernel)) rfl
theorem q21 : (.initialized "java/lang/IllegalStateException" : Cond) ∈ wA := wA_1 (List.mem_of_getElem? (i := 14) (by decide +kernel)) rfl
theorem q22 : (.classLink RL 11 RX4 : Cond) ∈ wA := wA_1 (List.mem_of_getElem? (i := 15) (by decide +kernel)) rfl
theorem q23 : (.instantiable RX4 4 : Cond) ∈ wA := wA_1 (List.mem_of_getElem? (i := 16) (by decide +kernel)) rfl
theorem q24 : (.methodLink RL 60 yX4_init : Cond) ∈ wA := wA_1 (List.mem_of_getElem? (i := 17) (by decide +kernel)) rfl
theorem q25 : (.instanceMethod yX4_init : Cond) ∈ wA := wA_1 (List.mem_of_getElem? (i := 18) (by decide +kernel)) rfl
theorem q26 : (.code yX4_init cX4_init 1 none : Cond) ∈ wA := wA_1 (List.mem_of_getElem? (i := 19) (by decide +kernel)) rfl
theorem q27 : (.methodLink RX4 1 objectInit : Cond) ∈ wA := wA_1 (List.mem_of_getElem? (i := 20) (by decide +kernel)) rfl
theorem q28 : (.instanceMethod objectInit : Cond) ∈ wA := wA_1 (List.mem_of_getElem? (i := 21) (by decide +kernel)) rfl
theorem q29 : (.code objectInit ⟨#[0xb1]⟩ 1 none : Cond) ∈ wA := wA_1 (List.mem_of_getElem? (i := 22) (by decide +kernel)) rfl
theorem q30 : (.classLink RX4 7 RX3 : Cond) ∈ wA := wA_1 (List.mem_of_getElem? (i := 23) (by decide +kernel)) rfl
theorem q31 : (.instantiable RX3 6 : Cond) ∈ wA := wA_1 (List.mem_of_getElem? (i := 24) (by decide +kernel)) rfl
theorem q32 : (.methodLinkNest RX4 9 yX3_init RX4 : Cond) ∈ lw_tbl := wT_1 (List.mem_of_getElem? (i := 25) (by decide +kernel))
theorem q33 : (.instanceMethod yX3_init : Cond) ∈ wA := wA_1 (List.mem_of_getElem? (i := 26) (by decide +kernel)) rfl
theorem q34 : (.code yX3_init cX3_init 1 none : Cond) ∈ wA := wA_1 (List.mem_of_getElem? (i := 27) (by decide +kernel)) rfl
theorem q35 : (.methodLink RX3 3 objectInit : Cond) ∈ wA := wA_1 (List.mem_of_getElem? (i := 28) (by decide +kernel)) rfl
theorem q36 : (.fieldLink RX3 9 "FuseRows$State" "ones" "[I" : Cond) ∈ wA := wA_1 (List.mem_of_getElem? (i := 29) (by decide +kernel)) rfl
theorem q37 : (.fieldLink RX4 170 "FuseRows$State" "ones" "[I" : Cond) ∈ wA := wA_1 (List.mem_of_getElem? (i := 30) (by decide +kernel)) rfl
theorem q38 : (.fieldLink RX3 15 "FuseRows$State" "twos" "[I" : Cond) ∈ wA := wA_1 (List.mem_of_getElem? (i := 31) (by decide +kernel)) rfl
theorem q39 : (.fieldLink RX4 173 "FuseRows$State" "twos" "[I" : Cond) ∈ wA := wA_1 (List.mem_of_getElem? (i := 32) (by decide +kernel)) rfl
theorem q40 : (.fieldLink RX3 18 "FuseRows$State" "settings" "[I" : Cond) ∈ wA := wA_1 (List.mem_of_getElem? (i := 33) (by decide +kernel)) rfl
theorem q41 : (.fieldLink RX4 99 "FuseRows$State" "settings" "[I" : Cond) ∈ wA := wA_1 (List.mem_of_getElem? (i := 34) (by decide +kernel)) rfl
theorem q42 : (.fieldLink RX3 27 "FuseRows$State" "tick" "I" : Cond) ∈ wA := wA_1 (List.mem_of_getElem? (i := 35) (by decide +kernel)) rfl
theorem q43 : (.fieldLink RX4 88 "FuseRows$State" "tick" "I" : Cond) ∈ wA := wA_1 (List.mem_of_getElem? (i := 36) (by decide +kernel)) rfl
theorem q44 : (.fieldLink RX3 31 "FuseRows$State" "energy" "I" : Cond) ∈ wA := wA_1 (List.mem_of_getElem? (i := 37) (by decide +kernel)) rfl
theorem q45 : (.fieldLink RX4 276 "FuseRows$State" "energy" "I" : Cond) ∈ wA := wA_1 (List.mem_of_getElem? (i := 38) (by decide +kernel)) rfl
theorem q46 : (.fieldLink RX3 34 "FuseRows$State" "valuesPut" "I" : Cond) ∈ wA := wA_1 (List.mem_of_getElem? (i := 39) (by decide +kernel)) rfl
theorem q47 : (.fieldLink RX4 282 "FuseRows$State" "valuesPut" "I" : Cond) ∈ wA := wA_1 (List.mem_of_getElem? (i := 40) (by decide +kernel)) rfl
theorem q48 : (.arrayClass .int : Cond) ∈ wA := wA_1 (List.mem_of_getElem? (i := 54) (by decide +kernel)) rfl
theorem q49 : (.classLink RX4 19 RX2 : Cond) ∈ wA := wA_1 (List.mem_of_getElem? (i := 55) (by decide +kernel)) rfl
theorem q50 : (.instantiable RX2 3 : Cond) ∈ wA := wA_1 (List.mem_of_getElem? (i := 56) (by decide +kernel)) rfl
theorem q51 : (.methodLink RX4 21 yX2_init : Cond) ∈ wA := wA_1 (List.mem_of_getElem? (i := 57) (by decide +kernel)) rfl
theorem q52 : (.instanceMethod yX2_init : Cond) ∈ wA := wA_1 (List.mem_of_getElem? (i := 58) (by decide +kernel)) rfl
theorem q53 : (.code yX2_init cX2_init 2 none : Cond) ∈ wA := wA_1 (List.mem_of_getElem? (i := 59) (by decide +kernel)) rfl
theorem q54 : (.methodLink RX2 1 objectInit : Cond) ∈ wA := wA_1 (List.mem_of_getElem? (i := 60) (by decide +kernel)) rfl
theorem q55 : (.classLink RX2 9 RX3 : Cond) ∈ wA := wA_1 (List.mem_of_getElem? (i := 61) (by decide +kernel)) rfl
theorem q56 : (.methodLinkNest RX2 15 yX3_init RX4 : Cond) ∈ lw_tbl := wT_1 (List.mem_of_getElem? (i := 63) (by decide +kernel))
theorem q57 : (.fieldLink RX2 11 "FuseRows$SavedStates" "ring" "[LFuseRows$State;" : Cond) ∈ wA := wA_1 (List.mem_of_getElem? (i := 64) (by decide +kernel)) rfl
theorem q58 : (.fieldLink RX2 16 "FuseRows$SavedStates" "oldest" "I" : Cond) ∈ wA := wA_1 (List.mem_of_getElem? (i := 65) (by decide +kernel)) rfl
theorem q59 : (.fieldLink RX2 20 "FuseRows$SavedStates" "count" "I" : Cond) ∈ wA := wA_1 (List.mem_of_getElem? (i := 66) (by decide +kernel)) rfl
theorem q60 : (.fieldLink RX4 132 "FuseRows$SavedStates" "count" "I" : Cond) ∈ wA := wA_1 (List.mem_of_getElem? (i := 67) (by decide +kernel)) rfl
theorem q61 : (.classLink RX4 26 RX1 : Cond) ∈ wA := wA_1 (List.mem_of_getElem? (i := 75) (by decide +kernel)) rfl
theorem q62 : (.instantiable RX1 8 : Cond) ∈ wA := wA_1 (List.mem_of_getElem? (i := 76) (by decide +kernel)) rfl
theorem q63 : (.methodLinkNest RX4 28 yX1_init RX4 : Cond) ∈ lw_tbl := wT_1 (List.mem_of_getElem? (i := 77) (by decide +kernel))
theorem q64 : (.instanceMethod yX1_init : Cond) ∈ wA := wA_1 (List.mem_of_getElem? (i := 78) (by decide +kernel)) rfl
theorem q65 : (.code yX1_init cX1_init 1 none : Cond) ∈ wA := wA_1 (List.mem_of_getElem? (i := 79) (by decide +kernel)) rfl
theorem q66 : (.methodLink RX1 3 objectInit : Cond) ∈ wA := wA_1 (List.mem_of_getElem? (i := 80) (by decide +kernel)) rfl
theorem q67 : (.fieldLink RX1 11 "FuseRows$OrderText" "signs" "[C" : Cond) ∈ wA := wA_1 (List.mem_of_getElem? (i := 81) (by decide +kernel)) rfl
theorem q68 : (.fieldLink RX1 15 "FuseRows$OrderText" "kinds" "[I" : Cond) ∈ wA := wA_1 (List.mem_of_getElem? (i := 82) (by decide +kernel)) rfl
theorem q69 : (.fieldLink RX1 19 "FuseRows$OrderText" "numbers" "[I" : Cond) ∈ wA := wA_1 (List.mem_of_getElem? (i := 83) (by decide +kernel)) rfl
theorem q70 : (.fieldLink RX1 22 "FuseRows$OrderText" "values" "[I" : Cond) ∈ wA := wA_1 (List.mem_of_getElem? (i := 84) (by decide +kernel)) rfl
theorem q71 : (.arrayClass .char : Cond) ∈ wA := wA_1 (List.mem_of_getElem? (i := 102) (by decide +kernel)) rfl
theorem q72 : (.fieldLink RX4 10 "FuseRows" "now" "LFuseRows$State;" : Cond) ∈ wA := wA_1 (List.mem_of_getElem? (i := 103) (by decide +kernel)) rfl
theorem q73 : (.fieldLink RX4 16 "FuseRows" "trial" "LFuseRows$State;" : Cond) ∈ wA := wA_1 (List.mem_of_getElem? (i := 104) (by decide +kernel)) rfl
theorem q74 : (.fieldLink RX4 22 "FuseRows" "saved" "LFuseRows$SavedStates;" : Cond) ∈ wA := wA_1 (List.mem_of_getElem? (i := 105) (by decide +kernel)) rfl
theorem q75 : (.fieldLink RX4 29 "FuseRows" "text" "LFuseRows$OrderText;" : Cond) ∈ wA := wA_1 (List.mem_of_getElem? (i := 106) (by decide +kernel)) rfl
theorem q76 : (.methodLink RL 87 yX4_drop : Cond) ∈ wA := wA_1 (List.mem_of_getElem? (i := 116) (by decide +kernel)) rfl
theorem q77 : (.instanceMethod yX4_drop : Cond) ∈ wA := wA_1 (List.mem_of_getElem? (i := 117) (by decide +kernel)) rfl
theorem q78 : (.selects RX4 yX4_drop yX4_drop : Cond) ∈ wA := wA_1 (List.mem_of_getElem? (i := 118) (by decide +kernel)) rfl
theorem q79 : (.code yX4_drop cX4_drop 2 (some .int) : Cond) ∈ wA := wA_1 (List.mem_of_getElem? (i := 119) (by decide +kernel)) rfl
theorem q80 : (.methodLink RX4 33 yX4_isIndex : Cond) ∈ wA := wA_1 (List.mem_of_getElem? (i := 120) (by decide +kernel)) rfl
theorem q81 : (.static yX4_isIndex : Cond) ∈ wA := wA_1 (List.mem_of_getElem? (i := 121) (by decide +kernel)) rfl
theorem q82 : (.code yX4_isIndex cX4_isIndex 2 (some .boolean) : Cond) ∈ wA := wA_1 (List.mem_of_getElem? (i := 122) (by decide +kernel)) rfl
theorem q83 : (.methodLink RX4 45 yX4_requireArgument : Cond) ∈ wA := wA_1 (List.mem_of_getElem? (i := 123) (by decide +kernel)) rfl
theorem q84 : (.static yX4_requireArgument : Cond) ∈ wA := wA_1 (List.mem_of_getElem? (i := 124) (by decide +kernel)) rfl
theorem q85 : (.code yX4_requireArgument cX4_requireArgument 1 none : Cond) ∈ wA := wA_1 (List.mem_of_getElem? (i := 125) (by decide +kernel)) rfl
theorem q86 : (.classLink RX4 207 "java/lang/IllegalArgumentException" : Cond) ∈ wA := wA_1 (List.mem_of_getElem? (i := 126) (by decide +kernel)) rfl
theorem q87 : (.instantiable "java/lang/IllegalArgumentException" 6 : Cond) ∈ wA := wA_1 (List.mem_of_getElem? (i := 127) (by decide +kernel)) rfl
theorem q88 : (.castable "java/lang/IllegalArgumentException" "java/lang/IllegalArgumentException" : Cond) ∈ lw_tbl := wT_1 (List.mem_of_getElem? (i := 128) (by decide +kernel))
theorem q89 : (.selects "java/lang/IllegalArgumentException" ⟨"java/lang/Throwable", "fillInStackTrace", "(I)Ljava/lang/Throwable;"⟩ ⟨"java/lang/Throwable", "fillInStackTrace", "(I)Ljava/lang/Throwable;"⟩ : Cond) ∈ wA := wA_1 (List.mem_of_getElem? (i := 135) (by decide +kernel)) rfl
theorem q90 : (.selects "java/lang/IllegalArgumentException" ⟨"java/lang/Throwable", "fillInStackTrace", "()Ljava/lang/Throwable;"⟩ ⟨"java/lang/Throwable", "fillInStackTrace", "()Ljava/lang/Throwable;"⟩ : Cond) ∈ wA := wA_1 (List.mem_of_getElem? (i := 136) (by decide +kernel)) rfl
theorem q91 : (.fieldLink "java/lang/Throwable" 198 "java/lang/Throwable" "backtrace" "Ljava/lang/Object;" : Cond) ∈ wA := wA_1 (List.mem_of_getElem? (i := 147) (by decide +kernel)) rfl
theorem q92 : (.instanceMethod ⟨"java/lang/Throwable", "<init>", "()V"⟩ : Cond) ∈ wA := wA_1 (List.mem_of_getElem? (i := 149) (by decide +kernel)) rfl
theorem q93 : (.code ⟨"java/lang/Throwable", "<init>", "()V"⟩ prog_17_method_1_code 1 none : Cond) ∈ wA := wA_1 (List.mem_of_getElem? (i := 150) (by decide +kernel)) rfl
theorem q94 : (.methodLink "java/lang/Throwable" 1 objectInit : Cond) ∈ wA := wA_1 (List.mem_of_getElem? (i := 151) (by decide +kernel)) rfl
theorem q95 : (.fieldLink "java/lang/Throwable" 13 "java/lang/Throwable" "UNASSIGNED_STACK" "[Ljava/lang/StackTraceElement;" : Cond) ∈ wA := wA_1 (List.mem_of_getElem? (i := 152) (by decide +kernel)) rfl
theorem q96 : (.laysStatic "java/lang/Throwable" "UNASSIGNED_STACK" "[Ljava/lang/StackTraceElement;" : Cond) ∈ lw_tbl := wT_1 (List.mem_of_getElem? (i := 153) (by decide +kernel))
theorem q97 : (.fieldLink "java/lang/Throwable" 20 "java/lang/Throwable" "SUPPRESSED_SENTINEL" "Ljava/util/List;" : Cond) ∈ wA := wA_1 (List.mem_of_getElem? (i := 154) (by decide +kernel)) rfl
theorem q98 : (.laysStatic "java/lang/Throwable" "SUPPRESSED_SENTINEL" "Ljava/util/List;" : Cond) ∈ lw_tbl := wT_1 (List.mem_of_getElem? (i := 155) (by decide +kernel))
theorem q99 : (.methodLink "java/lang/Throwable" 27 ⟨"java/lang/Throwable", "fillInStackTrace", "()Ljava/lang/Throwable;"⟩ : Cond) ∈ wA := wA_1 (List.mem_of_getElem? (i := 156) (by decide +kernel)) rfl
theorem q100 : (.instanceMethod ⟨"java/lang/Throwable", "fillInStackTrace", "()Ljava/lang/Throwable;"⟩ : Cond) ∈ wA := wA_1 (List.mem_of_getElem? (i := 157) (by decide +kernel)) rfl
theorem q101 : (.selects "java/lang/IllegalStateException" ⟨"java/lang/Throwable", "fillInStackTrace", "()Ljava/lang/Throwable;"⟩ ⟨"java/lang/Throwable", "fillInStackTrace", "()Ljava/lang/Throwable;"⟩ : Cond) ∈ wA := wA_1 (List.mem_of_getElem? (i := 159) (by decide +kernel)) rfl
theorem q102 : (.selects "java/lang/IndexOutOfBoundsException" ⟨"java/lang/Throwable", "fillInStackTrace", "()Ljava/lang/Throwable;"⟩ ⟨"java/lang/Throwable", "fillInStackTrace", "()Ljava/lang/Throwable;"⟩ : Cond) ∈ wA := wA_1 (List.mem_of_getElem? (i := 160) (by decide +kernel)) rfl
theorem q103 : (.methodLink "java/lang/Throwable" 202 ⟨"java/lang/Throwable", "fillInStackTrace", "(I)Ljava/lang/Throwable;"⟩ : Cond) ∈ wA := wA_1 (List.mem_of_getElem? (i := 162) (by decide +kernel)) rfl
theorem q104 : (.instanceMethod ⟨"java/lang/Throwable", "fillInStackTrace", "(I)Ljava/lang/Throwable;"⟩ : Cond) ∈ wA := wA_1 (List.mem_of_getElem? (i := 164) (by decide +kernel)) rfl
theorem q105 : (.instantiable "java/lang/Throwable" 6 : Cond) ∈ wA := wA_1 (List.mem_of_getElem? (i := 165) (by decide +kernel)) rfl
theorem q106 : (.native ⟨"java/lang/Throwable", "fillInStackTrace", "(I)Ljava/lang/Throwable;"⟩ : Cond) ∈ wA := wA_1 (List.mem_of_getElem? (i := 166) (by decide +kernel)) rfl
theorem q107 : (.methodLink RX4 211 ⟨"java/lang/IllegalArgumentException", "<init>", "(Ljava/lang/String;)V"⟩ : Cond) ∈ wA := wA_1 (List.mem_of_getElem? (i := 168) (by decide +kernel)) rfl
theorem q108 : (.instanceMethod ⟨"java/lang/IllegalArgumentException", "<init>", "(Ljava/lang/String;)V"⟩ : Cond) ∈ wA := wA_1 (List.mem_of_getElem? (i := 169) (by decide +kernel)) rfl
theorem q109 : (.code ⟨"java/lang/IllegalArgumentException", "<init>", "(Ljava/lang/String;)V"⟩ prog_9_method_2_code 2 none : Cond) ∈ wA := wA_1 (List.mem_of_getElem? (i := 170) (by decide +kernel)) rfl
theorem q110 : (.methodLink "java/lang/IllegalArgumentException" 7 ⟨"java/lang/RuntimeException", "<init>", "(Ljava/lang/String;)V"⟩ : Cond) ∈ wA := wA_1 (List.mem_of_getElem? (i := 171) (by decide +kernel)) rfl
theorem q111 : (.instanceMethod ⟨"java/lang/RuntimeException", "<init>", "(Ljava/lang/String;)V"⟩ : Cond) ∈ wA := wA_1 (List.mem_of_getElem? (i := 172) (by decide +kernel)) rfl
theorem q112 : (.code ⟨"java/lang/RuntimeException", "<init>", "(Ljava/lang/String;)V"⟩ prog_14_method_2_code 2 none : Cond) ∈ wA := wA_1 (List.mem_of_getElem? (i := 173) (by decide +kernel)) rfl
theorem q113 : (.methodLink "java/lang/RuntimeException" 7 ⟨"java/lang/Exception", "<init>", "(Ljava/lang/String;)V"⟩ : Cond) ∈ wA := wA_1 (List.mem_of_getElem? (i := 174) (by decide +kernel)) rfl
theorem q114 : (.instanceMethod ⟨"java/lang/Exception", "<init>", "(Ljava/lang/String;)V"⟩ : Cond) ∈ wA := wA_1 (List.mem_of_getElem? (i := 175) (by decide +kernel)) rfl
theorem q115 : (.code ⟨"java/lang/Exception", "<init>", "(Ljava/lang/String;)V"⟩ prog_8_method_2_code 2 none : Cond) ∈ wA := wA_1 (List.mem_of_getElem? (i := 176) (by decide +kernel)) rfl
theorem q116 : (.methodLink "java/lang/Exception" 7 ⟨"java/lang/Throwable", "<init>", "(Ljava/lang/String;)V"⟩ : Cond) ∈ wA := wA_1 (List.mem_of_getElem? (i := 177) (by decide +kernel)) rfl
theorem q117 : (.instanceMethod ⟨"java/lang/Throwable", "<init>", "(Ljava/lang/String;)V"⟩ : Cond) ∈ wA := wA_1 (List.mem_of_getElem? (i := 178) (by decide +kernel)) rfl
theorem q118 : (.code ⟨"java/lang/Throwable", "<init>", "(Ljava/lang/String;)V"⟩ prog_17_method_2_code 2 none : Cond) ∈ wA := wA_1 (List.mem_of_getElem? (i := 179) (by decide +kernel)) rfl
theorem q119 : (.fieldLink "java/lang/Throwable" 31 "java/lang/Throwable" "detailMessage" "Ljava/lang/String;" : Cond) ∈ wA := wA_1 (List.mem_of_getElem? (i := 181) (by decide +kernel)) rfl
theorem q120 : (.fieldLink "java/lang/Throwable" 7 "java/lang/Throwable" "cause" "Ljava/lang/Throwable;" : Cond) ∈ wA := wA_1 (List.mem_of_getElem? (i := 182) (by decide +kernel)) rfl
theorem q121 : (.fieldLink "java/lang/Throwable" 17 "java/lang/Throwable" "stackTrace" "[Ljava/lang/StackTraceElement;" : Cond) ∈ wA := wA_1 (List.mem_of_getElem? (i := 183) (by decide +kernel)) rfl
theorem q122 : (.fieldLink "java/lang/Throwable" 24 "java/lang/Throwable" "suppressedExceptions" "Ljava/util/List;" : Cond) ∈ wA := wA_1 (List.mem_of_getElem? (i := 184) (by decide +kernel)) rfl
theorem q123 : (.arrayClass .byte : Cond) ∈ wA := wA_1 (List.mem_of_getElem? (i := 193) (by decide +kernel)) rfl
theorem q124 : (.methodLink RX4 55 yX2_save : Cond) ∈ wA := wA_1 (List.mem_of_getElem? (i := 194) (by decide +kernel)) rfl
theorem q125 : (.instanceMethod yX2_save : Cond) ∈ wA := wA_1 (List.mem_of_getElem? (i := 195) (by decide +kernel)) rfl
theorem q126 : (.selects RX2 yX2_save yX2_save : Cond) ∈ wA := wA_1 (List.mem_of_getElem? (i := 196) (by decide +kernel)) rfl
theorem q127 : (.code yX2_save cX2_save 2 none : Cond) ∈ wA := wA_1 (List.mem_of_getElem? (i := 197) (by decide +kernel)) rfl
theorem q128 : (.methodLink RX2 23 yX3_copyFrom : Cond) ∈ wA := wA_1 (List.mem_of_getElem? (i := 198) (by decide +kernel)) rfl
theorem q129 : (.instanceMethod yX3_copyFrom : Cond) ∈ wA := wA_1 (List.mem_of_getElem? (i := 199) (by decide +kernel)) rfl
theorem q130 : (.selects RX3 yX3_copyFrom yX3_copyFrom : Cond) ∈ wA := wA_1 (List.mem_of_getElem? (i := 200) (by decide +kernel)) rfl
theorem q131 : (.code yX3_copyFrom cX3_copyFrom 2 none : Cond) ∈ wA := wA_1 (List.mem_of_getElem? (i := 201) (by decide +kernel)) rfl
theorem q132 : (.methodLink RX3 21 arraycopyName : Cond) ∈ wA := wA_1 (List.mem_of_getElem? (i := 202) (by decide +kernel)) rfl
theorem q133 : (.static arraycopyName : Cond) ∈ wA := wA_1 (List.mem_of_getElem? (i := 203) (by decide +kernel)) rfl
theorem q134 : (.native arraycopyName : Cond) ∈ wA := wA_1 (List.mem_of_getElem? (i := 204) (by decide +kernel)) rfl
theorem q135 : (.methodLink RX4 74 yX3_markEntries : Cond) ∈ wA := wA_1 (List.mem_of_getElem? (i := 205) (by decide +kernel)) rfl
theorem q136 : (.instanceMethod yX3_markEntries : Cond) ∈ wA := wA_1 (List.mem_of_getElem? (i := 206) (by decide +kernel)) rfl
theorem q137 : (.selects RX3 yX3_markEntries yX3_markEntries : Cond) ∈ wA := wA_1 (List.mem_of_getElem? (i := 207) (by decide +kernel)) rfl
theorem q138 : (.code yX3_markEntries cX3_markEntries 7 (some .int) : Cond) ∈ wA := wA_1 (List.mem_of_getElem? (i := 208) (by decide +kernel)) rfl
theorem q139 : (.methodLink RX3 48 yX3_read : Cond) ∈ wA := wA_1 (List.mem_of_getElem? (i := 209) (by decide +kernel)) rfl
theorem q140 : (.instanceMethod yX3_read : Cond) ∈ wA := wA_1 (List.mem_of_getElem? (i := 210) (by decide +kernel)) rfl
theorem q141 : (.selects RX3 yX3_read yX3_read : Cond) ∈ wA := wA_1 (List.mem_of_getElem? (i := 211) (by decide +kernel)) rfl
theorem q142 : (.code yX3_read cX3_read 2 (some .int) : Cond) ∈ wA := wA_1 (List.mem_of_getElem? (i := 212) (by decide +kernel)) rfl
theorem q143 : (.methodLink RX3 40 yX3_readsThrice : Cond) ∈ wA := wA_1 (List.mem_of_getElem? (i := 213) (by decide +kernel)) rfl
theorem q144 : (.instanceMethod yX3_readsThrice : Cond) ∈ wA := wA_1 (List.mem_of_getElem? (i := 214) (by decide +kernel)) rfl
theorem q145 : (.selects RX3 yX3_readsThrice yX3_readsThrice : Cond) ∈ wA := wA_1 (List.mem_of_getElem? (i := 215) (by decide +kernel)) rfl
theorem q146 : (.code yX3_readsThrice cX3_readsThrice 1 (some .boolean) : Cond) ∈ wA := wA_1 (List.mem_of_getElem? (i := 216) (by decide +kernel)) rfl
theorem q147 : (.methodLink RX3 44 yX3_readAt : Cond) ∈ wA := wA_1 (List.mem_of_getElem? (i := 217) (by decide +kernel)) rfl
theorem q148 : (.instanceMethod yX3_readAt : Cond) ∈ wA := wA_1 (List.mem_of_getElem? (i := 218) (by decide +kernel)) rfl
theorem q149 : (.selects RX3 yX3_readAt yX3_readAt : Cond) ∈ wA := wA_1 (List.mem_of_getElem? (i := 219) (by decide +kernel)) rfl
theorem q150 : (.code yX3_readAt cX3_readAt 8 (some .int) : Cond) ∈ wA := wA_1 (List.mem_of_getElem? (i := 220) (by decide +kernel)) rfl
theorem q151 : (.constant RX3 37 (37449) : Cond) ∈ wA := wA_1 (List.mem_of_getElem? (i := 221) (by decide +kernel)) rfl
theorem q152 : (.constant RX3 38 (74898) : Cond) ∈ wA := wA_1 (List.mem_of_getElem? (i := 222) (by decide +kernel)) rfl
theorem q153 : (.constant RX3 39 (149796) : Cond) ∈ wA := wA_1 (List.mem_of_getElem? (i := 223) (by decide +kernel)) rfl
theorem q154 : (.methodLink RX3 65 yX3_isLocked : Cond) ∈ wA := wA_1 (List.mem_of_getElem? (i := 224) (by decide +kernel)) rfl
theorem q155 : (.instanceMethod yX3_isLocked : Cond) ∈ wA := wA_1 (List.mem_of_getElem? (i := 225) (by decide +kernel)) rfl
theorem q156 : (.selects RX3 yX3_isLocked yX3_isLocked : Cond) ∈ wA := wA_1 (List.mem_of_getElem? (i := 226) (by decide +kernel)) rfl
theorem q157 : (.code yX3_isLocked cX3_isLocked 2 (some .boolean) : Cond) ∈ wA := wA_1 (List.mem_of_getElem? (i := 227) (by decide +kernel)) rfl
theorem q158 : (.methodLink RX3 72 yX0_keyOf : Cond) ∈ wA := wA_1 (List.mem_of_getElem? (i := 228) (by decide +kernel)) rfl
theorem q159 : (.static yX0_keyOf : Cond) ∈ wA := wA_1 (List.mem_of_getElem? (i := 229) (by decide +kernel)) rfl
theorem q160 : (.code yX0_keyOf cX0_keyOf 1 (some .int) : Cond) ∈ wA := wA_1 (List.mem_of_getElem? (i := 230) (by decide +kernel)) rfl
theorem q161 : (.methodLink RX3 52 yX0_kindOf : Cond) ∈ wA := wA_1 (List.mem_of_getElem? (i := 231) (by decide +kernel)) rfl
theorem q162 : (.static yX0_kindOf : Cond) ∈ wA := wA_1 (List.mem_of_getElem? (i := 232) (by decide +kernel)) rfl
theorem q163 : (.code yX0_kindOf cX0_kindOf 2 (some .int) : Cond) ∈ wA := wA_1 (List.mem_of_getElem? (i := 233) (by decide +kernel)) rfl
theorem q164 : (.methodLink RX0 11 yJ6_bitCount_0f7a4 : Cond) ∈ wA := wA_1 (List.mem_of_getElem? (i := 234) (by decide +kernel)) rfl
theorem q165 : (.static yJ6_bitCount_0f7a4 : Cond) ∈ wA := wA_1 (List.mem_of_getElem? (i := 235) (by decide +kernel)) rfl
theorem q166 : (.code yJ6_bitCount_0f7a4 cJ6_bitCount_0f7a4 1 (some .int) : Cond) ∈ wA := wA_1 (List.mem_of_getElem? (i := 236) (by decide +kernel)) rfl
theorem q167 : (.constant RJ6 265 (1431655765) : Cond) ∈ wA := wA_1 (List.mem_of_getElem? (i := 237) (by decide +kernel)) rfl
theorem q168 : (.constant RJ6 266 (858993459) : Cond) ∈ wA := wA_1 (List.mem_of_getElem? (i := 238) (by decide +kernel)) rfl
theorem q169 : (.constant RJ6 267 (252645135) : Cond) ∈ wA := wA_1 (List.mem_of_getElem? (i := 239) (by decide +kernel)) rfl
theorem q170 : (.methodLink RX0 17 yX0_checkOf : Cond) ∈ wA := wA_2 (List.mem_of_getElem? (i := 0) (by decide +kernel)) rfl
theorem q171 : (.static yX0_checkOf : Cond) ∈ wA := wA_2 (List.mem_of_getElem? (i := 1) (by decide +kernel)) rfl
theorem q172 : (.code yX0_checkOf cX0_checkOf 1 (some .int) : Cond) ∈ wA := wA_2 (List.mem_of_getElem? (i := 2) (by decide +kernel)) rfl
theorem q173 : (.methodLink RX3 97 yX3_blowFuse : Cond) ∈ wA := wA_2 (List.mem_of_getElem? (i := 3) (by decide +kernel)) rfl
theorem q174 : (.instanceMethod yX3_blowFuse : Cond) ∈ wA := wA_2 (List.mem_of_getElem? (i := 4) (by decide +kernel)) rfl
theorem q175 : (.selects RX3 yX3_blowFuse yX3_blowFuse : Cond) ∈ wA := wA_2 (List.mem_of_getElem? (i := 5) (by decide +kernel)) rfl
theorem q176 : (.code yX3_blowFuse cX3_blowFuse 5 none : Cond) ∈ wA := wA_2 (List.mem_of_getElem? (i := 6) (by decide +kernel)) rfl
theorem q177 : (.methodLink RX3 94 yX3_strength : Cond) ∈ wA := wA_2 (List.mem_of_getElem? (i := 7) (by decide +kernel)) rfl
theorem q178 : (.instanceMethod yX3_strength : Cond) ∈ wA := wA_2 (List.mem_of_getElem? (i := 8) (by decide +kernel)) rfl
theorem q179 : (.selects RX3 yX3_strength yX3_strength : Cond) ∈ wA := wA_2 (List.mem_of_getElem? (i := 9) (by decide +kernel)) rfl
theorem q180 : (.code yX3_strength cX3_strength 3 (some .int) : Cond) ∈ wA := wA_2 (List.mem_of_getElem? (i := 10) (by decide +kernel)) rfl
theorem q181 : (.methodLink RX3 88 Lib.Math.max.name : Cond) ∈ wA := wA_2 (List.mem_of_getElem? (i := 11) (by decide +kernel)) rfl
theorem q182 : (.static Lib.Math.max.name : Cond) ∈ wA := wA_2 (List.mem_of_getElem? (i := 12) (by decide +kernel)) rfl
theorem q183 : (.code Lib.Math.max.name Lib.Math.max.code 2 (some .int) : Cond) ∈ wA := wA_2 (List.mem_of_getElem? (i := 13) (by decide +kernel)) rfl
theorem q184 : (.methodLink RL 90 yX4_lock : Cond) ∈ wA := wA_2 (List.mem_of_getElem? (i := 14) (by decide +kernel)) rfl
theorem q185 : (.instanceMethod yX4_lock : Cond) ∈ wA := wA_2 (List.mem_of_getElem? (i := 15) (by decide +kernel)) rfl
theorem q186 : (.selects RX4 yX4_lock yX4_lock : Cond) ∈ wA := wA_2 (List.mem_of_getElem? (i := 16) (by decide +kernel)) rfl
theorem q187 : (.code yX4_lock cX4_lock 2 (some .int) : Cond) ∈ wA := wA_2 (List.mem_of_getElem? (i := 17) (by decide +kernel)) rfl
theorem q188 : (.methodLink RX4 37 yX4_requireIndex : Cond) ∈ wA := wA_2 (List.mem_of_getElem? (i := 18) (by decide +kernel)) rfl
theorem q189 : (.static yX4_requireIndex : Cond) ∈ wA := wA_2 (List.mem_of_getElem? (i := 19) (by decide +kernel)) rfl
theorem q190 : (.code yX4_requireIndex cX4_requireIndex 1 none : Cond) ∈ wA := wA_2 (List.mem_of_getElem? (i := 20) (by decide +kernel)) rfl
theorem q191 : (.classLink RX4 200 "java/lang/IndexOutOfBoundsException" : Cond) ∈ wA := wA_2 (List.mem_of_getElem? (i := 21) (by decide +kernel)) rfl
theorem q192 : (.instantiable "java/lang/IndexOutOfBoundsException" 6 : Cond) ∈ wA := wA_2 (List.mem_of_getElem? (i := 22) (by decide +kernel)) rfl
theorem q193 : (.castable "java/lang/IndexOutOfBoundsException" "java/lang/IndexOutOfBoundsException" : Cond) ∈ lw_tbl := wT_2 (List.mem_of_getElem? (i := 23) (by decide +kernel))
theorem q194 : (.selects "java/lang/IndexOutOfBoundsException" ⟨"java/lang/Throwable", "fillInStackTrace", "(I)Ljava/lang/Throwable;"⟩ ⟨"java/lang/Throwable", "fillInStackTrace", "(I)Ljava/lang/Throwable;"⟩ : Cond) ∈ wA := wA_2 (List.mem_of_getElem? (i := 24) (by decide +kernel)) rfl
theorem q195 : (.methodLink RX4 204 ⟨"java/lang/IndexOutOfBoundsException", "<init>", "(Ljava/lang/String;)V"⟩ : Cond) ∈ wA := wA_2 (List.mem_of_getElem? (i := 31) (by decide +kernel)) rfl
theorem q196 : (.instanceMethod ⟨"java/lang/IndexOutOfBoundsException", "<init>", "(Ljava/lang/String;)V"⟩ : Cond) ∈ wA := wA_2 (List.mem_of_getElem? (i := 32) (by decide +kernel)) rfl
theorem q197 : (.code ⟨"java/lang/IndexOutOfBoundsException", "<init>", "(Ljava/lang/String;)V"⟩ prog_11_method_2_code 2 none : Cond) ∈ wA := wA_2 (List.mem_of_getElem? (i := 33) (by decide +kernel)) rfl
theorem q198 : (.methodLink "java/lang/IndexOutOfBoundsException" 7 ⟨"java/lang/RuntimeException", "<init>", "(Ljava/lang/String;)V"⟩ : Cond) ∈ wA := wA_2 (List.mem_of_getElem? (i := 34) (by decide +kernel)) rfl
theorem q199 : (.methodLink RX4 48 yX3_isLocked : Cond) ∈ wA := wA_2 (List.mem_of_getElem? (i := 37) (by decide +kernel)) rfl
theorem q200 : (.methodLink RX4 52 yX4_requireState : Cond) ∈ wA := wA_2 (List.mem_of_getElem? (i := 38) (by decide +kernel)) rfl
theorem q201 : (.static yX4_requireState : Cond) ∈ wA := wA_2 (List.mem_of_getElem? (i := 39) (by decide +kernel)) rfl
theorem q202 : (.code yX4_requireState cX4_requireState 1 none : Cond) ∈ wA := wA_2 (List.mem_of_getElem? (i := 40) (by decide +kernel)) rfl
theorem q203 : (.classLink RX4 212 "java/lang/IllegalStateException" : Cond) ∈ wA := wA_2 (List.mem_of_getElem? (i := 41) (by decide +kernel)) rfl
theorem q204 : (.instantiable "java/lang/IllegalStateException" 6 : Cond) ∈ wA := wA_2 (List.mem_of_getElem? (i := 42) (by decide +kernel)) rfl
theorem q205 : (.castable "java/lang/IllegalStateException" "java/lang/IllegalStateException" : Cond) ∈ lw_tbl := wT_2 (List.mem_of_getElem? (i := 43) (by decide +kernel))
theorem q206 : (.selects "java/lang/IllegalStateException" ⟨"java/lang/Throwable", "fillInStackTrace", "(I)Ljava/lang/Throwable;"⟩ ⟨"java/lang/Throwable", "fillInStackTrace", "(I)Ljava/lang/Throwable;"⟩ : Cond) ∈ wA := wA_2 (List.mem_of_getElem? (i := 44) (by decide +kernel)) rfl
theorem q207 : (.methodLink RX4 216 ⟨"java/lang/IllegalStateException", "<init>", "(Ljava/lang/String;)V"⟩ : Cond) ∈ wA := wA_2 (List.mem_of_getElem? (i := 51) (by decide +kernel)) rfl
theorem q208 : (.instanceMethod ⟨"java/lang/IllegalStateException", "<init>", "(Ljava/lang/String;)V"⟩ : Cond) ∈ wA := wA_2 (List.mem_of_getElem? (i := 52) (by decide +kernel)) rfl
theorem q209 : (.code ⟨"java/lang/IllegalStateException", "<init>", "(Ljava/lang/String;)V"⟩ prog_10_method_2_code 2 none : Cond) ∈ wA := wA_2 (List.mem_of_getElem? (i := 53) (by decide +kernel)) rfl
theorem q210 : (.methodLink "java/lang/IllegalStateException" 7 ⟨"java/lang/RuntimeException", "<init>", "(Ljava/lang/String;)V"⟩ : Cond) ∈ wA := wA_2 (List.mem_of_getElem? (i := 54) (by decide +kernel)) rfl
theorem q211 : (.methodLink RX4 59 yX3_blowFuse : Cond) ∈ wA := wA_2 (List.mem_of_getElem? (i := 57) (by decide +kernel)) rfl
theorem q212 : (.methodLink RX4 78 yX3_lockedRows : Cond) ∈ wA := wA_2 (List.mem_of_getElem? (i := 58) (by decide +kernel)) rfl
theorem q213 : (.instanceMethod yX3_lockedRows : Cond) ∈ wA := wA_2 (List.mem_of_getElem? (i := 59) (by decide +kernel)) rfl
theorem q214 : (.selects RX3 yX3_lockedRows yX3_lockedRows : Cond) ∈ wA := wA_2 (List.mem_of_getElem? (i := 60) (by decide +kernel)) rfl
theorem q215 : (.code yX3_lockedRows cX3_lockedRows 3 (some .int) : Cond) ∈ wA := wA_2 (List.mem_of_getElem? (i := 61) (by decide +kernel)) rfl
theorem q216 : (.methodLink RL 84 yX4_pass : Cond) ∈ wA := wA_2 (List.mem_of_getElem? (i := 62) (by decide +kernel)) rfl
theorem q217 : (.instanceMethod yX4_pass : Cond) ∈ wA := wA_2 (List.mem_of_getElem? (i := 63) (by decide +kernel)) rfl
theorem q218 : (.selects RX4 yX4_pass yX4_pass : Cond) ∈ wA := wA_2 (List.mem_of_getElem? (i := 64) (by decide +kernel)) rfl
theorem q219 : (.code yX4_pass cX4_pass 2 (some .int) : Cond) ∈ wA := wA_2 (List.mem_of_getElem? (i := 65) (by decide +kernel)) rfl
theorem q220 : (.methodLink RX4 41 yX4_isWithin : Cond) ∈ wA := wA_2 (List.mem_of_getElem? (i := 66) (by decide +kernel)) rfl
theorem q221 : (.static yX4_isWithin : Cond) ∈ wA := wA_2 (List.mem_of_getElem? (i := 67) (by decide +kernel)) rfl
theorem q222 : (.code yX4_isWithin cX4_isWithin 3 (some .boolean) : Cond) ∈ wA := wA_2 (List.mem_of_getElem? (i := 68) (by decide +kernel)) rfl
theorem q223 : (.methodLink RL 76 yX4_set : Cond) ∈ wA := wA_2 (List.mem_of_getElem? (i := 69) (by decide +kernel)) rfl
theorem q224 : (.instanceMethod yX4_set : Cond) ∈ wA := wA_2 (List.mem_of_getElem? (i := 70) (by decide +kernel)) rfl
theorem q225 : (.selects RX4 yX4_set yX4_set : Cond) ∈ wA := wA_2 (List.mem_of_getElem? (i := 71) (by decide +kernel)) rfl
theorem q226 : (.code yX4_set cX4_set 4 (some .int) : Cond) ∈ wA := wA_2 (List.mem_of_getElem? (i := 72) (by decide +kernel)) rfl
theorem q227 : (.fieldLink RX4 92 "FuseRows" "LOWEST_SETTING" "[I" : Cond) ∈ wA := wA_2 (List.mem_of_getElem? (i := 73) (by decide +kernel)) rfl
theorem q228 : (.laysStatic RX4 "LOWEST_SETTING" "[I" : Cond) ∈ lw_tbl := wT_2 (List.mem_of_getElem? (i := 74) (by decide +kernel))
theorem q229 : (.fieldLink RX4 96 "FuseRows" "HIGHEST_SETTING" "[I" : Cond) ∈ wA := wA_2 (List.mem_of_getElem? (i := 75) (by decide +kernel)) rfl
theorem q230 : (.laysStatic RX4 "HIGHEST_SETTING" "[I" : Cond) ∈ lw_tbl := wT_2 (List.mem_of_getElem? (i := 76) (by decide +kernel))
theorem q231 : (.methodLink RL 27 yX4_row : Cond) ∈ wA := wA_2 (List.mem_of_getElem? (i := 77) (by decide +kernel)) rfl
theorem q232 : (.instanceMethod yX4_row : Cond) ∈ wA := wA_2 (List.mem_of_getElem? (i := 78) (by decide +kernel)) rfl
theorem q233 : (.selects RX4 yX4_row yX4_row : Cond) ∈ wA := wA_2 (List.mem_of_getElem? (i := 79) (by decide +kernel)) rfl
theorem q234 : (.code yX4_row cX4_row 3 (some .int) : Cond) ∈ wA := wA_2 (List.mem_of_getElem? (i := 80) (by decide +kernel)) rfl
theorem q235 : (.methodLink RX4 142 yX4_rowProperty : Cond) ∈ wA := wA_2 (List.mem_of_getElem? (i := 81) (by decide +kernel)) rfl
theorem q236 : (.instanceMethod yX4_rowProperty : Cond) ∈ wA := wA_2 (List.mem_of_getElem? (i := 83) (by decide +kernel)) rfl
theorem q237 : (.code yX4_rowProperty cX4_rowProperty 4 (some .int) : Cond) ∈ wA := wA_2 (List.mem_of_getElem? (i := 84) (by decide +kernel)) rfl
theorem q238 : (.methodLink RX4 229 yX3_read : Cond) ∈ wA := wA_2 (List.mem_of_getElem? (i := 85) (by decide +kernel)) rfl
theorem q239 : (.methodLink RX4 232 yX0_kindOf : Cond) ∈ wA := wA_2 (List.mem_of_getElem? (i := 86) (by decide +kernel)) rfl
theorem q240 : (.methodLink RX4 237 yX0_keyOf : Cond) ∈ wA := wA_2 (List.mem_of_getElem? (i := 87) (by decide +kernel)) rfl
theorem q241 : (.methodLink RX4 240 yX0_valueOf : Cond) ∈ wA := wA_2 (List.mem_of_getElem? (i := 88) (by decide +kernel)) rfl
theorem q242 : (.static yX0_valueOf : Cond) ∈ wA := wA_2 (List.mem_of_getElem? (i := 89) (by decide +kernel)) rfl
theorem q243 : (.code yX0_valueOf cX0_valueOf 1 (some .int) : Cond) ∈ wA := wA_2 (List.mem_of_getElem? (i := 90) (by decide +kernel)) rfl
theorem q244 : (.methodLink RX4 243 yX0_checkOf : Cond) ∈ wA := wA_2 (List.mem_of_getElem? (i := 91) (by decide +kernel)) rfl
theorem q245 : (.methodLink RX4 246 yX0_zerosOf : Cond) ∈ wA := wA_2 (List.mem_of_getElem? (i := 92) (by decide +kernel)) rfl
theorem q246 : (.static yX0_zerosOf : Cond) ∈ wA := wA_2 (List.mem_of_getElem? (i := 93) (by decide +kernel)) rfl
theorem q247 : (.code yX0_zerosOf cX0_zerosOf 1 (some .int) : Cond) ∈ wA := wA_2 (List.mem_of_getElem? (i := 94) (by decide +kernel)) rfl
theorem q248 : (.methodLink RX4 164 yX3_doubtfulFuses : Cond) ∈ wA := wA_2 (List.mem_of_getElem? (i := 95) (by decide +kernel)) rfl
theorem q249 : (.instanceMethod yX3_doubtfulFuses : Cond) ∈ wA := wA_2 (List.mem_of_getElem? (i := 96) (by decide +kernel)) rfl
theorem q250 : (.selects RX3 yX3_doubtfulFuses yX3_doubtfulFuses : Cond) ∈ wA := wA_2 (List.mem_of_getElem? (i := 97) (by decide +kernel)) rfl
theorem q251 : (.code yX3_doubtfulFuses cX3_doubtfulFuses 2 (some .int) : Cond) ∈ wA := wA_2 (List.mem_of_getElem? (i := 98) (by decide +kernel)) rfl
theorem q252 : (.methodLink RX3 57 yJ6_bitCount_0f7a4 : Cond) ∈ wA := wA_2 (List.mem_of_getElem? (i := 99) (by decide +kernel)) rfl
theorem q253 : (.methodLink RX4 249 yX3_strengthSum : Cond) ∈ wA := wA_2 (List.mem_of_getElem? (i := 100) (by decide +kernel)) rfl
theorem q254 : (.instanceMethod yX3_strengthSum : Cond) ∈ wA := wA_2 (List.mem_of_getElem? (i := 101) (by decide +kernel)) rfl
theorem q255 : (.selects RX3 yX3_strengthSum yX3_strengthSum : Cond) ∈ wA := wA_2 (List.mem_of_getElem? (i := 102) (by decide +kernel)) rfl
theorem q256 : (.code yX3_strengthSum cX3_strengthSum 2 (some .int) : Cond) ∈ wA := wA_2 (List.mem_of_getElem? (i := 103) (by decide +kernel)) rfl
theorem q257 : (.methodLink RL 20 yX4_key : Cond) ∈ wA := wA_2 (List.mem_of_getElem? (i := 104) (by decide +kernel)) rfl
theorem q258 : (.instanceMethod yX4_key : Cond) ∈ wA := wA_2 (List.mem_of_getElem? (i := 105) (by decide +kernel)) rfl
theorem q259 : (.selects RX4 yX4_key yX4_key : Cond) ∈ wA := wA_2 (List.mem_of_getElem? (i := 106) (by decide +kernel)) rfl
theorem q260 : (.code yX4_key cX4_key 3 (some .int) : Cond) ∈ wA := wA_2 (List.mem_of_getElem? (i := 107) (by decide +kernel)) rfl
theorem q261 : (.methodLink RX4 145 yX4_keyProperty : Cond) ∈ wA := wA_2 (List.mem_of_getElem? (i := 108) (by decide +kernel)) rfl
theorem q262 : (.instanceMethod yX4_keyProperty : Cond) ∈ wA := wA_2 (List.mem_of_getElem? (i := 110) (by decide +kernel)) rfl
theorem q263 : (.code yX4_keyProperty cX4_keyProperty 3 (some .int) : Cond) ∈ wA := wA_2 (List.mem_of_getElem? (i := 111) (by decide +kernel)) rfl
theorem q264 : (.methodLink RX4 252 yX3_valueOfKey : Cond) ∈ wA := wA_2 (List.mem_of_getElem? (i := 112) (by decide +kernel)) rfl
theorem q265 : (.instanceMethod yX3_valueOfKey : Cond) ∈ wA := wA_2 (List.mem_of_getElem? (i := 113) (by decide +kernel)) rfl
theorem q266 : (.selects RX3 yX3_valueOfKey yX3_valueOfKey : Cond) ∈ wA := wA_2 (List.mem_of_getElem? (i := 114) (by decide +kernel)) rfl
theorem q267 : (.code yX3_valueOfKey cX3_valueOfKey 2 (some .int) : Cond) ∈ wA := wA_2 (List.mem_of_getElem? (i := 115) (by decide +kernel)) rfl
theorem q268 : (.methodLink RX3 81 yX3_valueAt : Cond) ∈ wA := wA_2 (List.mem_of_getElem? (i := 116) (by decide +kernel)) rfl
theorem q269 : (.instanceMethod yX3_valueAt : Cond) ∈ wA := wA_2 (List.mem_of_getElem? (i := 117) (by decide +kernel)) rfl
theorem q270 : (.selects RX3 yX3_valueAt yX3_valueAt : Cond) ∈ wA := wA_2 (List.mem_of_getElem? (i := 118) (by decide +kernel)) rfl
theorem q271 : (.code yX3_valueAt cX3_valueAt 5 (some .int) : Cond) ∈ wA := wA_2 (List.mem_of_getElem? (i := 119) (by decide +kernel)) rfl
theorem q272 : (.methodLink RX3 75 yX3_entryRow : Cond) ∈ wA := wA_2 (List.mem_of_getElem? (i := 120) (by decide +kernel)) rfl
theorem q273 : (.instanceMethod yX3_entryRow : Cond) ∈ wA := wA_2 (List.mem_of_getElem? (i := 121) (by decide +kernel)) rfl
theorem q274 : (.selects RX3 yX3_entryRow yX3_entryRow : Cond) ∈ wA := wA_2 (List.mem_of_getElem? (i := 122) (by decide +kernel)) rfl
theorem q275 : (.code yX3_entryRow cX3_entryRow 6 (some .int) : Cond) ∈ wA := wA_2 (List.mem_of_getElem? (i := 123) (by decide +kernel)) rfl
theorem q276 : (.methodLink RX3 78 yX0_valueOf : Cond) ∈ wA := wA_2 (List.mem_of_getElem? (i := 124) (by decide +kernel)) rfl
theorem q277 : (.methodLink RX4 255 yX3_readsThrice : Cond) ∈ wA := wA_2 (List.mem_of_getElem? (i := 125) (by decide +kernel)) rfl
theorem q278 : (.methodLink RX4 258 yX3_entryRow : Cond) ∈ wA := wA_2 (List.mem_of_getElem? (i := 126) (by decide +kernel)) rfl
theorem q279 : (.methodLink RX4 261 yX3_entriesOf : Cond) ∈ wA := wA_2 (List.mem_of_getElem? (i := 127) (by decide +kernel)) rfl
theorem q280 : (.instanceMethod yX3_entriesOf : Cond) ∈ wA := wA_2 (List.mem_of_getElem? (i := 128) (by decide +kernel)) rfl
theorem q281 : (.selects RX3 yX3_entriesOf yX3_entriesOf : Cond) ∈ wA := wA_2 (List.mem_of_getElem? (i := 129) (by decide +kernel)) rfl
theorem q282 : (.code yX3_entriesOf cX3_entriesOf 5 (some .int) : Cond) ∈ wA := wA_2 (List.mem_of_getElem? (i := 130) (by decide +kernel)) rfl
theorem q283 : (.methodLink RX4 264 yX3_rowsOf : Cond) ∈ wA := wA_2 (List.mem_of_getElem? (i := 131) (by decide +kernel)) rfl
theorem q284 : (.instanceMethod yX3_rowsOf : Cond) ∈ wA := wA_2 (List.mem_of_getElem? (i := 132) (by decide +kernel)) rfl
theorem q285 : (.selects RX3 yX3_rowsOf yX3_rowsOf : Cond) ∈ wA := wA_2 (List.mem_of_getElem? (i := 133) (by decide +kernel)) rfl
theorem q286 : (.code yX3_rowsOf cX3_rowsOf 4 (some .int) : Cond) ∈ wA := wA_2 (List.mem_of_getElem? (i := 134) (by decide +kernel)) rfl
theorem q287 : (.methodLink RX3 84 yX3_isRowOf : Cond) ∈ wA := wA_2 (List.mem_of_getElem? (i := 135) (by decide +kernel)) rfl
theorem q288 : (.instanceMethod yX3_isRowOf : Cond) ∈ wA := wA_2 (List.mem_of_getElem? (i := 136) (by decide +kernel)) rfl
theorem q289 : (.selects RX3 yX3_isRowOf yX3_isRowOf : Cond) ∈ wA := wA_2 (List.mem_of_getElem? (i := 137) (by decide +kernel)) rfl
theorem q290 : (.code yX3_isRowOf cX3_isRowOf 5 (some .boolean) : Cond) ∈ wA := wA_2 (List.mem_of_getElem? (i := 138) (by decide +kernel)) rfl
theorem q291 : (.methodLink RX4 267 yX3_greatestValue : Cond) ∈ wA := wA_2 (List.mem_of_getElem? (i := 139) (by decide +kernel)) rfl
theorem q292 : (.instanceMethod yX3_greatestValue : Cond) ∈ wA := wA_2 (List.mem_of_getElem? (i := 140) (by decide +kernel)) rfl
theorem q293 : (.selects RX3 yX3_greatestValue yX3_greatestValue : Cond) ∈ wA := wA_2 (List.mem_of_getElem? (i := 141) (by decide +kernel)) rfl
theorem q294 : (.code yX3_greatestValue cX3_greatestValue 4 (some .int) : Cond) ∈ wA := wA_2 (List.mem_of_getElem? (i := 142) (by decide +kernel)) rfl
theorem q295 : (.methodLink RX4 270 yX3_steadyReadings : Cond) ∈ wA := wA_2 (List.mem_of_getElem? (i := 143) (by decide +kernel)) rfl
theorem q296 : (.instanceMethod yX3_steadyReadings : Cond) ∈ wA := wA_2 (List.mem_of_getElem? (i := 144) (by decide +kernel)) rfl
theorem q297 : (.selects RX3 yX3_steadyReadings yX3_steadyReadings : Cond) ∈ wA := wA_2 (List.mem_of_getElem? (i := 145) (by decide +kernel)) rfl
theorem q298 : (.code yX3_steadyReadings cX3_steadyReadings 5 (some .int) : Cond) ∈ wA := wA_2 (List.mem_of_getElem? (i := 146) (by decide +kernel)) rfl
theorem q299 : (.methodLink RL 10 yX4_count : Cond) ∈ wA := wA_2 (List.mem_of_getElem? (i := 147) (by decide +kernel)) rfl
theorem q300 : (.instanceMethod yX4_count : Cond) ∈ wA := wA_2 (List.mem_of_getElem? (i := 148) (by decide +kernel)) rfl
theorem q301 : (.selects RX4 yX4_count yX4_count : Cond) ∈ wA := wA_2 (List.mem_of_getElem? (i := 149) (by decide +kernel)) rfl
theorem q302 : (.code yX4_count cX4_count 2 (some .int) : Cond) ∈ wA := wA_2 (List.mem_of_getElem? (i := 150) (by decide +kernel)) rfl
theorem q303 : (.methodLink RX4 151 yX4_countOf : Cond) ∈ wA := wA_2 (List.mem_of_getElem? (i := 151) (by decide +kernel)) rfl
theorem q304 : (.instanceMethod yX4_countOf : Cond) ∈ wA := wA_2 (List.mem_of_getElem? (i := 153) (by decide +kernel)) rfl
theorem q305 : (.code yX4_countOf cX4_countOf 2 (some .int) : Cond) ∈ wA := wA_2 (List.mem_of_getElem? (i := 154) (by decide +kernel)) rfl
theorem q306 : (.methodLink RX4 273 yX3_allDoubtfulFuses : Cond) ∈ wA := wA_2 (List.mem_of_getElem? (i := 155) (by decide +kernel)) rfl
theorem q307 : (.instanceMethod yX3_allDoubtfulFuses : Cond) ∈ wA := wA_2 (List.mem_of_getElem? (i := 156) (by decide +kernel)) rfl
theorem q308 : (.selects RX3 yX3_allDoubtfulFuses yX3_allDoubtfulFuses : Cond) ∈ wA := wA_2 (List.mem_of_getElem? (i := 157) (by decide +kernel)) rfl
theorem q309 : (.code yX3_allDoubtfulFuses cX3_allDoubtfulFuses 3 (some .int) : Cond) ∈ wA := wA_2 (List.mem_of_getElem? (i := 158) (by decide +kernel)) rfl
theorem q310 : (.methodLink RX3 62 yX3_doubtfulFuses : Cond) ∈ wA := wA_2 (List.mem_of_getElem? (i := 159) (by decide +kernel)) rfl
theorem q311 : (.methodLink RX4 279 yX3_keysWithValue : Cond) ∈ wA := wA_2 (List.mem_of_getElem? (i := 160) (by decide +kernel)) rfl
theorem q312 : (.instanceMethod yX3_keysWithValue : Cond) ∈ wA := wA_2 (List.mem_of_getElem? (i := 161) (by decide +kernel)) rfl
theorem q313 : (.selects RX3 yX3_keysWithValue yX3_keysWithValue : Cond) ∈ wA := wA_2 (List.mem_of_getElem? (i := 162) (by decide +kernel)) rfl
theorem q314 : (.code yX3_keysWithValue cX3_keysWithValue 3 (some .int) : Cond) ∈ wA := wA_2 (List.mem_of_getElem? (i := 163) (by decide +kernel)) rfl
theorem q315 : (.methodLink RX4 67 yX3_nextRow : Cond) ∈ wA := wA_2 (List.mem_of_getElem? (i := 164) (by decide +kernel)) rfl
theorem q316 : (.instanceMethod yX3_nextRow : Cond) ∈ wA := wA_2 (List.mem_of_getElem? (i := 165) (by decide +kernel)) rfl
theorem q317 : (.selects RX3 yX3_nextRow yX3_nextRow : Cond) ∈ wA := wA_2 (List.mem_of_getElem? (i := 166) (by decide +kernel)) rfl
theorem q318 : (.code yX3_nextRow cX3_nextRow 2 (some .int) : Cond) ∈ wA := wA_2 (List.mem_of_getElem? (i := 167) (by decide +kernel)) rfl
theorem q319 : (.methodLink RX3 69 yX3_kind : Cond) ∈ wA := wA_2 (List.mem_of_getElem? (i := 168) (by decide +kernel)) rfl
theorem q320 : (.instanceMethod yX3_kind : Cond) ∈ wA := wA_2 (List.mem_of_getElem? (i := 169) (by decide +kernel)) rfl
theorem q321 : (.selects RX3 yX3_kind yX3_kind : Cond) ∈ wA := wA_2 (List.mem_of_getElem? (i := 170) (by decide +kernel)) rfl
theorem q322 : (.code yX3_kind cX3_kind 2 (some .int) : Cond) ∈ wA := wA_2 (List.mem_of_getElem? (i := 171) (by decide +kernel)) rfl
theorem q323 : (.methodLink RX4 285 yX3_rowsOfKind : Cond) ∈ wA := wA_2 (List.mem_of_getElem? (i := 172) (by decide +kernel)) rfl
theorem q324 : (.instanceMethod yX3_rowsOfKind : Cond) ∈ wA := wA_2 (List.mem_of_getElem? (i := 173) (by decide +kernel)) rfl
theorem q325 : (.selects RX3 yX3_rowsOfKind yX3_rowsOfKind : Cond) ∈ wA := wA_2 (List.mem_of_getElem? (i := 174) (by decide +kernel)) rfl
theorem q326 : (.code yX3_rowsOfKind cX3_rowsOfKind 4 (some .int) : Cond) ∈ wA := wA_2 (List.mem_of_getElem? (i := 175) (by decide +kernel)) rfl
theorem q327 : (.methodLink RL 24 yX4_setting : Cond) ∈ wA := wA_2 (List.mem_of_getElem? (i := 176) (by decide +kernel)) rfl
theorem q328 : (.instanceMethod yX4_setting : Cond) ∈ wA := wA_2 (List.mem_of_getElem? (i := 177) (by decide +kernel)) rfl
theorem q329 : (.selects RX4 yX4_setting yX4_setting : Cond) ∈ wA := wA_2 (List.mem_of_getElem? (i := 178) (by decide +kernel)) rfl
theorem q330 : (.code yX4_setting cX4_setting 2 (some .int) : Cond) ∈ wA := wA_2 (List.mem_of_getElem? (i := 179) (by decide +kernel)) rfl
theorem q331 : (.methodLink RL 16 yX4_ifPut : Cond) ∈ wA := wA_2 (List.mem_of_getElem? (i := 180) (by decide +kernel)) rfl
theorem q332 : (.instanceMethod yX4_ifPut : Cond) ∈ wA := wA_2 (List.mem_of_getElem? (i := 181) (by decide +kernel)) rfl
theorem q333 : (.selects RX4 yX4_ifPut yX4_ifPut : Cond) ∈ wA := wA_2 (List.mem_of_getElem? (i := 182) (by decide +kernel)) rfl
theorem q334 : (.code yX4_ifPut cX4_ifPut 4 (some .int) : Cond) ∈ wA := wA_2 (List.mem_of_getElem? (i := 183) (by decide +kernel)) rfl
theorem q335 : (.methodLink RX4 154 yX4_putOutcome : Cond) ∈ wA := wA_2 (List.mem_of_getElem? (i := 184) (by decide +kernel)) rfl
theorem q336 : (.instanceMethod yX4_putOutcome : Cond) ∈ wA := wA_2 (List.mem_of_getElem? (i := 186) (by decide +kernel)) rfl
theorem q337 : (.code yX4_putOutcome cX4_putOutcome 7 (some .int) : Cond) ∈ wA := wA_2 (List.mem_of_getElem? (i := 187) (by decide +kernel)) rfl
theorem q338 : (.methodLink RX4 288 yX3_copyFrom : Cond) ∈ wA := wA_2 (List.mem_of_getElem? (i := 188) (by decide +kernel)) rfl
theorem q339 : (.methodLink RX4 291 yX3_writeEntry : Cond) ∈ wA := wA_2 (List.mem_of_getElem? (i := 189) (by decide +kernel)) rfl
theorem q340 : (.instanceMethod yX3_writeEntry : Cond) ∈ wA := wA_2 (List.mem_of_getElem? (i := 190) (by decide +kernel)) rfl
theorem q341 : (.selects RX3 yX3_writeEntry yX3_writeEntry : Cond) ∈ wA := wA_2 (List.mem_of_getElem? (i := 191) (by decide +kernel)) rfl
theorem q342 : (.code yX3_writeEntry cX3_writeEntry 6 (some .int) : Cond) ∈ wA := wA_2 (List.mem_of_getElem? (i := 192) (by decide +kernel)) rfl
theorem q343 : (.methodLink RX3 112 yX0_ofEntry : Cond) ∈ wA := wA_2 (List.mem_of_getElem? (i := 193) (by decide +kernel)) rfl
theorem q344 : (.static yX0_ofEntry : Cond) ∈ wA := wA_2 (List.mem_of_getElem? (i := 194) (by decide +kernel)) rfl
theorem q345 : (.code yX0_ofEntry cX0_ofEntry 3 (some .int) : Cond) ∈ wA := wA_2 (List.mem_of_getElem? (i := 195) (by decide +kernel)) rfl
theorem q346 : (.methodLink RX0 20 yX0_zerosOf : Cond) ∈ wA := wA_2 (List.mem_of_getElem? (i := 196) (by decide +kernel)) rfl
theorem q347 : (.methodLink RX3 115 yX3_blowFuses : Cond) ∈ wA := wA_2 (List.mem_of_getElem? (i := 197) (by decide +kernel)) rfl
theorem q348 : (.instanceMethod yX3_blowFuses : Cond) ∈ wA := wA_2 (List.mem_of_getElem? (i := 198) (by decide +kernel)) rfl
theorem q349 : (.selects RX3 yX3_blowFuses yX3_blowFuses : Cond) ∈ wA := wA_2 (List.mem_of_getElem? (i := 199) (by decide +kernel)) rfl
theorem q350 : (.code yX3_blowFuses cX3_blowFuses 5 none : Cond) ∈ wA := wA_2 (List.mem_of_getElem? (i := 200) (by decide +kernel)) rfl
theorem q351 : (.methodLink RX3 118 yX3_tellsEntry : Cond) ∈ wA := wA_2 (List.mem_of_getElem? (i := 201) (by decide +kernel)) rfl
theorem q352 : (.instanceMethod yX3_tellsEntry : Cond) ∈ wA := wA_2 (List.mem_of_getElem? (i := 202) (by decide +kernel)) rfl
theorem q353 : (.selects RX3 yX3_tellsEntry yX3_tellsEntry : Cond) ∈ wA := wA_2 (List.mem_of_getElem? (i := 203) (by decide +kernel)) rfl
theorem q354 : (.code yX3_tellsEntry cX3_tellsEntry 5 (some .boolean) : Cond) ∈ wA := wA_2 (List.mem_of_getElem? (i := 204) (by decide +kernel)) rfl
theorem q355 : (.methodLink RX3 122 yX3_strengthenFuses : Cond) ∈ wA := wA_2 (List.mem_of_getElem? (i := 205) (by decide +kernel)) rfl
theorem q356 : (.instanceMethod yX3_strengthenFuses : Cond) ∈ wA := wA_2 (List.mem_of_getElem? (i := 206) (by decide +kernel)) rfl
theorem q357 : (.selects RX3 yX3_strengthenFuses yX3_strengthenFuses : Cond) ∈ wA := wA_2 (List.mem_of_getElem? (i := 207) (by decide +kernel)) rfl
theorem q358 : (.code yX3_strengthenFuses cX3_strengthenFuses 4 none : Cond) ∈ wA := wA_2 (List.mem_of_getElem? (i := 208) (by decide +kernel)) rfl
theorem q359 : (.methodLink RX4 294 yX3_markEarlier : Cond) ∈ wA := wA_2 (List.mem_of_getElem? (i := 209) (by decide +kernel)) rfl
theorem q360 : (.instanceMethod yX3_markEarlier : Cond) ∈ wA := wA_2 (List.mem_of_getElem? (i := 210) (by decide +kernel)) rfl
theorem q361 : (.selects RX3 yX3_markEarlier yX3_markEarlier : Cond) ∈ wA := wA_2 (List.mem_of_getElem? (i := 211) (by decide +kernel)) rfl
theorem q362 : (.code yX3_markEarlier cX3_markEarlier 3 (some .int) : Cond) ∈ wA := wA_2 (List.mem_of_getElem? (i := 212) (by decide +kernel)) rfl
theorem q363 : (.methodLink RX3 126 yX3_markEntries : Cond) ∈ wA := wA_2 (List.mem_of_getElem? (i := 213) (by decide +kernel)) rfl
theorem q364 : (.methodLink RX4 167 yX3_kind : Cond) ∈ wA := wA_2 (List.mem_of_getElem? (i := 214) (by decide +kernel)) rfl
theorem q365 : (.methodLink RL 99 yX4_ifRead : Cond) ∈ wA := wA_2 (List.mem_of_getElem? (i := 215) (by decide +kernel)) rfl
theorem q366 : (.instanceMethod yX4_ifRead : Cond) ∈ wA := wA_2 (List.mem_of_getElem? (i := 216) (by decide +kernel)) rfl
theorem q367 : (.selects RX4 yX4_ifRead yX4_ifRead : Cond) ∈ wA := wA_2 (List.mem_of_getElem? (i := 217) (by decide +kernel)) rfl
theorem q368 : (.code yX4_ifRead cX4_ifRead 3 (some .int) : Cond) ∈ wA := wA_2 (List.mem_of_getElem? (i := 218) (by decide +kernel)) rfl
theorem q369 : (.methodLink RX4 160 yX4_valuesReadOtherwise : Cond) ∈ wA := wA_2 (List.mem_of_getElem? (i := 219) (by decide +kernel)) rfl
theorem q370 : (.instanceMethod yX4_valuesReadOtherwise : Cond) ∈ wA := wA_2 (List.mem_of_getElem? (i := 221) (by decide +kernel)) rfl
theorem q371 : (.code yX4_valuesReadOtherwise cX4_valuesReadOtherwise 5 (some .int) : Cond) ∈ wA := wA_2 (List.mem_of_getElem? (i := 222) (by decide +kernel)) rfl
theorem q372 : (.methodLink RX4 297 yX3_valueAt : Cond) ∈ wA := wA_2 (List.mem_of_getElem? (i := 223) (by decide +kernel)) rfl
theorem q373 : (.methodLink RL 96 yX4_worst : Cond) ∈ wA := wA_2 (List.mem_of_getElem? (i := 224) (by decide +kernel)) rfl
theorem q374 : (.instanceMethod yX4_worst : Cond) ∈ wA := wA_2 (List.mem_of_getElem? (i := 225) (by decide +kernel)) rfl
theorem q375 : (.selects RX4 yX4_worst yX4_worst : Cond) ∈ wA := wA_2 (List.mem_of_getElem? (i := 226) (by decide +kernel)) rfl
theorem q376 : (.code yX4_worst cX4_worst 5 (some .int) : Cond) ∈ wA := wA_2 (List.mem_of_getElem? (i := 227) (by decide +kernel)) rfl
theorem q377 : (.methodLink RL 61 yX4_sureShare : Cond) ∈ wA := wA_2 (List.mem_of_getElem? (i := 228) (by decide +kernel)) rfl
theorem q378 : (.instanceMethod yX4_sureShare : Cond) ∈ wA := wA_2 (List.mem_of_getElem? (i := 229) (by decide +kernel)) rfl
theorem q379 : (.selects RX4 yX4_sureShare yX4_sureShare : Cond) ∈ wA := wA_2 (List.mem_of_getElem? (i := 230) (by decide +kernel)) rfl
theorem q380 : (.code yX4_sureShare cX4_sureShare 4 (some .double) : Cond) ∈ wA := wA_2 (List.mem_of_getElem? (i := 231) (by decide +kernel)) rfl
theorem q381 : (.methodLink RX4 176 yJ6_bitCount_0f7a4 : Cond) ∈ wA := wA_2 (List.mem_of_getElem? (i := 232) (by decide +kernel)) rfl
theorem q382 : (.methodLink RL 69 yL_cell : Cond) ∈ wA := wA_2 (List.mem_of_getElem? (i := 233) (by decide +kernel)) rfl
theorem q383 : (.static yL_cell : Cond) ∈ wA := wA_2 (List.mem_of_getElem? (i := 234) (by decide +kernel)) rfl
theorem q384 : (.code yL_cell cL_cell 2 (some .int) : Cond) ∈ wA := wA_2 (List.mem_of_getElem? (i := 235) (by decide +kernel)) rfl
theorem q385 : (.constant RL 7 (32452867) : Cond) ∈ wA := wA_2 (List.mem_of_getElem? (i := 236) (by decide +kernel)) rfl
theorem q386 : (.constant RL 8 (49979687) : Cond) ∈ wA := wA_2 (List.mem_of_getElem? (i := 237) (by decide +kernel)) rfl
theorem q387 : (.methodLink RL 33 yL_low : Cond) ∈ wA := wA_2 (List.mem_of_getElem? (i := 238) (by decide +kernel)) rfl
theorem q388 : (.static yL_low : Cond) ∈ wA := wA_2 (List.mem_of_getElem? (i := 239) (by decide +kernel)) rfl
theorem q389 : (.code yL_low cL_low 2 (some .int) : Cond) ∈ wA := wA_3 (List.mem_of_getElem? (i := 0) (by decide +kernel)) rfl
theorem q390 : (.constant RL 9 (2147483647) : Cond) ∈ wA := wA_3 (List.mem_of_getElem? (i := 1) (by decide +kernel)) rfl
theorem q391 : (.methodLink RL 73 yL_put : Cond) ∈ wA := wA_3 (List.mem_of_getElem? (i := 2) (by decide +kernel)) rfl
theorem q392 : (.static yL_put : Cond) ∈ wA := wA_3 (List.mem_of_getElem? (i := 3) (by decide +kernel)) rfl
theorem q393 : (.code yL_put cL_put 13 (some .boolean) : Cond) ∈ wA := wA_3 (List.mem_of_getElem? (i := 4) (by decide +kernel)) rfl
theorem q394 : (.methodLink RL 30 yX4_put : Cond) ∈ wA := wA_3 (List.mem_of_getElem? (i := 5) (by decide +kernel)) rfl
theorem q395 : (.instanceMethod yX4_put : Cond) ∈ wA := wA_3 (List.mem_of_getElem? (i := 6) (by decide +kernel)) rfl
theorem q396 : (.selects RX4 yX4_put yX4_put : Cond) ∈ wA := wA_3 (List.mem_of_getElem? (i := 7) (by decide +kernel)) rfl
theorem q397 : (.code yX4_put cX4_put 3 (some .int) : Cond) ∈ wA := wA_3 (List.mem_of_getElem? (i := 8) (by decide +kernel)) rfl
theorem q398 : (.methodLink RX4 71 yX3_putNext : Cond) ∈ wA := wA_3 (List.mem_of_getElem? (i := 9) (by decide +kernel)) rfl
theorem q399 : (.instanceMethod yX3_putNext : Cond) ∈ wA := wA_3 (List.mem_of_getElem? (i := 10) (by decide +kernel)) rfl
theorem q400 : (.selects RX3 yX3_putNext yX3_putNext : Cond) ∈ wA := wA_3 (List.mem_of_getElem? (i := 11) (by decide +kernel)) rfl
theorem q401 : (.code yX3_putNext cX3_putNext 5 (some .int) : Cond) ∈ wA := wA_3 (List.mem_of_getElem? (i := 12) (by decide +kernel)) rfl
theorem q402 : (.methodLink RX3 101 yX3_nextRow : Cond) ∈ wA := wA_3 (List.mem_of_getElem? (i := 13) (by decide +kernel)) rfl
theorem q403 : (.methodLink RX3 105 yX3_writeEntry : Cond) ∈ wA := wA_3 (List.mem_of_getElem? (i := 14) (by decide +kernel)) rfl
theorem q404 : (.methodLink RX3 109 yX3_markEarlier : Cond) ∈ wA := wA_3 (List.mem_of_getElem? (i := 15) (by decide +kernel)) rfl
theorem q405 : (.methodLink RL 93 yL_isSealed : Cond) ∈ wA := wA_3 (List.mem_of_getElem? (i := 16) (by decide +kernel)) rfl
theorem q406 : (.static yL_isSealed : Cond) ∈ wA := wA_3 (List.mem_of_getElem? (i := 17) (by decide +kernel)) rfl
theorem q407 : (.code yL_isSealed cL_isSealed 10 (some .boolean) : Cond) ∈ wA := wA_3 (List.mem_of_getElem? (i := 18) (by decide +kernel)) rfl
theorem q408 : (.methodLink RL 38 yX4_blow : Cond) ∈ wA := wA_3 (List.mem_of_getElem? (i := 19) (by decide +kernel)) rfl
theorem q409 : (.instanceMethod yX4_blow : Cond) ∈ wA := wA_3 (List.mem_of_getElem? (i := 20) (by decide +kernel)) rfl
theorem q410 : (.selects RX4 yX4_blow yX4_blow : Cond) ∈ wA := wA_3 (List.mem_of_getElem? (i := 21) (by decide +kernel)) rfl
theorem q411 : (.code yX4_blow cX4_blow 4 (some .int) : Cond) ∈ wA := wA_3 (List.mem_of_getElem? (i := 22) (by decide +kernel)) rfl
theorem q412 : (.methodLink RX4 63 yX3_strength : Cond) ∈ wA := wA_3 (List.mem_of_getElem? (i := 23) (by decide +kernel)) rfl
theorem q413 : (.methodLink RL 41 yX4_undo : Cond) ∈ wA := wA_3 (List.mem_of_getElem? (i := 24) (by decide +kernel)) rfl
theorem q414 : (.instanceMethod yX4_undo : Cond) ∈ wA := wA_3 (List.mem_of_getElem? (i := 25) (by decide +kernel)) rfl
theorem q415 : (.selects RX4 yX4_undo yX4_undo : Cond) ∈ wA := wA_3 (List.mem_of_getElem? (i := 26) (by decide +kernel)) rfl
theorem q416 : (.code yX4_undo cX4_undo 1 (some .int) : Cond) ∈ wA := wA_3 (List.mem_of_getElem? (i := 27) (by decide +kernel)) rfl
theorem q417 : (.methodLink RX4 135 yX2_restore : Cond) ∈ wA := wA_3 (List.mem_of_getElem? (i := 28) (by decide +kernel)) rfl
theorem q418 : (.instanceMethod yX2_restore : Cond) ∈ wA := wA_3 (List.mem_of_getElem? (i := 29) (by decide +kernel)) rfl
theorem q419 : (.selects RX2 yX2_restore yX2_restore : Cond) ∈ wA := wA_3 (List.mem_of_getElem? (i := 30) (by decide +kernel)) rfl
theorem q420 : (.code yX2_restore cX2_restore 2 none : Cond) ∈ wA := wA_3 (List.mem_of_getElem? (i := 31) (by decide +kernel)) rfl
theorem q421 : (.methodLink RL 82 yL_heat : Cond) ∈ wA := wA_3 (List.mem_of_getElem? (i := 32) (by decide +kernel)) rfl
theorem q422 : (.static yL_heat : Cond) ∈ wA := wA_3 (List.mem_of_getElem? (i := 33) (by decide +kernel)) rfl
theorem q423 : (.code yL_heat cL_heat 9 (some .boolean) : Cond) ∈ wA := wA_3 (List.mem_of_getElem? (i := 34) (by decide +kernel)) rfl
theorem q424 : (.methodLink RL 45 yX4_ifHeated : Cond) ∈ wA := wA_3 (List.mem_of_getElem? (i := 35) (by decide +kernel)) rfl
theorem q425 : (.instanceMethod yX4_ifHeated : Cond) ∈ wA := wA_3 (List.mem_of_getElem? (i := 36) (by decide +kernel)) rfl
theorem q426 : (.selects RX4 yX4_ifHeated yX4_ifHeated : Cond) ∈ wA := wA_3 (List.mem_of_getElem? (i := 37) (by decide +kernel)) rfl
theorem q427 : (.code yX4_ifHeated cX4_ifHeated 3 (some .int) : Cond) ∈ wA := wA_3 (List.mem_of_getElem? (i := 38) (by decide +kernel)) rfl
theorem q428 : (.methodLink RX4 157 yX4_heatOutcome : Cond) ∈ wA := wA_3 (List.mem_of_getElem? (i := 39) (by decide +kernel)) rfl
theorem q429 : (.instanceMethod yX4_heatOutcome : Cond) ∈ wA := wA_3 (List.mem_of_getElem? (i := 41) (by decide +kernel)) rfl
theorem q430 : (.code yX4_heatOutcome cX4_heatOutcome 6 (some .int) : Cond) ∈ wA := wA_3 (List.mem_of_getElem? (i := 42) (by decide +kernel)) rfl
theorem q431 : (.methodLink RX4 85 yX3_heatRows : Cond) ∈ wA := wA_3 (List.mem_of_getElem? (i := 43) (by decide +kernel)) rfl
theorem q432 : (.instanceMethod yX3_heatRows : Cond) ∈ wA := wA_3 (List.mem_of_getElem? (i := 44) (by decide +kernel)) rfl
theorem q433 : (.selects RX3 yX3_heatRows yX3_heatRows : Cond) ∈ wA := wA_3 (List.mem_of_getElem? (i := 45) (by decide +kernel)) rfl
theorem q434 : (.code yX3_heatRows cX3_heatRows 6 (some .int) : Cond) ∈ wA := wA_3 (List.mem_of_getElem? (i := 46) (by decide +kernel)) rfl
theorem q435 : (.methodLink RL 48 yX4_heat : Cond) ∈ wA := wA_3 (List.mem_of_getElem? (i := 47) (by decide +kernel)) rfl
theorem q436 : (.instanceMethod yX4_heat : Cond) ∈ wA := wA_3 (List.mem_of_getElem? (i := 48) (by decide +kernel)) rfl
theorem q437 : (.selects RX4 yX4_heat yX4_heat : Cond) ∈ wA := wA_3 (List.mem_of_getElem? (i := 49) (by decide +kernel)) rfl
theorem q438 : (.code yX4_heat cX4_heat 2 (some .int) : Cond) ∈ wA := wA_3 (List.mem_of_getElem? (i := 50) (by decide +kernel)) rfl
theorem q439 : (.methodLink RL 79 yL_refresh : Cond) ∈ wA := wA_3 (List.mem_of_getElem? (i := 51) (by decide +kernel)) rfl
theorem q440 : (.static yL_refresh : Cond) ∈ wA := wA_3 (List.mem_of_getElem? (i := 52) (by decide +kernel)) rfl
theorem q441 : (.code yL_refresh cL_refresh 8 (some .boolean) : Cond) ∈ wA := wA_3 (List.mem_of_getElem? (i := 53) (by decide +kernel)) rfl
theorem q442 : (.methodLink RL 51 yX4_fuse : Cond) ∈ wA := wA_3 (List.mem_of_getElem? (i := 54) (by decide +kernel)) rfl
theorem q443 : (.instanceMethod yX4_fuse : Cond) ∈ wA := wA_3 (List.mem_of_getElem? (i := 55) (by decide +kernel)) rfl
theorem q444 : (.selects RX4 yX4_fuse yX4_fuse : Cond) ∈ wA := wA_3 (List.mem_of_getElem? (i := 56) (by decide +kernel)) rfl
theorem q445 : (.code yX4_fuse cX4_fuse 4 (some .int) : Cond) ∈ wA := wA_3 (List.mem_of_getElem? (i := 57) (by decide +kernel)) rfl
theorem q446 : (.methodLink RX4 138 yX3_readAt : Cond) ∈ wA := wA_3 (List.mem_of_getElem? (i := 58) (by decide +kernel)) rfl
theorem q447 : (.methodLink RL 54 yX4_refresh : Cond) ∈ wA := wA_3 (List.mem_of_getElem? (i := 59) (by decide +kernel)) rfl
theorem q448 : (.instanceMethod yX4_refresh : Cond) ∈ wA := wA_3 (List.mem_of_getElem? (i := 60) (by decide +kernel)) rfl
theorem q449 : (.selects RX4 yX4_refresh yX4_refresh : Cond) ∈ wA := wA_3 (List.mem_of_getElem? (i := 61) (by decide +kernel)) rfl
theorem q450 : (.code yX4_refresh cX4_refresh 2 (some .int) : Cond) ∈ wA := wA_3 (List.mem_of_getElem? (i := 62) (by decide +kernel)) rfl
theorem q451 : (.methodLink RX4 81 yX3_refreshRow : Cond) ∈ wA := wA_3 (List.mem_of_getElem? (i := 63) (by decide +kernel)) rfl
theorem q452 : (.instanceMethod yX3_refreshRow : Cond) ∈ wA := wA_3 (List.mem_of_getElem? (i := 64) (by decide +kernel)) rfl
theorem q453 : (.selects RX3 yX3_refreshRow yX3_refreshRow : Cond) ∈ wA := wA_3 (List.mem_of_getElem? (i := 65) (by decide +kernel)) rfl
theorem q454 : (.code yX3_refreshRow cX3_refreshRow 3 (some .int) : Cond) ∈ wA := wA_3 (List.mem_of_getElem? (i := 66) (by decide +kernel)) rfl
theorem q455 : (.methodLink RL 65 yL_addUp : Cond) ∈ wA := wA_3 (List.mem_of_getElem? (i := 67) (by decide +kernel)) rfl
theorem q456 : (.static yL_addUp : Cond) ∈ wA := wA_3 (List.mem_of_getElem? (i := 68) (by decide +kernel)) rfl
theorem q457 : (.code yL_addUp cL_addUp 10 (some .boolean) : Cond) ∈ wA := wA_3 (List.mem_of_getElem? (i := 69) (by decide +kernel)) rfl
theorem q458 : (.methodLink RL 57 yX4_history : Cond) ∈ wA := wA_3 (List.mem_of_getElem? (i := 70) (by decide +kernel)) rfl
theorem q459 : (.instanceMethod yX4_history : Cond) ∈ wA := wA_3 (List.mem_of_getElem? (i := 71) (by decide +kernel)) rfl
theorem q460 : (.selects RX4 yX4_history yX4_history : Cond) ∈ wA := wA_3 (List.mem_of_getElem? (i := 72) (by decide +kernel)) rfl
theorem q461 : (.code yX4_history cX4_history 3 (some .int) : Cond) ∈ wA := wA_3 (List.mem_of_getElem? (i := 73) (by decide +kernel)) rfl
theorem q462 : (.methodLink RX4 148 yX3_earlierValue : Cond) ∈ wA := wA_3 (List.mem_of_getElem? (i := 74) (by decide +kernel)) rfl
theorem q463 : (.instanceMethod yX3_earlierValue : Cond) ∈ wA := wA_3 (List.mem_of_getElem? (i := 75) (by decide +kernel)) rfl
theorem q464 : (.selects RX3 yX3_earlierValue yX3_earlierValue : Cond) ∈ wA := wA_3 (List.mem_of_getElem? (i := 76) (by decide +kernel)) rfl
theorem q465 : (.code yX3_earlierValue cX3_earlierValue 5 (some .int) : Cond) ∈ wA := wA_3 (List.mem_of_getElem? (i := 77) (by decide +kernel)) rfl
theorem iaX1 : ∀ w ∈ wsX10, w ∈ wA := by decide +kernel
theorem iaX2 : ∀ w ∈ wsX20, w ∈ wA := by decide +kernel
theorem iaX3 : ∀ w ∈ wsX30, w ∈ wA := by decide +kernel
theorem iaX4 : ∀ w ∈ wsX40, w ∈ wA := by decide +kernel
