/-- all words that tables alone decide, of the tables: each method's contract asks for its own code and for these -/
def wA : List Cond := lw_tbl.filter goodWord
theorem wA_tbl {w : Cond} (h : w ∈ wA) : w ∈ lw_tbl := (List.mem_filter.mp h).1
theorem wA_good {w : Cond} (h : w ∈ wA) : goodWord w = true := (List.mem_filter.mp h).2
theorem wA_1 {w : Cond} (h : w ∈ tables_1_1) (g : goodWord w = true) : w ∈ wA := List.mem_filter.mpr ⟨List.mem_append_right _ (List.mem_append_left _ h), g⟩
theorem wA_2 {w : Cond} (h : w ∈ tables_1_2) (g : goodWord w = true) : w ∈ wA := List.mem_filter.mpr ⟨List.mem_append_right _ (List.mem_append_right _ (List.mem_append_left _ h)), g⟩
theorem wA_3 {w : Cond} (h : w ∈ tables_1_3) (g : goodWord w = true) : w ∈ wA := List.mem_filter.mpr ⟨List.mem_append_right _ (List.mem_append_right _ (List.mem_append_right _ (List.mem_append_left _ h))), g⟩
theorem wA_4 {w : Cond} (h : w ∈ tables_1_4) (g : goodWord w = true) : w ∈ wA := List.mem_filter.mpr ⟨List.mem_append_right _ (List.mem_append_right _ (List.mem_append_right _ (List.mem_append_right _ (List.mem_append_left _ h)))), g⟩
theorem wA_5 {w : Cond} (h : w ∈ tables_1_5) (g : goodWord w = true) : w ∈ wA := List.mem_filter.mpr ⟨List.mem_append_right _ (List.mem_append_right _ (List.mem_append_right _ (List.mem_append_right _ (List.mem_append_right _ h)))), g⟩
theorem wA_0 {w : Cond} (h : w ∈ k2_sels lw_privs) (g : goodWord w = true) : w ∈ wA := List.mem_filter.mpr ⟨List.mem_append_left _ h, g⟩

theorem wT_1 {w : Cond} (h : w ∈ tables_1_1) : w ∈ lw_tbl := List.mem_append_right _ (List.mem_append_left _ h)
theorem wT_2 {w : Cond} (h : w ∈ tables_1_2) : w ∈ lw_tbl := List.mem_append_right _ (List.mem_append_right _ (List.mem_append_left _ h))
theorem wT_3 {w : Cond} (h : w ∈ tables_1_3) : w ∈ lw_tbl := List.mem_append_right _ (List.mem_append_right _ (List.mem_append_right _ (List.mem_append_left _ h)))
theorem wT_4 {w : Cond} (h : w ∈ tables_1_4) : w ∈ lw_tbl := List.mem_append_right _ (List.mem_append_right _ (List.mem_append_right _ (List.mem_append_right _ (List.mem_append_left _ h))))
theorem wT_5 {w : Cond} (h : w ∈ tables_1_5) : w ∈ lw_tbl := List.mem_append_right _ (List.mem_append_right _ (List.mem_append_right _ (List.mem_append_right _ (List.mem_append_right _ h))))

theorem q0 : (.selects RX1 yX1_scanOrder yX1_scanOrder : Cond) ∈ wA := wA_0 (List.mem_of_getElem? (i := 0) (by decide +kernel)) rfl
theorem q1 : (.selects RX1 yX1_scanWord yX1_scanWord : Cond) ∈ wA := wA_0 (List.mem_of_getElem? (i := 1) (by decide +kernel)) rfl
theorem q2 : (.selects RX1 yX1_sameSigns yX1_sameSigns : Cond) ∈ wA := wA_0 (List.mem_of_getElem? (i := 2) (by decide +kernel)) rfl
theorem q3 : (.selects RX1 yX1_scanNumber yX1_scanNumber : Cond) ∈ wA := wA_0 (List.mem_of_getElem? (i := 3) (by decide +kernel)) rfl
theorem q4 : (.selects RX1 yX1_scanSign yX1_scanSign : Cond) ∈ wA := wA_0 (List.mem_of_getElem? (i := 4) (by decide +kernel)) rfl
theorem q5 : (.selects RX4 yX4_countOf yX4_countOf : Cond) ∈ wA := wA_0 (List.mem_of_getElem? (i := 5) (by decide +kernel)) rfl
theorem q6 : (.selects RX4 yX4_rowProperty yX4_rowProperty : Cond) ∈ wA := wA_0 (List.mem_of_getElem? (i := 6) (by decide +kernel)) rfl
theorem q7 : (.selects RX4 yX4_keyProperty yX4_keyProperty : Cond) ∈ wA := wA_0 (List.mem_of_getElem? (i := 7) (by decide +kernel)) rfl
theorem q8 : (.selects RX4 yX4_putOutcome yX4_putOutcome : Cond) ∈ wA := wA_0 (List.mem_of_getElem? (i := 8) (by decide +kernel)) rfl
theorem q9 : (.selects RX4 yX4_heatOutcome yX4_heatOutcome : Cond) ∈ wA := wA_0 (List.mem_of_getElem? (i := 9) (by decide +kernel)) rfl
theorem q10 : (.selects RX4 yX4_valuesReadOtherwise yX4_valuesReadOtherwise : Cond) ∈ wA := wA_0 (List.mem_of_getElem? (i := 10) (by decide +kernel)) rfl
theorem q11 : (.selects "java/lang/Throwable" ⟨"java/lang/Throwable", "fillInStackTrace", "(I)Ljava/lang/Throwable;"⟩ ⟨"java/lang/Throwable", "fillInStackTrace", "(I)Ljava/lang/Throwable;"⟩ : Cond) ∈ wA := wA_0 (List.mem_of_getElem? (i := 11) (by decide +kernel)) rfl
theorem q12 : (.selects RX4 yX4_carryOut yX4_carryOut : Cond) ∈ wA := wA_0 (List.mem_of_getElem? (i := 12) (by decide +kernel)) rfl
theorem q13 : (.selects RX4 yX4_isRefused yX4_isRefused : Cond) ∈ wA := wA_0 (List.mem_of_getElem? (i := 13) (by decide +kernel)) rfl
theorem q14 : (.selects RX5 yX5_isLocked yX5_isLocked : Cond) ∈ wA := wA_0 (List.mem_of_getElem? (i := 14) (by decide +kernel)) rfl
theorem q15 : (.selects RX5 yX5_thrice yX5_thrice : Cond) ∈ wA := wA_0 (List.mem_of_getElem? (i := 15) (by decide +kernel)) rfl
theorem q16 : (.selects RX5 yX5_once yX5_once : Cond) ∈ wA := wA_0 (List.mem_of_getElem? (i := 16) (by decide +kernel)) rfl
theorem q17 : (.selects RX5 yX5_strength yX5_strength : Cond) ∈ wA := wA_0 (List.mem_of_getElem? (i := 17) (by decide +kernel)) rfl
theorem q18 : (.selects RX5 yX5_save yX5_save : Cond) ∈ wA := wA_0 (List.mem_of_getElem? (i := 18) (by decide +kernel)) rfl
theorem q19 : (.selects RX5 yX5_blowOne yX5_blowOne : Cond) ∈ wA := wA_0 (List.mem_of_getElem? (i := 19) (by decide +kernel)) rfl
theorem q20 : (.selects RX5 yX5_whyNotPut yX5_whyNotPut : Cond) ∈ wA := wA_0 (List.mem_of_getElem? (i := 20) (by decide +kernel)) rfl
theorem q21 : (.selects RX5 yX5_nextRow yX5_nextRow : Cond) ∈ wA := wA_0 (List.mem_of_getElem? (i := 21) (by decide +kernel)) rfl
theorem q22 : (.selects RX5 yX5_maskNow yX5_maskNow : Cond) ∈ wA := wA_0 (List.mem_of_getElem? (i := 22) (by decide +kernel)) rfl
theorem q23 : (.selects RX5 yX5_isThriceNow yX5_isThriceNow : Cond) ∈ wA := wA_0 (List.mem_of_getElem? (i := 23) (by decide +kernel)) rfl
theorem q24 : (.selects RX5 yX5_mask yX5_mask : Cond) ∈ wA := wA_0 (List.mem_of_getElem? (i := 24) (by decide +kernel)) rfl
theorem q25 : (.selects RX5 yX5_reads yX5_reads : Cond) ∈ wA := wA_0 (List.mem_of_getElem? (i := 25) (by decide +kernel)) rfl
theorem q26 : (.selects RX5 yX5_putInto yX5_putInto : Cond) ∈ wA := wA_0 (List.mem_of_getElem? (i := 26) (by decide +kernel)) rfl
theorem q27 : (.selects RX5 yX5_readsAs yX5_readsAs : Cond) ∈ wA := wA_0 (List.mem_of_getElem? (i := 27) (by decide +kernel)) rfl
theorem q28 : (.selects RX5 yX5_markAll yX5_markAll : Cond) ∈ wA := wA_0 (List.mem_of_getElem? (i := 28) (by decide +kernel)) rfl
theorem q29 : (.selects RX5 yX5_whyNotChange yX5_whyNotChange : Cond) ∈ wA := wA_0 (List.mem_of_getElem? (i := 29) (by decide +kernel)) rfl
theorem q30 : (.selects RX5 yX5_lockedMany yX5_lockedMany : Cond) ∈ wA := wA_0 (List.mem_of_getElem? (i := 30) (by decide +kernel)) rfl
theorem q31 : (.selects RX5 yX5_refreshAll yX5_refreshAll : Cond) ∈ wA := wA_0 (List.mem_of_getElem? (i := 31) (by decide +kernel)) rfl
theorem q32 : (.selects RX5 yX5_heatAll yX5_heatAll : Cond) ∈ wA := wA_0 (List.mem_of_getElem? (i := 32) (by decide +kernel)) rfl
theorem q33 : (.selects RX5 yX5_readBuffer yX5_readBuffer : Cond) ∈ wA := wA_0 (List.mem_of_getElem? (i := 33) (by decide +kernel)) rfl
theorem q34 : (.selects RX5 yX5_order yX5_order : Cond) ∈ wA := wA_0 (List.mem_of_getElem? (i := 34) (by decide +kernel)) rfl
theorem q35 : (.selects RX5 yX5_kindAt yX5_kindAt : Cond) ∈ wA := wA_0 (List.mem_of_getElem? (i := 35) (by decide +kernel)) rfl
theorem q36 : (.selects RX5 yX5_letter yX5_letter : Cond) ∈ wA := wA_0 (List.mem_of_getElem? (i := 36) (by decide +kernel)) rfl
theorem q37 : (.selects RX5 yX5_word yX5_word : Cond) ∈ wA := wA_0 (List.mem_of_getElem? (i := 37) (by decide +kernel)) rfl
theorem q38 : (.selects RX5 yX5_takes yX5_takes : Cond) ∈ wA := wA_0 (List.mem_of_getElem? (i := 38) (by decide +kernel)) rfl
theorem q39 : (.selects RX5 yX5_isFine yX5_isFine : Cond) ∈ wA := wA_0 (List.mem_of_getElem? (i := 39) (by decide +kernel)) rfl
theorem q40 : (.selects RX5 yX5_number yX5_number : Cond) ∈ wA := wA_0 (List.mem_of_getElem? (i := 40) (by decide +kernel)) rfl
theorem q41 : (.selects RX5 yX5_does yX5_does : Cond) ∈ wA := wA_0 (List.mem_of_getElem? (i := 41) (by decide +kernel)) rfl
theorem q42 : (.selects RX5 yX5_toldRow yX5_toldRow : Cond) ∈ wA := wA_0 (List.mem_of_getElem? (i := 42) (by decide +kernel)) rfl
theorem q43 : (.selects RX5 yX5_doubtful yX5_doubtful : Cond) ∈ wA := wA_0 (List.mem_of_getElem? (i := 43) (by decide +kernel)) rfl
theorem q44 : (.selects RX5 yX5_strengths yX5_strengths : Cond) ∈ wA := wA_0 (List.mem_of_getElem? (i := 44) (by decide +kernel)) rfl
theorem q45 : (.selects RX5 yX5_toldKey yX5_toldKey : Cond) ∈ wA := wA_0 (List.mem_of_getElem? (i := 45) (by decide +kernel)) rfl
theorem q46 : (.selects RX5 yX5_valueNow yX5_valueNow : Cond) ∈ wA := wA_0 (List.mem_of_getElem? (i := 46) (by decide +kernel)) rfl
theorem q47 : (.selects RX5 yX5_valueOf yX5_valueOf : Cond) ∈ wA := wA_0 (List.mem_of_getElem? (i := 47) (by decide +kernel)) rfl
theorem q48 : (.selects RX5 yX5_rowOf yX5_rowOf : Cond) ∈ wA := wA_0 (List.mem_of_getElem? (i := 48) (by decide +kernel)) rfl
theorem q49 : (.selects RX5 yX5_entriesOf yX5_entriesOf : Cond) ∈ wA := wA_0 (List.mem_of_getElem? (i := 49) (by decide +kernel)) rfl
theorem q50 : (.selects RX5 yX5_isRowOf yX5_isRowOf : Cond) ∈ wA := wA_0 (List.mem_of_getElem? (i := 50) (by decide +kernel)) rfl
theorem q51 : (.selects RX5 yX5_rowsOf yX5_rowsOf : Cond) ∈ wA := wA_0 (List.mem_of_getElem? (i := 51) (by decide +kernel)) rfl
theorem q52 : (.selects RX5 yX5_greatestOf yX5_greatestOf : Cond) ∈ wA := wA_0 (List.mem_of_getElem? (i := 52) (by decide +kernel)) rfl
theorem q53 : (.selects RX5 yX5_agreeing yX5_agreeing : Cond) ∈ wA := wA_0 (List.mem_of_getElem? (i := 53) (by decide +kernel)) rfl
theorem q54 : (.selects RX5 yX5_earlier yX5_earlier : Cond) ∈ wA := wA_0 (List.mem_of_getElem? (i := 54) (by decide +kernel)) rfl
theorem q55 : (.selects RX5 yX5_counted yX5_counted : Cond) ∈ wA := wA_0 (List.mem_of_getElem? (i := 55) (by decide +kernel)) rfl
theorem q56 : (.selects RX5 yX5_doubtfulAll yX5_doubtfulAll : Cond) ∈ wA := wA_0 (List.mem_of_getElem? (i := 56) (by decide +kernel)) rfl
theorem q57 : (.selects RX5 yX5_keysWithValue yX5_keysWithValue : Cond) ∈ wA := wA_0 (List.mem_of_getElem? (i := 57) (by decide +kernel)) rfl
theorem q58 : (.selects RX5 yX5_rowsOfKind yX5_rowsOfKind : Cond) ∈ wA := wA_0 (List.mem_of_getElem? (i := 58) (by decide +kernel)) rfl
theorem q59 : (.selects RX5 yX5_wouldPut yX5_wouldPut : Cond) ∈ wA := wA_0 (List.mem_of_getElem? (i := 59) (by decide +kernel)) rfl
theorem q60 : (.selects RX5 yX5_putAside yX5_putAside : Cond) ∈ wA := wA_0 (List.mem_of_getElem? (i := 60) (by decide +kernel)) rfl
theorem q61 : (.selects RX5 yX5_bringBack yX5_bringBack : Cond) ∈ wA := wA_0 (List.mem_of_getElem? (i := 61) (by decide +kernel)) rfl
theorem q62 : (.selects RX5 yX5_wouldHeat yX5_wouldHeat : Cond) ∈ wA := wA_0 (List.mem_of_getElem? (i := 62) (by decide +kernel)) rfl
theorem q63 : (.selects RX5 yX5_layBefore yX5_layBefore : Cond) ∈ wA := wA_0 (List.mem_of_getElem? (i := 63) (by decide +kernel)) rfl
theorem q64 : (.selects RX5 yX5_wouldRead yX5_wouldRead : Cond) ∈ wA := wA_0 (List.mem_of_getElem? (i := 64) (by decide +kernel)) rfl
theorem q65 : (.selects RX5 yX5_worstNow yX5_worstNow : Cond) ∈ wA := wA_0 (List.mem_of_getElem? (i := 65) (by decide +kernel)) rfl
theorem q66 : (.selects RX5 yX5_share yX5_share : Cond) ∈ wA := wA_0 (List.mem_of_getElem? (i := 66) (by decide +kernel)) rfl
theorem q67 : (.selects RX5 yX5_mix yX5_mix : Cond) ∈ wA := wA_0 (List.mem_of_getElem? (i := 67) (by decide +kernel)) rfl
theorem q68 : (.selects RX5 yX5_mixRow yX5_mixRow : Cond) ∈ wA := wA_0 (List.mem_of_getElem? (i := 68) (by decide +kernel)) rfl
theorem q69 : (.selects RX5 yX5_mixKey yX5_mixKey : Cond) ∈ wA := wA_0 (List.mem_of_getElem? (i := 69) (by decide +kernel)) rfl
theorem q70 : (.initialized RL : Cond) ∈ wA := wA_1 (List.mem_of_getElem? (i := 0) (by decide +kernel)) rfl
theorem q71 : (.initialized RX4 : Cond) ∈ wA := wA_1 (List.mem_of_getElem? (i := 1) (by decide +kernel)) rfl
theorem q72 : (.initialized RX3 : Cond) ∈ wA := wA_1 (List.mem_of_getElem? (i := 2) (by decide +kernel)) rfl
theorem q73 : (.initialized RX2 : Cond) ∈ wA := wA_1 (List.mem_of_getElem? (i := 3) (by decide +kernel)) rfl
theorem q74 : (.initialized RX1 : Cond) ∈ wA := wA_1 (List.mem_of_getElem? (i := 4) (by decide +kernel)) rfl
theorem q75 : (.initialized RX5 : Cond) ∈ wA := wA_1 (List.mem_of_getElem? (i := 5) (by decide +kernel)) rfl
theorem q76 : (.initialized "java/lang/Throwable" : Cond) ∈ wA := wA_1 (List.mem_of_getElem? (i := 6) (by decide +kernel)) rfl
theorem q77 : (.initialized "java/lang/Exception" : Cond) ∈ wA := wA_1 (List.mem_of_getElem? (i := 7) (by decide +kernel)) rfl
theorem q78 : (.initialized "java/lang/RuntimeException" : Cond) ∈ wA := wA_1 (List.mem_of_getElem? (i := 8) (by decide +kernel)) rfl
theorem q79 : (.initialized "java/lang/IndexOutOfBoundsException" : Cond) ∈ wA := wA_1 (List.mem_of_getElem? (i := 9) (by decide +kernel)) rfl
theorem q80 : (.initialized "java/lang/IllegalArgumentException" : Cond) ∈ wA := wA_1 (List.mem_of_getElem? (i := 10) (by decide +kernel)) rfl
theorem q81 : (.initialized "java/lang/IllegalStateException" : Cond) ∈ wA := wA_1 (List.mem_of_getElem? (i := 11) (by decide +kernel)) rfl
theorem q82 : (.initialized RJ10 : Cond) ∈ wA := wA_1 (List.mem_of_getElem? (i := 12) (by decide +kernel)) rfl
theorem q83 : (.initialized RJ9 : Cond) ∈ wA := wA_1 (List.mem_of_getElem? (i := 13) (by decide +kernel)) rfl
theorem q84 : (.initialized RX0 : Cond) ∈ wA := wA_1 (List.mem_of_getElem? (i := 14) (by decide +kernel)) rfl
theorem q85 : (.initialized RJ6 : Cond) ∈ wA := wA_1 (List.mem_of_getElem? (i := 15) (by decide +kernel)) rfl
theorem q86 : (.initialized RJ0 : Cond) ∈ wA := wA_1 (List.mem_of_getElem? (i := 16) (by decide +kernel)) rfl
theorem q87 : (.initialized RJ1 : Cond) ∈ wA := wA_1 (List.mem_of_getElem? (i := 17) (by decide +kernel)) rfl
theorem q88 : (.initialized RJ3 : Cond) ∈ wA := wA_1 (List.mem_of_getElem? (i := 18) (by decide +kernel)) rfl
theorem q89 : (.initialized RJ2 : Cond) ∈ wA := wA_1 (List.mem_of_getElem? (i := 19) (by decide +kernel)) rfl
theorem q90 : (.classLink RL 8 RX4 : Cond) ∈ wA := wA_1 (List.mem_of_getElem? (i := 20) (by decide +kernel)) rfl
theorem q91 : (.instantiable RX4 4 : Cond) ∈ wA := wA_1 (List.mem_of_getElem? (i := 21) (by decide +kernel)) rfl
theorem q92 : (.methodLink RL 80 yX4_init : Cond) ∈ wA := wA_1 (List.mem_of_getElem? (i := 22) (by decide +kernel)) rfl
theorem q93 : (.instanceMethod yX4_init : Cond) ∈ wA := wA_1 (List.mem_of_getElem? (i := 23) (by decide +kernel)) rfl
theorem q94 : (.code yX4_init cX4_init 1 none : Cond) ∈ wA := wA_1 (List.mem_of_getElem? (i := 24) (by decide +kernel)) rfl
theorem q95 : (.methodLink RX4 1 objectInit : Cond) ∈ wA := wA_1 (List.mem_of_getElem? (i := 25) (by decide +kernel)) rfl
theorem q96 : (.instanceMethod objectInit : Cond) ∈ wA := wA_1 (List.mem_of_getElem? (i := 26) (by decide +kernel)) rfl
theorem q97 : (.code objectInit ⟨#[0xb1]⟩ 1 none : Cond) ∈ wA := wA_1 (List.mem_of_getElem? (i := 27) (by decide +kernel)) rfl
theorem q98 : (.classLink RX4 7 RX3 : Cond) ∈ wA := wA_1 (List.mem_of_getElem? (i := 28) (by decide +kernel)) rfl
theorem q99 : (.instantiable RX3 6 : Cond) ∈ wA := wA_1 (List.mem_of_getElem? (i := 29) (by decide +kernel)) rfl
theorem q100 : (.methodLinkNest RX4 9 yX3_init RX4 : Cond) ∈ lw_tbl := wT_1 (List.mem_of_getElem? (i := 30) (by decide +kernel))
theorem q101 : (.instanceMethod yX3_init : Cond) ∈ wA := wA_1 (List.mem_of_getElem? (i := 31) (by decide +kernel)) rfl
theorem q102 : (.code yX3_init cX3_init 1 none : Cond) ∈ wA := wA_1 (List.mem_of_getElem? (i := 32) (by decide +kernel)) rfl
theorem q103 : (.methodLink RX3 3 objectInit : Cond) ∈ wA := wA_1 (List.mem_of_getElem? (i := 33) (by decide +kernel)) rfl
theorem q104 : (.fieldLink RX3 9 "FuseRows$State" "ones" "[I" : Cond) ∈ wA := wA_1 (List.mem_of_getElem? (i := 34) (by decide +kernel)) rfl
theorem q105 : (.fieldLink RX4 170 "FuseRows$State" "ones" "[I" : Cond) ∈ wA := wA_1 (List.mem_of_getElem? (i := 35) (by decide +kernel)) rfl
theorem q106 : (.fieldLink RX3 15 "FuseRows$State" "twos" "[I" : Cond) ∈ wA := wA_1 (List.mem_of_getElem? (i := 36) (by decide +kernel)) rfl
theorem q107 : (.fieldLink RX4 173 "FuseRows$State" "twos" "[I" : Cond) ∈ wA := wA_1 (List.mem_of_getElem? (i := 37) (by decide +kernel)) rfl
theorem q108 : (.fieldLink RX3 18 "FuseRows$State" "settings" "[I" : Cond) ∈ wA := wA_1 (List.mem_of_getElem? (i := 38) (by decide +kernel)) rfl
theorem q109 : (.fieldLink RX4 99 "FuseRows$State" "settings" "[I" : Cond) ∈ wA := wA_1 (List.mem_of_getElem? (i := 39) (by decide +kernel)) rfl
theorem q110 : (.fieldLink RX3 27 "FuseRows$State" "tick" "I" : Cond) ∈ wA := wA_1 (List.mem_of_getElem? (i := 40) (by decide +kernel)) rfl
theorem q111 : (.fieldLink RX4 88 "FuseRows$State" "tick" "I" : Cond) ∈ wA := wA_1 (List.mem_of_getElem? (i := 41) (by decide +kernel)) rfl
theorem q112 : (.fieldLink RX3 31 "FuseRows$State" "energy" "I" : Cond) ∈ wA := wA_1 (List.mem_of_getElem? (i := 42) (by decide +kernel)) rfl
theorem q113 : (.fieldLink RX4 276 "FuseRows$State" "energy" "I" : Cond) ∈ wA := wA_1 (List.mem_of_getElem? (i := 43) (by decide +kernel)) rfl
theorem q114 : (.fieldLink RX3 34 "FuseRows$State" "valuesPut" "I" : Cond) ∈ wA := wA_1 (List.mem_of_getElem? (i := 44) (by decide +kernel)) rfl
theorem q115 : (.fieldLink RX4 282 "FuseRows$State" "valuesPut" "I" : Cond) ∈ wA := wA_1 (List.mem_of_getElem? (i := 45) (by decide +kernel)) rfl
theorem q116 : (.arrayClass .int : Cond) ∈ wA := wA_1 (List.mem_of_getElem? (i := 59) (by decide +kernel)) rfl
theorem q117 : (.classLink RX4 19 RX2 : Cond) ∈ wA := wA_1 (List.mem_of_getElem? (i := 60) (by decide +kernel)) rfl
theorem q118 : (.instantiable RX2 3 : Cond) ∈ wA := wA_1 (List.mem_of_getElem? (i := 61) (by decide +kernel)) rfl
theorem q119 : (.methodLink RX4 21 yX2_init : Cond) ∈ wA := wA_1 (List.mem_of_getElem? (i := 62) (by decide +kernel)) rfl
theorem q120 : (.instanceMethod yX2_init : Cond) ∈ wA := wA_1 (List.mem_of_getElem? (i := 63) (by decide +kernel)) rfl
theorem q121 : (.code yX2_init cX2_init 2 none : Cond) ∈ wA := wA_1 (List.mem_of_getElem? (i := 64) (by decide +kernel)) rfl
theorem q122 : (.methodLink RX2 1 objectInit : Cond) ∈ wA := wA_1 (List.mem_of_getElem? (i := 65) (by decide +kernel)) rfl
theorem q123 : (.classLink RX2 9 RX3 : Cond) ∈ wA := wA_1 (List.mem_of_getElem? (i := 66) (by decide +kernel)) rfl
theorem q124 : (.methodLinkNest RX2 15 yX3_init RX4 : Cond) ∈ lw_tbl := wT_1 (List.mem_of_getElem? (i := 68) (by decide +kernel))
theorem q125 : (.fieldLink RX2 11 "FuseRows$SavedStates" "ring" "[LFuseRows$State;" : Cond) ∈ wA := wA_1 (List.mem_of_getElem? (i := 69) (by decide +kernel)) rfl
theorem q126 : (.fieldLink RX2 16 "FuseRows$SavedStates" "oldest" "I" : Cond) ∈ wA := wA_1 (List.mem_of_getElem? (i := 70) (by decide +kernel)) rfl
theorem q127 : (.fieldLink RX2 20 "FuseRows$SavedStates" "count" "I" : Cond) ∈ wA := wA_1 (List.mem_of_getElem? (i := 71) (by decide +kernel)) rfl
theorem q128 : (.fieldLink RX4 132 "FuseRows$SavedStates" "count" "I" : Cond) ∈ wA := wA_1 (List.mem_of_getElem? (i := 72) (by decide +kernel)) rfl
theorem q129 : (.classLink RX4 26 RX1 : Cond) ∈ wA := wA_1 (List.mem_of_getElem? (i := 80) (by decide +kernel)) rfl
theorem q130 : (.instantiable RX1 8 : Cond) ∈ wA := wA_1 (List.mem_of_getElem? (i := 81) (by decide +kernel)) rfl
theorem q131 : (.methodLinkNest RX4 28 yX1_init RX4 : Cond) ∈ lw_tbl := wT_1 (List.mem_of_getElem? (i := 82) (by decide +kernel))
theorem q132 : (.instanceMethod yX1_init : Cond) ∈ wA := wA_1 (List.mem_of_getElem? (i := 83) (by decide +kernel)) rfl
theorem q133 : (.code yX1_init cX1_init 1 none : Cond) ∈ wA := wA_1 (List.mem_of_getElem? (i := 84) (by decide +kernel)) rfl
theorem q134 : (.methodLink RX1 3 objectInit : Cond) ∈ wA := wA_1 (List.mem_of_getElem? (i := 85) (by decide +kernel)) rfl
theorem q135 : (.fieldLink RX1 11 "FuseRows$OrderText" "signs" "[C" : Cond) ∈ wA := wA_1 (List.mem_of_getElem? (i := 86) (by decide +kernel)) rfl
theorem q136 : (.fieldLink RX4 196 "FuseRows$OrderText" "signs" "[C" : Cond) ∈ wA := wA_1 (List.mem_of_getElem? (i := 87) (by decide +kernel)) rfl
theorem q137 : (.fieldLink RX1 25 "FuseRows$OrderText" "length" "I" : Cond) ∈ wA := wA_1 (List.mem_of_getElem? (i := 88) (by decide +kernel)) rfl
theorem q138 : (.fieldLink RX4 110 "FuseRows$OrderText" "length" "I" : Cond) ∈ wA := wA_1 (List.mem_of_getElem? (i := 89) (by decide +kernel)) rfl
theorem q139 : (.fieldLink RX1 33 "FuseRows$OrderText" "position" "I" : Cond) ∈ wA := wA_1 (List.mem_of_getElem? (i := 90) (by decide +kernel)) rfl
theorem q140 : (.fieldLink RX4 119 "FuseRows$OrderText" "position" "I" : Cond) ∈ wA := wA_1 (List.mem_of_getElem? (i := 91) (by decide +kernel)) rfl
theorem q141 : (.fieldLink RX1 39 "FuseRows$OrderText" "complete" "Z" : Cond) ∈ wA := wA_1 (List.mem_of_getElem? (i := 92) (by decide +kernel)) rfl
theorem q142 : (.fieldLink RX4 122 "FuseRows$OrderText" "complete" "Z" : Cond) ∈ wA := wA_1 (List.mem_of_getElem? (i := 93) (by decide +kernel)) rfl
theorem q143 : (.fieldLink RX1 36 "FuseRows$OrderText" "orders" "I" : Cond) ∈ wA := wA_1 (List.mem_of_getElem? (i := 94) (by decide +kernel)) rfl
theorem q144 : (.fieldLink RX4 126 "FuseRows$OrderText" "orders" "I" : Cond) ∈ wA := wA_1 (List.mem_of_getElem? (i := 95) (by decide +kernel)) rfl
theorem q145 : (.fieldLink RX1 15 "FuseRows$OrderText" "kinds" "[I" : Cond) ∈ wA := wA_1 (List.mem_of_getElem? (i := 96) (by decide +kernel)) rfl
theorem q146 : (.fieldLink RX4 217 "FuseRows$OrderText" "kinds" "[I" : Cond) ∈ wA := wA_1 (List.mem_of_getElem? (i := 97) (by decide +kernel)) rfl
theorem q147 : (.fieldLink RX1 19 "FuseRows$OrderText" "numbers" "[I" : Cond) ∈ wA := wA_1 (List.mem_of_getElem? (i := 98) (by decide +kernel)) rfl
theorem q148 : (.fieldLink RX4 220 "FuseRows$OrderText" "numbers" "[I" : Cond) ∈ wA := wA_1 (List.mem_of_getElem? (i := 99) (by decide +kernel)) rfl
theorem q149 : (.fieldLink RX1 22 "FuseRows$OrderText" "values" "[I" : Cond) ∈ wA := wA_1 (List.mem_of_getElem? (i := 100) (by decide +kernel)) rfl
theorem q150 : (.fieldLink RX4 226 "FuseRows$OrderText" "values" "[I" : Cond) ∈ wA := wA_1 (List.mem_of_getElem? (i := 101) (by decide +kernel)) rfl
theorem q151 : (.arrayClass .char : Cond) ∈ wA := wA_1 (List.mem_of_getElem? (i := 119) (by decide +kernel)) rfl
theorem q152 : (.fieldLink RX4 10 "FuseRows" "now" "LFuseRows$State;" : Cond) ∈ wA := wA_1 (List.mem_of_getElem? (i := 120) (by decide +kernel)) rfl
theorem q153 : (.fieldLink RX4 16 "FuseRows" "trial" "LFuseRows$State;" : Cond) ∈ wA := wA_1 (List.mem_of_getElem? (i := 121) (by decide +kernel)) rfl
theorem q154 : (.fieldLink RX4 22 "FuseRows" "saved" "LFuseRows$SavedStates;" : Cond) ∈ wA := wA_1 (List.mem_of_getElem? (i := 122) (by decide +kernel)) rfl
theorem q155 : (.fieldLink RX4 29 "FuseRows" "text" "LFuseRows$OrderText;" : Cond) ∈ wA := wA_1 (List.mem_of_getElem? (i := 123) (by decide +kernel)) rfl
theorem q156 : (.methodLink RL 119 yX4_clearBuffer : Cond) ∈ wA := wA_1 (List.mem_of_getElem? (i := 133) (by decide +kernel)) rfl
theorem q157 : (.instanceMethod yX4_clearBuffer : Cond) ∈ wA := wA_1 (List.mem_of_getElem? (i := 134) (by decide +kernel)) rfl
theorem q158 : (.selects RX4 yX4_clearBuffer yX4_clearBuffer : Cond) ∈ wA := wA_1 (List.mem_of_getElem? (i := 135) (by decide +kernel)) rfl
theorem q159 : (.code yX4_clearBuffer cX4_clearBuffer 2 (some .int) : Cond) ∈ wA := wA_1 (List.mem_of_getElem? (i := 136) (by decide +kernel)) rfl
theorem q160 : (.methodLink RX4 113 yX1_empty : Cond) ∈ wA := wA_1 (List.mem_of_getElem? (i := 137) (by decide +kernel)) rfl
theorem q161 : (.instanceMethod yX1_empty : Cond) ∈ wA := wA_1 (List.mem_of_getElem? (i := 138) (by decide +kernel)) rfl
theorem q162 : (.selects RX1 yX1_empty yX1_empty : Cond) ∈ wA := wA_1 (List.mem_of_getElem? (i := 139) (by decide +kernel)) rfl
theorem q163 : (.code yX1_empty cX1_empty 1 none : Cond) ∈ wA := wA_1 (List.mem_of_getElem? (i := 140) (by decide +kernel)) rfl
theorem q164 : (.methodLink RL 123 yX4_firstError : Cond) ∈ wA := wA_1 (List.mem_of_getElem? (i := 141) (by decide +kernel)) rfl
theorem q165 : (.instanceMethod yX4_firstError : Cond) ∈ wA := wA_1 (List.mem_of_getElem? (i := 142) (by decide +kernel)) rfl
theorem q166 : (.selects RX4 yX4_firstError yX4_firstError : Cond) ∈ wA := wA_1 (List.mem_of_getElem? (i := 143) (by decide +kernel)) rfl
theorem q167 : (.code yX4_firstError cX4_firstError 1 (some .int) : Cond) ∈ wA := wA_1 (List.mem_of_getElem? (i := 144) (by decide +kernel)) rfl
theorem q168 : (.methodLink RX4 116 yX1_scan : Cond) ∈ wA := wA_1 (List.mem_of_getElem? (i := 145) (by decide +kernel)) rfl
theorem q169 : (.instanceMethod yX1_scan : Cond) ∈ wA := wA_1 (List.mem_of_getElem? (i := 146) (by decide +kernel)) rfl
theorem q170 : (.selects RX1 yX1_scan yX1_scan : Cond) ∈ wA := wA_1 (List.mem_of_getElem? (i := 147) (by decide +kernel)) rfl
theorem q171 : (.code yX1_scan cX1_scan 4 none : Cond) ∈ wA := wA_1 (List.mem_of_getElem? (i := 148) (by decide +kernel)) rfl
theorem q172 : (.methodLink RX1 43 yX1_scanOrder : Cond) ∈ wA := wA_1 (List.mem_of_getElem? (i := 149) (by decide +kernel)) rfl
theorem q173 : (.instanceMethod yX1_scanOrder : Cond) ∈ wA := wA_1 (List.mem_of_getElem? (i := 151) (by decide +kernel)) rfl
theorem q174 : (.code yX1_scanOrder cX1_scanOrder 4 (some .boolean) : Cond) ∈ wA := wA_1 (List.mem_of_getElem? (i := 152) (by decide +kernel)) rfl
theorem q175 : (.methodLink RX1 50 yX1_scanWord : Cond) ∈ wA := wA_1 (List.mem_of_getElem? (i := 153) (by decide +kernel)) rfl
theorem q176 : (.instanceMethod yX1_scanWord : Cond) ∈ wA := wA_1 (List.mem_of_getElem? (i := 155) (by decide +kernel)) rfl
theorem q177 : (.code yX1_scanWord cX1_scanWord 5 (some .int) : Cond) ∈ wA := wA_1 (List.mem_of_getElem? (i := 156) (by decide +kernel)) rfl
theorem q178 : (.methodLink RX1 64 yX1_wordOf : Cond) ∈ wA := wA_1 (List.mem_of_getElem? (i := 157) (by decide +kernel)) rfl
theorem q179 : (.static yX1_wordOf : Cond) ∈ wA := wA_1 (List.mem_of_getElem? (i := 158) (by decide +kernel)) rfl
theorem q180 : (.code yX1_wordOf cX1_wordOf 1 (some (.object "java/lang/String")) : Cond) ∈ wA := wA_1 (List.mem_of_getElem? (i := 159) (by decide +kernel)) rfl
theorem q181 : (.methodLink RX1 68 yX1_sameSigns : Cond) ∈ wA := wA_1 (List.mem_of_getElem? (i := 165) (by decide +kernel)) rfl
theorem q182 : (.instanceMethod yX1_sameSigns : Cond) ∈ wA := wA_1 (List.mem_of_getElem? (i := 167) (by decide +kernel)) rfl
theorem q183 : (.code yX1_sameSigns cX1_sameSigns 3 (some .int) : Cond) ∈ wA := wA_1 (List.mem_of_getElem? (i := 168) (by decide +kernel)) rfl
theorem q184 : (.methodLink RX1 77 yJ0_length_8abf5 : Cond) ∈ wA := wA_1 (List.mem_of_getElem? (i := 169) (by decide +kernel)) rfl
theorem q185 : (.instanceMethod yJ0_length_8abf5 : Cond) ∈ wA := wA_1 (List.mem_of_getElem? (i := 170) (by decide +kernel)) rfl
theorem q186 : (.selects RJ0 yJ0_length_8abf5 yJ0_length_8abf5 : Cond) ∈ wA := wA_1 (List.mem_of_getElem? (i := 171) (by decide +kernel)) rfl
theorem q187 : (.code yJ0_length_8abf5 cJ0_length_8abf5 1 (some .int) : Cond) ∈ wA := wA_1 (List.mem_of_getElem? (i := 172) (by decide +kernel)) rfl
theorem q188 : (.methodLink RJ0 335 yJ0_coder_7d493 : Cond) ∈ wA := wA_1 (List.mem_of_getElem? (i := 173) (by decide +kernel)) rfl
theorem q189 : (.instanceMethod yJ0_coder_7d493 : Cond) ∈ wA := wA_1 (List.mem_of_getElem? (i := 174) (by decide +kernel)) rfl
theorem q190 : (.selects RJ0 yJ0_coder_7d493 yJ0_coder_7d493 : Cond) ∈ wA := wA_1 (List.mem_of_getElem? (i := 175) (by decide +kernel)) rfl
theorem q191 : (.code yJ0_coder_7d493 cJ0_coder_7d493 1 (some .byte) : Cond) ∈ wA := wA_1 (List.mem_of_getElem? (i := 176) (by decide +kernel)) rfl
theorem q192 : (.fieldLink RJ0 38 "java/lang/String" "COMPACT_STRINGS" "Z" : Cond) ∈ wA := wA_1 (List.mem_of_getElem? (i := 177) (by decide +kernel)) rfl
theorem q193 : (.laysStatic RJ0 "COMPACT_STRINGS" "Z" : Cond) ∈ lw_tbl := wT_1 (List.mem_of_getElem? (i := 178) (by decide +kernel))
theorem q194 : (.methodLink RX1 81 yJ0_charAt_5068e : Cond) ∈ wA := wA_1 (List.mem_of_getElem? (i := 179) (by decide +kernel)) rfl
theorem q195 : (.instanceMethod yJ0_charAt_5068e : Cond) ∈ wA := wA_1 (List.mem_of_getElem? (i := 180) (by decide +kernel)) rfl
theorem q196 : (.selects RJ0 yJ0_charAt_5068e yJ0_charAt_5068e : Cond) ∈ wA := wA_1 (List.mem_of_getElem? (i := 181) (by decide +kernel)) rfl
theorem q197 : (.code yJ0_charAt_5068e cJ0_charAt_5068e 2 (some .char) : Cond) ∈ wA := wA_1 (List.mem_of_getElem? (i := 182) (by decide +kernel)) rfl
theorem q198 : (.methodLink RJ0 492 yJ0_isLatin1_aae02 : Cond) ∈ wA := wA_1 (List.mem_of_getElem? (i := 183) (by decide +kernel)) rfl
theorem q199 : (.instanceMethod yJ0_isLatin1_aae02 : Cond) ∈ wA := wA_1 (List.mem_of_getElem? (i := 184) (by decide +kernel)) rfl
theorem q200 : (.selects RJ0 yJ0_isLatin1_aae02 yJ0_isLatin1_aae02 : Cond) ∈ wA := wA_1 (List.mem_of_getElem? (i := 185) (by decide +kernel)) rfl
theorem q201 : (.code yJ0_isLatin1_aae02 cJ0_isLatin1_aae02 1 (some .boolean) : Cond) ∈ wA := wA_1 (List.mem_of_getElem? (i := 186) (by decide +kernel)) rfl
theorem q202 : (.methodLink RJ0 495 yJ1_charAt_3b067 : Cond) ∈ wA := wA_1 (List.mem_of_getElem? (i := 187) (by decide +kernel)) rfl
theorem q203 : (.static yJ1_charAt_3b067 : Cond) ∈ wA := wA_1 (List.mem_of_getElem? (i := 188) (by decide +kernel)) rfl
theorem q204 : (.code yJ1_charAt_3b067 cJ1_charAt_3b067 2 (some .char) : Cond) ∈ wA := wA_1 (List.mem_of_getElem? (i := 189) (by decide +kernel)) rfl
theorem q205 : (.methodLink RJ1 9 yJ0_checkIndex_df160 : Cond) ∈ wA := wA_1 (List.mem_of_getElem? (i := 190) (by decide +kernel)) rfl
theorem q206 : (.static yJ0_checkIndex_df160 : Cond) ∈ wA := wA_1 (List.mem_of_getElem? (i := 191) (by decide +kernel)) rfl
theorem q207 : (.code yJ0_checkIndex_df160 cJ0_checkIndex_df160 2 none : Cond) ∈ wA := wA_1 (List.mem_of_getElem? (i := 192) (by decide +kernel)) rfl
theorem q208 : (.fieldLink RJ0 1053 "jdk/internal/util/Preconditions" "SIOOBE_FORMATTER" "Ljava/util/function/BiFunction;" : Cond) ∈ wA := wA_1 (List.mem_of_getElem? (i := 193) (by decide +kernel)) rfl
theorem q209 : (.laysStatic RJ3 "SIOOBE_FORMATTER" "Ljava/util/function/BiFunction;" : Cond) ∈ lw_tbl := wT_1 (List.mem_of_getElem? (i := 194) (by decide +kernel))
theorem q210 : (.methodLink RJ0 1059 yJ3_checkIndex_8e157 : Cond) ∈ wA := wA_1 (List.mem_of_getElem? (i := 195) (by decide +kernel)) rfl
theorem q211 : (.static yJ3_checkIndex_8e157 : Cond) ∈ wA := wA_1 (List.mem_of_getElem? (i := 196) (by decide +kernel)) rfl
theorem q212 : (.code yJ3_checkIndex_8e157 cJ3_checkIndex_8e157 3 (some .int) : Cond) ∈ wA := wA_1 (List.mem_of_getElem? (i := 197) (by decide +kernel)) rfl
theorem q213 : (.methodLink RJ0 498 yJ2_charAt_3b067 : Cond) ∈ wA := wA_1 (List.mem_of_getElem? (i := 198) (by decide +kernel)) rfl
theorem q214 : (.static yJ2_charAt_3b067 : Cond) ∈ wA := wA_1 (List.mem_of_getElem? (i := 199) (by decide +kernel)) rfl
theorem q215 : (.code yJ2_charAt_3b067 cJ2_charAt_3b067 2 (some .char) : Cond) ∈ wA := wA_1 (List.mem_of_getElem? (i := 200) (by decide +kernel)) rfl
theorem q216 : (.methodLink RJ2 67 yJ2_checkIndex_2214a : Cond) ∈ wA := wA_1 (List.mem_of_getElem? (i := 201) (by decide +kernel)) rfl
theorem q217 : (.static yJ2_checkIndex_2214a : Cond) ∈ wA := wA_1 (List.mem_of_getElem? (i := 202) (by decide +kernel)) rfl
theorem q218 : (.code yJ2_checkIndex_2214a cJ2_checkIndex_2214a 2 none : Cond) ∈ wA := wA_1 (List.mem_of_getElem? (i := 203) (by decide +kernel)) rfl
theorem q219 : (.methodLink RJ2 48 yJ2_length_9d52b : Cond) ∈ wA := wA_1 (List.mem_of_getElem? (i := 204) (by decide +kernel)) rfl
theorem q220 : (.static yJ2_length_9d52b : Cond) ∈ wA := wA_1 (List.mem_of_getElem? (i := 205) (by decide +kernel)) rfl
theorem q221 : (.code yJ2_length_9d52b cJ2_length_9d52b 1 (some .int) : Cond) ∈ wA := wA_1 (List.mem_of_getElem? (i := 206) (by decide +kernel)) rfl
theorem q222 : (.methodLink RJ2 414 yJ0_checkIndex_df160 : Cond) ∈ wA := wA_1 (List.mem_of_getElem? (i := 207) (by decide +kernel)) rfl
theorem q223 : (.methodLink RJ2 71 yJ2_getChar_3b067 : Cond) ∈ wA := wA_1 (List.mem_of_getElem? (i := 208) (by decide +kernel)) rfl
theorem q224 : (.static yJ2_getChar_3b067 : Cond) ∈ wA := wA_1 (List.mem_of_getElem? (i := 209) (by decide +kernel)) rfl
theorem q225 : (.code yJ2_getChar_3b067 cJ2_getChar_3b067 2 (some .char) : Cond) ∈ wA := wA_1 (List.mem_of_getElem? (i := 210) (by decide +kernel)) rfl
theorem q226 : (.fieldLink RJ2 44 "java/lang/StringUTF16" "$assertionsDisabled" "Z" : Cond) ∈ wA := wA_1 (List.mem_of_getElem? (i := 211) (by decide +kernel)) rfl
theorem q227 : (.laysStatic RJ2 "$assertionsDisabled" "Z" : Cond) ∈ lw_tbl := wT_1 (List.mem_of_getElem? (i := 212) (by decide +kernel))
theorem q228 : (.fieldLink RJ2 59 "java/lang/StringUTF16" "HI_BYTE_SHIFT" "I" : Cond) ∈ wA := wA_1 (List.mem_of_getElem? (i := 213) (by decide +kernel)) rfl
theorem q229 : (.laysStatic RJ2 "HI_BYTE_SHIFT" "I" : Cond) ∈ lw_tbl := wT_1 (List.mem_of_getElem? (i := 214) (by decide +kernel))
theorem q230 : (.fieldLink RJ2 63 "java/lang/StringUTF16" "LO_BYTE_SHIFT" "I" : Cond) ∈ wA := wA_1 (List.mem_of_getElem? (i := 215) (by decide +kernel)) rfl
theorem q231 : (.laysStatic RJ2 "LO_BYTE_SHIFT" "I" : Cond) ∈ lw_tbl := wT_1 (List.mem_of_getElem? (i := 216) (by decide +kernel))
theorem q232 : (.methodLink RX1 72 Lib.Math.max.name : Cond) ∈ wA := wA_1 (List.mem_of_getElem? (i := 217) (by decide +kernel)) rfl
theorem q233 : (.static Lib.Math.max.name : Cond) ∈ wA := wA_1 (List.mem_of_getElem? (i := 218) (by decide +kernel)) rfl
theorem q234 : (.code Lib.Math.max.name Lib.Math.max.code 2 (some .int) : Cond) ∈ wA := wA_1 (List.mem_of_getElem? (i := 219) (by decide +kernel)) rfl
theorem q235 : (.fieldLink RX1 54 "FuseRows$OrderText" "LOWEST_NUMBER" "[I" : Cond) ∈ wA := wA_1 (List.mem_of_getElem? (i := 220) (by decide +kernel)) rfl
theorem q236 : (.laysStatic RX1 "LOWEST_NUMBER" "[I" : Cond) ∈ lw_tbl := wT_1 (List.mem_of_getElem? (i := 221) (by decide +kernel))
theorem q237 : (.fieldLink RX1 57 "FuseRows$OrderText" "HIGHEST_NUMBER" "[I" : Cond) ∈ wA := wA_1 (List.mem_of_getElem? (i := 222) (by decide +kernel)) rfl
theorem q238 : (.laysStatic RX1 "HIGHEST_NUMBER" "[I" : Cond) ∈ lw_tbl := wT_1 (List.mem_of_getElem? (i := 223) (by decide +kernel))
theorem q239 : (.methodLink RX1 60 yX1_scanNumber : Cond) ∈ wA := wA_1 (List.mem_of_getElem? (i := 224) (by decide +kernel)) rfl
theorem q240 : (.instanceMethod yX1_scanNumber : Cond) ∈ wA := wA_1 (List.mem_of_getElem? (i := 226) (by decide +kernel)) rfl
theorem q241 : (.code yX1_scanNumber cX1_scanNumber 5 (some .int) : Cond) ∈ wA := wA_1 (List.mem_of_getElem? (i := 227) (by decide +kernel)) rfl
theorem q242 : (.methodLinkNest RX1 95 yX4_isWithin RX4 : Cond) ∈ lw_tbl := wT_1 (List.mem_of_getElem? (i := 228) (by decide +kernel))
theorem q243 : (.static yX4_isWithin : Cond) ∈ wA := wA_1 (List.mem_of_getElem? (i := 229) (by decide +kernel)) rfl
theorem q244 : (.code yX4_isWithin cX4_isWithin 3 (some .boolean) : Cond) ∈ wA := wA_1 (List.mem_of_getElem? (i := 230) (by decide +kernel)) rfl
theorem q245 : (.methodLink RX1 46 yX1_scanSign : Cond) ∈ wA := wA_1 (List.mem_of_getElem? (i := 231) (by decide +kernel)) rfl
theorem q246 : (.instanceMethod yX1_scanSign : Cond) ∈ wA := wA_1 (List.mem_of_getElem? (i := 233) (by decide +kernel)) rfl
theorem q247 : (.code yX1_scanSign cX1_scanSign 2 (some .boolean) : Cond) ∈ wA := wA_1 (List.mem_of_getElem? (i := 234) (by decide +kernel)) rfl
theorem q248 : (.arrayClass .byte : Cond) ∈ wA := wA_1 (List.mem_of_getElem? (i := 235) (by decide +kernel)) rfl
theorem q249 : (.methodLink RL 162 yX4_worst : Cond) ∈ wA := wA_1 (List.mem_of_getElem? (i := 236) (by decide +kernel)) rfl
theorem q250 : (.instanceMethod yX4_worst : Cond) ∈ wA := wA_1 (List.mem_of_getElem? (i := 237) (by decide +kernel)) rfl
theorem q251 : (.selects RX4 yX4_worst yX4_worst : Cond) ∈ wA := wA_1 (List.mem_of_getElem? (i := 238) (by decide +kernel)) rfl
theorem q252 : (.code yX4_worst cX4_worst 5 (some .int) : Cond) ∈ wA := wA_1 (List.mem_of_getElem? (i := 239) (by decide +kernel)) rfl
theorem q253 : (.methodLink RX4 164 yX3_doubtfulFuses : Cond) ∈ wA := wA_2 (List.mem_of_getElem? (i := 0) (by decide +kernel)) rfl
theorem q254 : (.instanceMethod yX3_doubtfulFuses : Cond) ∈ wA := wA_2 (List.mem_of_getElem? (i := 1) (by decide +kernel)) rfl
theorem q255 : (.selects RX3 yX3_doubtfulFuses yX3_doubtfulFuses : Cond) ∈ wA := wA_2 (List.mem_of_getElem? (i := 2) (by decide +kernel)) rfl
theorem q256 : (.code yX3_doubtfulFuses cX3_doubtfulFuses 2 (some .int) : Cond) ∈ wA := wA_2 (List.mem_of_getElem? (i := 3) (by decide +kernel)) rfl
theorem q257 : (.methodLink RX3 57 yJ6_bitCount_0f7a4 : Cond) ∈ wA := wA_2 (List.mem_of_getElem? (i := 4) (by decide +kernel)) rfl
theorem q258 : (.static yJ6_bitCount_0f7a4 : Cond) ∈ wA := wA_2 (List.mem_of_getElem? (i := 5) (by decide +kernel)) rfl
theorem q259 : (.code yJ6_bitCount_0f7a4 cJ6_bitCount_0f7a4 1 (some .int) : Cond) ∈ wA := wA_2 (List.mem_of_getElem? (i := 6) (by decide +kernel)) rfl
theorem q260 : (.constant RJ6 265 (1431655765) : Cond) ∈ wA := wA_2 (List.mem_of_getElem? (i := 7) (by decide +kernel)) rfl
theorem q261 : (.constant RJ6 266 (858993459) : Cond) ∈ wA := wA_2 (List.mem_of_getElem? (i := 8) (by decide +kernel)) rfl
theorem q262 : (.constant RJ6 267 (252645135) : Cond) ∈ wA := wA_2 (List.mem_of_getElem? (i := 9) (by decide +kernel)) rfl
theorem q263 : (.methodLink RX4 48 yX3_isLocked : Cond) ∈ wA := wA_2 (List.mem_of_getElem? (i := 10) (by decide +kernel)) rfl
theorem q264 : (.instanceMethod yX3_isLocked : Cond) ∈ wA := wA_2 (List.mem_of_getElem? (i := 11) (by decide +kernel)) rfl
theorem q265 : (.selects RX3 yX3_isLocked yX3_isLocked : Cond) ∈ wA := wA_2 (List.mem_of_getElem? (i := 12) (by decide +kernel)) rfl
theorem q266 : (.code yX3_isLocked cX3_isLocked 2 (some .boolean) : Cond) ∈ wA := wA_2 (List.mem_of_getElem? (i := 13) (by decide +kernel)) rfl
theorem q267 : (.methodLink RX3 44 yX3_readAt : Cond) ∈ wA := wA_2 (List.mem_of_getElem? (i := 14) (by decide +kernel)) rfl
theorem q268 : (.instanceMethod yX3_readAt : Cond) ∈ wA := wA_2 (List.mem_of_getElem? (i := 15) (by decide +kernel)) rfl
theorem q269 : (.selects RX3 yX3_readAt yX3_readAt : Cond) ∈ wA := wA_2 (List.mem_of_getElem? (i := 16) (by decide +kernel)) rfl
theorem q270 : (.code yX3_readAt cX3_readAt 8 (some .int) : Cond) ∈ wA := wA_2 (List.mem_of_getElem? (i := 17) (by decide +kernel)) rfl
theorem q271 : (.constant RX3 37 (37449) : Cond) ∈ wA := wA_2 (List.mem_of_getElem? (i := 18) (by decide +kernel)) rfl
theorem q272 : (.constant RX3 38 (74898) : Cond) ∈ wA := wA_2 (List.mem_of_getElem? (i := 19) (by decide +kernel)) rfl
theorem q273 : (.constant RX3 39 (149796) : Cond) ∈ wA := wA_2 (List.mem_of_getElem? (i := 20) (by decide +kernel)) rfl
theorem q274 : (.methodLink RX4 167 yX3_kind : Cond) ∈ wA := wA_2 (List.mem_of_getElem? (i := 21) (by decide +kernel)) rfl
theorem q275 : (.instanceMethod yX3_kind : Cond) ∈ wA := wA_2 (List.mem_of_getElem? (i := 22) (by decide +kernel)) rfl
theorem q276 : (.selects RX3 yX3_kind yX3_kind : Cond) ∈ wA := wA_2 (List.mem_of_getElem? (i := 23) (by decide +kernel)) rfl
theorem q277 : (.code yX3_kind cX3_kind 2 (some .int) : Cond) ∈ wA := wA_2 (List.mem_of_getElem? (i := 24) (by decide +kernel)) rfl
theorem q278 : (.methodLink RX3 48 yX3_read : Cond) ∈ wA := wA_2 (List.mem_of_getElem? (i := 25) (by decide +kernel)) rfl
theorem q279 : (.instanceMethod yX3_read : Cond) ∈ wA := wA_2 (List.mem_of_getElem? (i := 26) (by decide +kernel)) rfl
theorem q280 : (.selects RX3 yX3_read yX3_read : Cond) ∈ wA := wA_2 (List.mem_of_getElem? (i := 27) (by decide +kernel)) rfl
theorem q281 : (.code yX3_read cX3_read 2 (some .int) : Cond) ∈ wA := wA_2 (List.mem_of_getElem? (i := 28) (by decide +kernel)) rfl
theorem q282 : (.methodLink RX3 40 yX3_readsThrice : Cond) ∈ wA := wA_2 (List.mem_of_getElem? (i := 29) (by decide +kernel)) rfl
theorem q283 : (.instanceMethod yX3_readsThrice : Cond) ∈ wA := wA_2 (List.mem_of_getElem? (i := 30) (by decide +kernel)) rfl
theorem q284 : (.selects RX3 yX3_readsThrice yX3_readsThrice : Cond) ∈ wA := wA_2 (List.mem_of_getElem? (i := 31) (by decide +kernel)) rfl
theorem q285 : (.code yX3_readsThrice cX3_readsThrice 1 (some .boolean) : Cond) ∈ wA := wA_2 (List.mem_of_getElem? (i := 32) (by decide +kernel)) rfl
theorem q286 : (.methodLink RX3 52 yX0_kindOf : Cond) ∈ wA := wA_2 (List.mem_of_getElem? (i := 33) (by decide +kernel)) rfl
theorem q287 : (.static yX0_kindOf : Cond) ∈ wA := wA_2 (List.mem_of_getElem? (i := 34) (by decide +kernel)) rfl
theorem q288 : (.code yX0_kindOf cX0_kindOf 2 (some .int) : Cond) ∈ wA := wA_2 (List.mem_of_getElem? (i := 35) (by decide +kernel)) rfl
theorem q289 : (.methodLink RX0 11 yJ6_bitCount_0f7a4 : Cond) ∈ wA := wA_2 (List.mem_of_getElem? (i := 36) (by decide +kernel)) rfl
theorem q290 : (.methodLink RX0 17 yX0_checkOf : Cond) ∈ wA := wA_2 (List.mem_of_getElem? (i := 37) (by decide +kernel)) rfl
theorem q291 : (.static yX0_checkOf : Cond) ∈ wA := wA_2 (List.mem_of_getElem? (i := 38) (by decide +kernel)) rfl
theorem q292 : (.code yX0_checkOf cX0_checkOf 1 (some .int) : Cond) ∈ wA := wA_2 (List.mem_of_getElem? (i := 39) (by decide +kernel)) rfl
theorem q293 : (.methodLink RL 166 yX4_sureShare : Cond) ∈ wA := wA_2 (List.mem_of_getElem? (i := 40) (by decide +kernel)) rfl
theorem q294 : (.instanceMethod yX4_sureShare : Cond) ∈ wA := wA_2 (List.mem_of_getElem? (i := 41) (by decide +kernel)) rfl
theorem q295 : (.selects RX4 yX4_sureShare yX4_sureShare : Cond) ∈ wA := wA_2 (List.mem_of_getElem? (i := 42) (by decide +kernel)) rfl
theorem q296 : (.code yX4_sureShare cX4_sureShare 4 (some .double) : Cond) ∈ wA := wA_2 (List.mem_of_getElem? (i := 43) (by decide +kernel)) rfl
theorem q297 : (.methodLink RX4 176 yJ6_bitCount_0f7a4 : Cond) ∈ wA := wA_2 (List.mem_of_getElem? (i := 44) (by decide +kernel)) rfl
theorem q298 : (.methodLink RL 171 yX4_digest : Cond) ∈ wA := wA_2 (List.mem_of_getElem? (i := 45) (by decide +kernel)) rfl
theorem q299 : (.instanceMethod yX4_digest : Cond) ∈ wA := wA_2 (List.mem_of_getElem? (i := 46) (by decide +kernel)) rfl
theorem q300 : (.selects RX4 yX4_digest yX4_digest : Cond) ∈ wA := wA_2 (List.mem_of_getElem? (i := 47) (by decide +kernel)) rfl
theorem q301 : (.code yX4_digest cX4_digest 5 (some .long) : Cond) ∈ wA := wA_2 (List.mem_of_getElem? (i := 48) (by decide +kernel)) rfl
theorem q302 : (.constantLong RX4 181 (2683) : Cond) ∈ wA := wA_2 (List.mem_of_getElem? (i := 49) (by decide +kernel)) rfl
theorem q303 : (.constantLong RX4 183 (31) : Cond) ∈ wA := wA_2 (List.mem_of_getElem? (i := 50) (by decide +kernel)) rfl
theorem q304 : (.methodLink RX4 151 yX4_countOf : Cond) ∈ wA := wA_2 (List.mem_of_getElem? (i := 51) (by decide +kernel)) rfl
theorem q305 : (.instanceMethod yX4_countOf : Cond) ∈ wA := wA_2 (List.mem_of_getElem? (i := 53) (by decide +kernel)) rfl
theorem q306 : (.code yX4_countOf cX4_countOf 2 (some .int) : Cond) ∈ wA := wA_2 (List.mem_of_getElem? (i := 54) (by decide +kernel)) rfl
theorem q307 : (.methodLink RX4 78 yX3_lockedRows : Cond) ∈ wA := wA_2 (List.mem_of_getElem? (i := 55) (by decide +kernel)) rfl
theorem q308 : (.instanceMethod yX3_lockedRows : Cond) ∈ wA := wA_2 (List.mem_of_getElem? (i := 56) (by decide +kernel)) rfl
theorem q309 : (.selects RX3 yX3_lockedRows yX3_lockedRows : Cond) ∈ wA := wA_2 (List.mem_of_getElem? (i := 57) (by decide +kernel)) rfl
theorem q310 : (.code yX3_lockedRows cX3_lockedRows 3 (some .int) : Cond) ∈ wA := wA_2 (List.mem_of_getElem? (i := 58) (by decide +kernel)) rfl
theorem q311 : (.methodLink RX3 65 yX3_isLocked : Cond) ∈ wA := wA_2 (List.mem_of_getElem? (i := 59) (by decide +kernel)) rfl
theorem q312 : (.methodLink RX4 273 yX3_allDoubtfulFuses : Cond) ∈ wA := wA_2 (List.mem_of_getElem? (i := 60) (by decide +kernel)) rfl
theorem q313 : (.instanceMethod yX3_allDoubtfulFuses : Cond) ∈ wA := wA_2 (List.mem_of_getElem? (i := 61) (by decide +kernel)) rfl
theorem q314 : (.selects RX3 yX3_allDoubtfulFuses yX3_allDoubtfulFuses : Cond) ∈ wA := wA_2 (List.mem_of_getElem? (i := 62) (by decide +kernel)) rfl
theorem q315 : (.code yX3_allDoubtfulFuses cX3_allDoubtfulFuses 3 (some .int) : Cond) ∈ wA := wA_2 (List.mem_of_getElem? (i := 63) (by decide +kernel)) rfl
theorem q316 : (.methodLink RX3 62 yX3_doubtfulFuses : Cond) ∈ wA := wA_2 (List.mem_of_getElem? (i := 64) (by decide +kernel)) rfl
theorem q317 : (.methodLink RX4 279 yX3_keysWithValue : Cond) ∈ wA := wA_2 (List.mem_of_getElem? (i := 65) (by decide +kernel)) rfl
theorem q318 : (.instanceMethod yX3_keysWithValue : Cond) ∈ wA := wA_2 (List.mem_of_getElem? (i := 66) (by decide +kernel)) rfl
theorem q319 : (.selects RX3 yX3_keysWithValue yX3_keysWithValue : Cond) ∈ wA := wA_2 (List.mem_of_getElem? (i := 67) (by decide +kernel)) rfl
theorem q320 : (.code yX3_keysWithValue cX3_keysWithValue 3 (some .int) : Cond) ∈ wA := wA_2 (List.mem_of_getElem? (i := 68) (by decide +kernel)) rfl
theorem q321 : (.methodLink RX3 75 yX3_entryRow : Cond) ∈ wA := wA_2 (List.mem_of_getElem? (i := 69) (by decide +kernel)) rfl
theorem q322 : (.instanceMethod yX3_entryRow : Cond) ∈ wA := wA_2 (List.mem_of_getElem? (i := 70) (by decide +kernel)) rfl
theorem q323 : (.selects RX3 yX3_entryRow yX3_entryRow : Cond) ∈ wA := wA_2 (List.mem_of_getElem? (i := 71) (by decide +kernel)) rfl
theorem q324 : (.code yX3_entryRow cX3_entryRow 6 (some .int) : Cond) ∈ wA := wA_2 (List.mem_of_getElem? (i := 72) (by decide +kernel)) rfl
theorem q325 : (.methodLink RX3 72 yX0_keyOf : Cond) ∈ wA := wA_2 (List.mem_of_getElem? (i := 73) (by decide +kernel)) rfl
theorem q326 : (.static yX0_keyOf : Cond) ∈ wA := wA_2 (List.mem_of_getElem? (i := 74) (by decide +kernel)) rfl
theorem q327 : (.code yX0_keyOf cX0_keyOf 1 (some .int) : Cond) ∈ wA := wA_2 (List.mem_of_getElem? (i := 75) (by decide +kernel)) rfl
theorem q328 : (.methodLink RX4 67 yX3_nextRow : Cond) ∈ wA := wA_2 (List.mem_of_getElem? (i := 76) (by decide +kernel)) rfl
theorem q329 : (.instanceMethod yX3_nextRow : Cond) ∈ wA := wA_2 (List.mem_of_getElem? (i := 77) (by decide +kernel)) rfl
theorem q330 : (.selects RX3 yX3_nextRow yX3_nextRow : Cond) ∈ wA := wA_2 (List.mem_of_getElem? (i := 78) (by decide +kernel)) rfl
theorem q331 : (.code yX3_nextRow cX3_nextRow 2 (some .int) : Cond) ∈ wA := wA_2 (List.mem_of_getElem? (i := 79) (by decide +kernel)) rfl
theorem q332 : (.methodLink RX3 69 yX3_kind : Cond) ∈ wA := wA_2 (List.mem_of_getElem? (i := 80) (by decide +kernel)) rfl
theorem q333 : (.methodLink RX4 285 yX3_rowsOfKind : Cond) ∈ wA := wA_2 (List.mem_of_getElem? (i := 81) (by decide +kernel)) rfl
theorem q334 : (.instanceMethod yX3_rowsOfKind : Cond) ∈ wA := wA_2 (List.mem_of_getElem? (i := 82) (by decide +kernel)) rfl
theorem q335 : (.selects RX3 yX3_rowsOfKind yX3_rowsOfKind : Cond) ∈ wA := wA_2 (List.mem_of_getElem? (i := 83) (by decide +kernel)) rfl
theorem q336 : (.code yX3_rowsOfKind cX3_rowsOfKind 4 (some .int) : Cond) ∈ wA := wA_2 (List.mem_of_getElem? (i := 84) (by decide +kernel)) rfl
theorem q337 : (.methodLink RX4 142 yX4_rowProperty : Cond) ∈ wA := wA_2 (List.mem_of_getElem? (i := 85) (by decide +kernel)) rfl
theorem q338 : (.instanceMethod yX4_rowProperty : Cond) ∈ wA := wA_2 (List.mem_of_getElem? (i := 87) (by decide +kernel)) rfl
theorem q339 : (.code yX4_rowProperty cX4_rowProperty 4 (some .int) : Cond) ∈ wA := wA_2 (List.mem_of_getElem? (i := 88) (by decide +kernel)) rfl
theorem q340 : (.methodLink RX4 229 yX3_read : Cond) ∈ wA := wA_2 (List.mem_of_getElem? (i := 89) (by decide +kernel)) rfl
theorem q341 : (.methodLink RX4 232 yX0_kindOf : Cond) ∈ wA := wA_2 (List.mem_of_getElem? (i := 90) (by decide +kernel)) rfl
theorem q342 : (.methodLink RX4 237 yX0_keyOf : Cond) ∈ wA := wA_2 (List.mem_of_getElem? (i := 91) (by decide +kernel)) rfl
theorem q343 : (.methodLink RX4 240 yX0_valueOf : Cond) ∈ wA := wA_2 (List.mem_of_getElem? (i := 92) (by decide +kernel)) rfl
theorem q344 : (.static yX0_valueOf : Cond) ∈ wA := wA_2 (List.mem_of_getElem? (i := 93) (by decide +kernel)) rfl
theorem q345 : (.code yX0_valueOf cX0_valueOf 1 (some .int) : Cond) ∈ wA := wA_2 (List.mem_of_getElem? (i := 94) (by decide +kernel)) rfl
theorem q346 : (.methodLink RX4 243 yX0_checkOf : Cond) ∈ wA := wA_2 (List.mem_of_getElem? (i := 95) (by decide +kernel)) rfl
theorem q347 : (.methodLink RX4 246 yX0_zerosOf : Cond) ∈ wA := wA_2 (List.mem_of_getElem? (i := 96) (by decide +kernel)) rfl
theorem q348 : (.static yX0_zerosOf : Cond) ∈ wA := wA_2 (List.mem_of_getElem? (i := 97) (by decide +kernel)) rfl
theorem q349 : (.code yX0_zerosOf cX0_zerosOf 1 (some .int) : Cond) ∈ wA := wA_2 (List.mem_of_getElem? (i := 98) (by decide +kernel)) rfl
theorem q350 : (.methodLink RX4 249 yX3_strengthSum : Cond) ∈ wA := wA_2 (List.mem_of_getElem? (i := 99) (by decide +kernel)) rfl
theorem q351 : (.instanceMethod yX3_strengthSum : Cond) ∈ wA := wA_2 (List.mem_of_getElem? (i := 100) (by decide +kernel)) rfl
theorem q352 : (.selects RX3 yX3_strengthSum yX3_strengthSum : Cond) ∈ wA := wA_2 (List.mem_of_getElem? (i := 101) (by decide +kernel)) rfl
theorem q353 : (.code yX3_strengthSum cX3_strengthSum 2 (some .int) : Cond) ∈ wA := wA_2 (List.mem_of_getElem? (i := 102) (by decide +kernel)) rfl
theorem q354 : (.methodLink RX4 63 yX3_strength : Cond) ∈ wA := wA_2 (List.mem_of_getElem? (i := 103) (by decide +kernel)) rfl
theorem q355 : (.instanceMethod yX3_strength : Cond) ∈ wA := wA_2 (List.mem_of_getElem? (i := 104) (by decide +kernel)) rfl
theorem q356 : (.selects RX3 yX3_strength yX3_strength : Cond) ∈ wA := wA_2 (List.mem_of_getElem? (i := 105) (by decide +kernel)) rfl
theorem q357 : (.code yX3_strength cX3_strength 3 (some .int) : Cond) ∈ wA := wA_2 (List.mem_of_getElem? (i := 106) (by decide +kernel)) rfl
theorem q358 : (.methodLink RX4 145 yX4_keyProperty : Cond) ∈ wA := wA_2 (List.mem_of_getElem? (i := 107) (by decide +kernel)) rfl
theorem q359 : (.instanceMethod yX4_keyProperty : Cond) ∈ wA := wA_2 (List.mem_of_getElem? (i := 109) (by decide +kernel)) rfl
theorem q360 : (.code yX4_keyProperty cX4_keyProperty 3 (some .int) : Cond) ∈ wA := wA_2 (List.mem_of_getElem? (i := 110) (by decide +kernel)) rfl
theorem q361 : (.methodLink RX4 252 yX3_valueOfKey : Cond) ∈ wA := wA_2 (List.mem_of_getElem? (i := 111) (by decide +kernel)) rfl
theorem q362 : (.instanceMethod yX3_valueOfKey : Cond) ∈ wA := wA_2 (List.mem_of_getElem? (i := 112) (by decide +kernel)) rfl
theorem q363 : (.selects RX3 yX3_valueOfKey yX3_valueOfKey : Cond) ∈ wA := wA_2 (List.mem_of_getElem? (i := 113) (by decide +kernel)) rfl
theorem q364 : (.code yX3_valueOfKey cX3_valueOfKey 2 (some .int) : Cond) ∈ wA := wA_2 (List.mem_of_getElem? (i := 114) (by decide +kernel)) rfl
theorem q365 : (.methodLink RX3 81 yX3_valueAt : Cond) ∈ wA := wA_2 (List.mem_of_getElem? (i := 115) (by decide +kernel)) rfl
theorem q366 : (.instanceMethod yX3_valueAt : Cond) ∈ wA := wA_2 (List.mem_of_getElem? (i := 116) (by decide +kernel)) rfl
theorem q367 : (.selects RX3 yX3_valueAt yX3_valueAt : Cond) ∈ wA := wA_2 (List.mem_of_getElem? (i := 117) (by decide +kernel)) rfl
theorem q368 : (.code yX3_valueAt cX3_valueAt 5 (some .int) : Cond) ∈ wA := wA_2 (List.mem_of_getElem? (i := 118) (by decide +kernel)) rfl
theorem q369 : (.methodLink RX3 78 yX0_valueOf : Cond) ∈ wA := wA_2 (List.mem_of_getElem? (i := 119) (by decide +kernel)) rfl
theorem q370 : (.methodLink RX4 255 yX3_readsThrice : Cond) ∈ wA := wA_2 (List.mem_of_getElem? (i := 120) (by decide +kernel)) rfl
theorem q371 : (.methodLink RX4 258 yX3_entryRow : Cond) ∈ wA := wA_2 (List.mem_of_getElem? (i := 121) (by decide +kernel)) rfl
theorem q372 : (.methodLink RX4 261 yX3_entriesOf : Cond) ∈ wA := wA_2 (List.mem_of_getElem? (i := 122) (by decide +kernel)) rfl
theorem q373 : (.instanceMethod yX3_entriesOf : Cond) ∈ wA := wA_2 (List.mem_of_getElem? (i := 123) (by decide +kernel)) rfl
theorem q374 : (.selects RX3 yX3_entriesOf yX3_entriesOf : Cond) ∈ wA := wA_2 (List.mem_of_getElem? (i := 124) (by decide +kernel)) rfl
theorem q375 : (.code yX3_entriesOf cX3_entriesOf 5 (some .int) : Cond) ∈ wA := wA_2 (List.mem_of_getElem? (i := 125) (by decide +kernel)) rfl
theorem q376 : (.methodLink RX4 264 yX3_rowsOf : Cond) ∈ wA := wA_2 (List.mem_of_getElem? (i := 126) (by decide +kernel)) rfl
theorem q377 : (.instanceMethod yX3_rowsOf : Cond) ∈ wA := wA_2 (List.mem_of_getElem? (i := 127) (by decide +kernel)) rfl
theorem q378 : (.selects RX3 yX3_rowsOf yX3_rowsOf : Cond) ∈ wA := wA_2 (List.mem_of_getElem? (i := 128) (by decide +kernel)) rfl
theorem q379 : (.code yX3_rowsOf cX3_rowsOf 4 (some .int) : Cond) ∈ wA := wA_2 (List.mem_of_getElem? (i := 129) (by decide +kernel)) rfl
theorem q380 : (.methodLink RX3 84 yX3_isRowOf : Cond) ∈ wA := wA_2 (List.mem_of_getElem? (i := 130) (by decide +kernel)) rfl
theorem q381 : (.instanceMethod yX3_isRowOf : Cond) ∈ wA := wA_2 (List.mem_of_getElem? (i := 131) (by decide +kernel)) rfl
theorem q382 : (.selects RX3 yX3_isRowOf yX3_isRowOf : Cond) ∈ wA := wA_2 (List.mem_of_getElem? (i := 132) (by decide +kernel)) rfl
theorem q383 : (.code yX3_isRowOf cX3_isRowOf 5 (some .boolean) : Cond) ∈ wA := wA_2 (List.mem_of_getElem? (i := 133) (by decide +kernel)) rfl
theorem q384 : (.methodLink RX4 267 yX3_greatestValue : Cond) ∈ wA := wA_2 (List.mem_of_getElem? (i := 134) (by decide +kernel)) rfl
theorem q385 : (.instanceMethod yX3_greatestValue : Cond) ∈ wA := wA_2 (List.mem_of_getElem? (i := 135) (by decide +kernel)) rfl
theorem q386 : (.selects RX3 yX3_greatestValue yX3_greatestValue : Cond) ∈ wA := wA_2 (List.mem_of_getElem? (i := 136) (by decide +kernel)) rfl
theorem q387 : (.code yX3_greatestValue cX3_greatestValue 4 (some .int) : Cond) ∈ wA := wA_2 (List.mem_of_getElem? (i := 137) (by decide +kernel)) rfl
theorem q388 : (.methodLink RX3 88 Lib.Math.max.name : Cond) ∈ wA := wA_2 (List.mem_of_getElem? (i := 138) (by decide +kernel)) rfl
theorem q389 : (.methodLink RX4 270 yX3_steadyReadings : Cond) ∈ wA := wA_2 (List.mem_of_getElem? (i := 139) (by decide +kernel)) rfl
theorem q390 : (.instanceMethod yX3_steadyReadings : Cond) ∈ wA := wA_2 (List.mem_of_getElem? (i := 140) (by decide +kernel)) rfl
theorem q391 : (.selects RX3 yX3_steadyReadings yX3_steadyReadings : Cond) ∈ wA := wA_2 (List.mem_of_getElem? (i := 141) (by decide +kernel)) rfl
theorem q392 : (.code yX3_steadyReadings cX3_steadyReadings 5 (some .int) : Cond) ∈ wA := wA_2 (List.mem_of_getElem? (i := 142) (by decide +kernel)) rfl
theorem q393 : (.methodLink RX4 148 yX3_earlierValue : Cond) ∈ wA := wA_2 (List.mem_of_getElem? (i := 143) (by decide +kernel)) rfl
theorem q394 : (.instanceMethod yX3_earlierValue : Cond) ∈ wA := wA_2 (List.mem_of_getElem? (i := 144) (by decide +kernel)) rfl
theorem q395 : (.selects RX3 yX3_earlierValue yX3_earlierValue : Cond) ∈ wA := wA_2 (List.mem_of_getElem? (i := 145) (by decide +kernel)) rfl
theorem q396 : (.code yX3_earlierValue cX3_earlierValue 5 (some .int) : Cond) ∈ wA := wA_2 (List.mem_of_getElem? (i := 146) (by decide +kernel)) rfl
theorem q397 : (.methodLink RX4 154 yX4_putOutcome : Cond) ∈ wA := wA_2 (List.mem_of_getElem? (i := 147) (by decide +kernel)) rfl
theorem q398 : (.instanceMethod yX4_putOutcome : Cond) ∈ wA := wA_2 (List.mem_of_getElem? (i := 149) (by decide +kernel)) rfl
theorem q399 : (.code yX4_putOutcome cX4_putOutcome 7 (some .int) : Cond) ∈ wA := wA_2 (List.mem_of_getElem? (i := 150) (by decide +kernel)) rfl
theorem q400 : (.methodLink RX4 288 yX3_copyFrom : Cond) ∈ wA := wA_2 (List.mem_of_getElem? (i := 151) (by decide +kernel)) rfl
theorem q401 : (.instanceMethod yX3_copyFrom : Cond) ∈ wA := wA_2 (List.mem_of_getElem? (i := 152) (by decide +kernel)) rfl
theorem q402 : (.selects RX3 yX3_copyFrom yX3_copyFrom : Cond) ∈ wA := wA_2 (List.mem_of_getElem? (i := 153) (by decide +kernel)) rfl
theorem q403 : (.code yX3_copyFrom cX3_copyFrom 2 none : Cond) ∈ wA := wA_2 (List.mem_of_getElem? (i := 154) (by decide +kernel)) rfl
theorem q404 : (.methodLink RX3 21 arraycopyName : Cond) ∈ wA := wA_2 (List.mem_of_getElem? (i := 155) (by decide +kernel)) rfl
theorem q405 : (.static arraycopyName : Cond) ∈ wA := wA_2 (List.mem_of_getElem? (i := 156) (by decide +kernel)) rfl
theorem q406 : (.native arraycopyName : Cond) ∈ wA := wA_2 (List.mem_of_getElem? (i := 157) (by decide +kernel)) rfl
theorem q407 : (.methodLink RX4 291 yX3_writeEntry : Cond) ∈ wA := wA_2 (List.mem_of_getElem? (i := 158) (by decide +kernel)) rfl
theorem q408 : (.instanceMethod yX3_writeEntry : Cond) ∈ wA := wA_2 (List.mem_of_getElem? (i := 159) (by decide +kernel)) rfl
theorem q409 : (.selects RX3 yX3_writeEntry yX3_writeEntry : Cond) ∈ wA := wA_2 (List.mem_of_getElem? (i := 160) (by decide +kernel)) rfl
theorem q410 : (.code yX3_writeEntry cX3_writeEntry 6 (some .int) : Cond) ∈ wA := wA_2 (List.mem_of_getElem? (i := 161) (by decide +kernel)) rfl
theorem q411 : (.methodLink RX3 112 yX0_ofEntry : Cond) ∈ wA := wA_2 (List.mem_of_getElem? (i := 162) (by decide +kernel)) rfl
theorem q412 : (.static yX0_ofEntry : Cond) ∈ wA := wA_2 (List.mem_of_getElem? (i := 163) (by decide +kernel)) rfl
theorem q413 : (.code yX0_ofEntry cX0_ofEntry 3 (some .int) : Cond) ∈ wA := wA_2 (List.mem_of_getElem? (i := 164) (by decide +kernel)) rfl
theorem q414 : (.methodLink RX0 20 yX0_zerosOf : Cond) ∈ wA := wA_2 (List.mem_of_getElem? (i := 165) (by decide +kernel)) rfl
theorem q415 : (.methodLink RX3 115 yX3_blowFuses : Cond) ∈ wA := wA_2 (List.mem_of_getElem? (i := 166) (by decide +kernel)) rfl
theorem q416 : (.instanceMethod yX3_blowFuses : Cond) ∈ wA := wA_2 (List.mem_of_getElem? (i := 167) (by decide +kernel)) rfl
theorem q417 : (.selects RX3 yX3_blowFuses yX3_blowFuses : Cond) ∈ wA := wA_2 (List.mem_of_getElem? (i := 168) (by decide +kernel)) rfl
theorem q418 : (.code yX3_blowFuses cX3_blowFuses 5 none : Cond) ∈ wA := wA_2 (List.mem_of_getElem? (i := 169) (by decide +kernel)) rfl
theorem q419 : (.methodLink RX3 97 yX3_blowFuse : Cond) ∈ wA := wA_2 (List.mem_of_getElem? (i := 170) (by decide +kernel)) rfl
theorem q420 : (.instanceMethod yX3_blowFuse : Cond) ∈ wA := wA_2 (List.mem_of_getElem? (i := 171) (by decide +kernel)) rfl
theorem q421 : (.selects RX3 yX3_blowFuse yX3_blowFuse : Cond) ∈ wA := wA_2 (List.mem_of_getElem? (i := 172) (by decide +kernel)) rfl
theorem q422 : (.code yX3_blowFuse cX3_blowFuse 5 none : Cond) ∈ wA := wA_2 (List.mem_of_getElem? (i := 173) (by decide +kernel)) rfl
theorem q423 : (.methodLink RX3 94 yX3_strength : Cond) ∈ wA := wA_2 (List.mem_of_getElem? (i := 174) (by decide +kernel)) rfl
theorem q424 : (.methodLink RX3 118 yX3_tellsEntry : Cond) ∈ wA := wA_2 (List.mem_of_getElem? (i := 175) (by decide +kernel)) rfl
theorem q425 : (.instanceMethod yX3_tellsEntry : Cond) ∈ wA := wA_2 (List.mem_of_getElem? (i := 176) (by decide +kernel)) rfl
theorem q426 : (.selects RX3 yX3_tellsEntry yX3_tellsEntry : Cond) ∈ wA := wA_2 (List.mem_of_getElem? (i := 177) (by decide +kernel)) rfl
theorem q427 : (.code yX3_tellsEntry cX3_tellsEntry 5 (some .boolean) : Cond) ∈ wA := wA_2 (List.mem_of_getElem? (i := 178) (by decide +kernel)) rfl
theorem q428 : (.methodLink RX3 122 yX3_strengthenFuses : Cond) ∈ wA := wA_2 (List.mem_of_getElem? (i := 179) (by decide +kernel)) rfl
theorem q429 : (.instanceMethod yX3_strengthenFuses : Cond) ∈ wA := wA_2 (List.mem_of_getElem? (i := 180) (by decide +kernel)) rfl
theorem q430 : (.selects RX3 yX3_strengthenFuses yX3_strengthenFuses : Cond) ∈ wA := wA_2 (List.mem_of_getElem? (i := 181) (by decide +kernel)) rfl
theorem q431 : (.code yX3_strengthenFuses cX3_strengthenFuses 4 none : Cond) ∈ wA := wA_2 (List.mem_of_getElem? (i := 182) (by decide +kernel)) rfl
theorem q432 : (.methodLink RX4 294 yX3_markEarlier : Cond) ∈ wA := wA_2 (List.mem_of_getElem? (i := 183) (by decide +kernel)) rfl
theorem q433 : (.instanceMethod yX3_markEarlier : Cond) ∈ wA := wA_2 (List.mem_of_getElem? (i := 184) (by decide +kernel)) rfl
theorem q434 : (.selects RX3 yX3_markEarlier yX3_markEarlier : Cond) ∈ wA := wA_2 (List.mem_of_getElem? (i := 185) (by decide +kernel)) rfl
theorem q435 : (.code yX3_markEarlier cX3_markEarlier 3 (some .int) : Cond) ∈ wA := wA_2 (List.mem_of_getElem? (i := 186) (by decide +kernel)) rfl
theorem q436 : (.methodLink RX3 126 yX3_markEntries : Cond) ∈ wA := wA_2 (List.mem_of_getElem? (i := 187) (by decide +kernel)) rfl
theorem q437 : (.instanceMethod yX3_markEntries : Cond) ∈ wA := wA_2 (List.mem_of_getElem? (i := 188) (by decide +kernel)) rfl
theorem q438 : (.selects RX3 yX3_markEntries yX3_markEntries : Cond) ∈ wA := wA_2 (List.mem_of_getElem? (i := 189) (by decide +kernel)) rfl
theorem q439 : (.code yX3_markEntries cX3_markEntries 7 (some .int) : Cond) ∈ wA := wA_2 (List.mem_of_getElem? (i := 190) (by decide +kernel)) rfl
theorem q440 : (.methodLink RX4 157 yX4_heatOutcome : Cond) ∈ wA := wA_2 (List.mem_of_getElem? (i := 191) (by decide +kernel)) rfl
theorem q441 : (.instanceMethod yX4_heatOutcome : Cond) ∈ wA := wA_2 (List.mem_of_getElem? (i := 193) (by decide +kernel)) rfl
theorem q442 : (.code yX4_heatOutcome cX4_heatOutcome 6 (some .int) : Cond) ∈ wA := wA_2 (List.mem_of_getElem? (i := 194) (by decide +kernel)) rfl
theorem q443 : (.methodLink RX4 85 yX3_heatRows : Cond) ∈ wA := wA_2 (List.mem_of_getElem? (i := 195) (by decide +kernel)) rfl
theorem q444 : (.instanceMethod yX3_heatRows : Cond) ∈ wA := wA_2 (List.mem_of_getElem? (i := 196) (by decide +kernel)) rfl
theorem q445 : (.selects RX3 yX3_heatRows yX3_heatRows : Cond) ∈ wA := wA_2 (List.mem_of_getElem? (i := 197) (by decide +kernel)) rfl
theorem q446 : (.code yX3_heatRows cX3_heatRows 6 (some .int) : Cond) ∈ wA := wA_2 (List.mem_of_getElem? (i := 198) (by decide +kernel)) rfl
theorem q447 : (.methodLink RX4 160 yX4_valuesReadOtherwise : Cond) ∈ wA := wA_2 (List.mem_of_getElem? (i := 199) (by decide +kernel)) rfl
theorem q448 : (.instanceMethod yX4_valuesReadOtherwise : Cond) ∈ wA := wA_2 (List.mem_of_getElem? (i := 201) (by decide +kernel)) rfl
theorem q449 : (.code yX4_valuesReadOtherwise cX4_valuesReadOtherwise 5 (some .int) : Cond) ∈ wA := wA_2 (List.mem_of_getElem? (i := 202) (by decide +kernel)) rfl
theorem q450 : (.methodLink RX4 297 yX3_valueAt : Cond) ∈ wA := wA_2 (List.mem_of_getElem? (i := 203) (by decide +kernel)) rfl
theorem q451 : (.methodLink RX4 185 yX4_worst : Cond) ∈ wA := wA_2 (List.mem_of_getElem? (i := 204) (by decide +kernel)) rfl
theorem q452 : (.methodLink RX4 188 yX4_sureShare : Cond) ∈ wA := wA_2 (List.mem_of_getElem? (i := 205) (by decide +kernel)) rfl
theorem q453 : (.methodLink RX4 192 yX4_bitsOfShare : Cond) ∈ wA := wA_2 (List.mem_of_getElem? (i := 206) (by decide +kernel)) rfl
theorem q454 : (.static yX4_bitsOfShare : Cond) ∈ wA := wA_2 (List.mem_of_getElem? (i := 207) (by decide +kernel)) rfl
theorem q455 : (.code yX4_bitsOfShare cX4_bitsOfShare 8 (some .long) : Cond) ∈ wA := wA_2 (List.mem_of_getElem? (i := 208) (by decide +kernel)) rfl
theorem q456 : (.constantLong RX4 300 (1023) : Cond) ∈ wA := wA_2 (List.mem_of_getElem? (i := 209) (by decide +kernel)) rfl
theorem q457 : (.constantDouble RX4 302 (4611686018427387904) : Cond) ∈ wA := wA_2 (List.mem_of_getElem? (i := 210) (by decide +kernel)) rfl
theorem q458 : (.constantDouble RX4 304 (4841369599423283200) : Cond) ∈ wA := wA_2 (List.mem_of_getElem? (i := 211) (by decide +kernel)) rfl
theorem q459 : (.methodLink RL 84 yL_blow : Cond) ∈ wA := wA_2 (List.mem_of_getElem? (i := 212) (by decide +kernel)) rfl
theorem q460 : (.static yL_blow : Cond) ∈ wA := wA_2 (List.mem_of_getElem? (i := 213) (by decide +kernel)) rfl
theorem q461 : (.codeWith yL_blow cL_blow 6 (some .int) [(0, 12, 15, 13), (0, 12, 19, 15), (0, 12, 23, 17)] : Cond) ∈ wA := wA_2 (List.mem_of_getElem? (i := 214) (by decide +kernel)) rfl
theorem q462 : (.classLink RL 13 "java/lang/IndexOutOfBoundsException" : Cond) ∈ wA := wA_2 (List.mem_of_getElem? (i := 215) (by decide +kernel)) rfl
theorem q463 : (.classLink RL 15 "java/lang/IllegalArgumentException" : Cond) ∈ wA := wA_2 (List.mem_of_getElem? (i := 216) (by decide +kernel)) rfl
theorem q464 : (.classLink RL 17 "java/lang/IllegalStateException" : Cond) ∈ wA := wA_2 (List.mem_of_getElem? (i := 217) (by decide +kernel)) rfl
theorem q465 : (.methodLink RL 7 yX4_blow : Cond) ∈ wA := wA_2 (List.mem_of_getElem? (i := 218) (by decide +kernel)) rfl
theorem q466 : (.instanceMethod yX4_blow : Cond) ∈ wA := wA_2 (List.mem_of_getElem? (i := 219) (by decide +kernel)) rfl
theorem q467 : (.selects RX4 yX4_blow yX4_blow : Cond) ∈ wA := wA_2 (List.mem_of_getElem? (i := 220) (by decide +kernel)) rfl
theorem q468 : (.code yX4_blow cX4_blow 4 (some .int) : Cond) ∈ wA := wA_2 (List.mem_of_getElem? (i := 221) (by decide +kernel)) rfl
theorem q469 : (.methodLink RX4 33 yX4_isIndex : Cond) ∈ wA := wA_2 (List.mem_of_getElem? (i := 222) (by decide +kernel)) rfl
theorem q470 : (.static yX4_isIndex : Cond) ∈ wA := wA_2 (List.mem_of_getElem? (i := 223) (by decide +kernel)) rfl
theorem q471 : (.code yX4_isIndex cX4_isIndex 2 (some .boolean) : Cond) ∈ wA := wA_2 (List.mem_of_getElem? (i := 224) (by decide +kernel)) rfl
theorem q472 : (.methodLink RX4 37 yX4_requireIndex : Cond) ∈ wA := wA_2 (List.mem_of_getElem? (i := 225) (by decide +kernel)) rfl
theorem q473 : (.static yX4_requireIndex : Cond) ∈ wA := wA_2 (List.mem_of_getElem? (i := 226) (by decide +kernel)) rfl
theorem q474 : (.code yX4_requireIndex cX4_requireIndex 1 none : Cond) ∈ wA := wA_2 (List.mem_of_getElem? (i := 227) (by decide +kernel)) rfl
theorem q475 : (.classLink RX4 200 "java/lang/IndexOutOfBoundsException" : Cond) ∈ wA := wA_2 (List.mem_of_getElem? (i := 228) (by decide +kernel)) rfl
theorem q476 : (.instantiable "java/lang/IndexOutOfBoundsException" 6 : Cond) ∈ wA := wA_2 (List.mem_of_getElem? (i := 229) (by decide +kernel)) rfl
theorem q477 : (.castable "java/lang/IndexOutOfBoundsException" "java/lang/IndexOutOfBoundsException" : Cond) ∈ lw_tbl := wT_2 (List.mem_of_getElem? (i := 230) (by decide +kernel))
theorem q478 : (.selects "java/lang/IndexOutOfBoundsException" ⟨"java/lang/Throwable", "fillInStackTrace", "(I)Ljava/lang/Throwable;"⟩ ⟨"java/lang/Throwable", "fillInStackTrace", "(I)Ljava/lang/Throwable;"⟩ : Cond) ∈ wA := wA_2 (List.mem_of_getElem? (i := 237) (by decide +kernel)) rfl
theorem q479 : (.selects "java/lang/IndexOutOfBoundsException" ⟨"java/lang/Throwable", "fillInStackTrace", "()Ljava/lang/Throwable;"⟩ ⟨"java/lang/Throwable", "fillInStackTrace", "()Ljava/lang/Throwable;"⟩ : Cond) ∈ wA := wA_2 (List.mem_of_getElem? (i := 238) (by decide +kernel)) rfl
theorem q480 : (.fieldLink "java/lang/Throwable" 198 "java/lang/Throwable" "backtrace" "Ljava/lang/Object;" : Cond) ∈ wA := wA_3 (List.mem_of_getElem? (i := 9) (by decide +kernel)) rfl
theorem q481 : (.instanceMethod ⟨"java/lang/Throwable", "<init>", "()V"⟩ : Cond) ∈ wA := wA_3 (List.mem_of_getElem? (i := 11) (by decide +kernel)) rfl
theorem q482 : (.code ⟨"java/lang/Throwable", "<init>", "()V"⟩ prog_19_method_1_code 1 none : Cond) ∈ wA := wA_3 (List.mem_of_getElem? (i := 12) (by decide +kernel)) rfl
theorem q483 : (.methodLink "java/lang/Throwable" 1 objectInit : Cond) ∈ wA := wA_3 (List.mem_of_getElem? (i := 13) (by decide +kernel)) rfl
theorem q484 : (.fieldLink "java/lang/Throwable" 13 "java/lang/Throwable" "UNASSIGNED_STACK" "[Ljava/lang/StackTraceElement;" : Cond) ∈ wA := wA_3 (List.mem_of_getElem? (i := 14) (by decide +kernel)) rfl
theorem q485 : (.laysStatic "java/lang/Throwable" "UNASSIGNED_STACK" "[Ljava/lang/StackTraceElement;" : Cond) ∈ lw_tbl := wT_3 (List.mem_of_getElem? (i := 15) (by decide +kernel))
theorem q486 : (.fieldLink "java/lang/Throwable" 20 "java/lang/Throwable" "SUPPRESSED_SENTINEL" "Ljava/util/List;" : Cond) ∈ wA := wA_3 (List.mem_of_getElem? (i := 16) (by decide +kernel)) rfl
theorem q487 : (.laysStatic "java/lang/Throwable" "SUPPRESSED_SENTINEL" "Ljava/util/List;" : Cond) ∈ lw_tbl := wT_3 (List.mem_of_getElem? (i := 17) (by decide +kernel))
theorem q488 : (.methodLink "java/lang/Throwable" 27 ⟨"java/lang/Throwable", "fillInStackTrace", "()Ljava/lang/Throwable;"⟩ : Cond) ∈ wA := wA_3 (List.mem_of_getElem? (i := 18) (by decide +kernel)) rfl
theorem q489 : (.instanceMethod ⟨"java/lang/Throwable", "fillInStackTrace", "()Ljava/lang/Throwable;"⟩ : Cond) ∈ wA := wA_3 (List.mem_of_getElem? (i := 19) (by decide +kernel)) rfl
theorem q490 : (.selects "java/lang/IllegalArgumentException" ⟨"java/lang/Throwable", "fillInStackTrace", "()Ljava/lang/Throwable;"⟩ ⟨"java/lang/Throwable", "fillInStackTrace", "()Ljava/lang/Throwable;"⟩ : Cond) ∈ wA := wA_3 (List.mem_of_getElem? (i := 21) (by decide +kernel)) rfl
theorem q491 : (.selects "java/lang/IllegalStateException" ⟨"java/lang/Throwable", "fillInStackTrace", "()Ljava/lang/Throwable;"⟩ ⟨"java/lang/Throwable", "fillInStackTrace", "()Ljava/lang/Throwable;"⟩ : Cond) ∈ wA := wA_3 (List.mem_of_getElem? (i := 22) (by decide +kernel)) rfl
theorem q492 : (.methodLink "java/lang/Throwable" 202 ⟨"java/lang/Throwable", "fillInStackTrace", "(I)Ljava/lang/Throwable;"⟩ : Cond) ∈ wA := wA_3 (List.mem_of_getElem? (i := 24) (by decide +kernel)) rfl
theorem q493 : (.instanceMethod ⟨"java/lang/Throwable", "fillInStackTrace", "(I)Ljava/lang/Throwable;"⟩ : Cond) ∈ wA := wA_3 (List.mem_of_getElem? (i := 26) (by decide +kernel)) rfl
theorem q494 : (.instantiable "java/lang/Throwable" 6 : Cond) ∈ wA := wA_3 (List.mem_of_getElem? (i := 27) (by decide +kernel)) rfl
theorem q495 : (.native ⟨"java/lang/Throwable", "fillInStackTrace", "(I)Ljava/lang/Throwable;"⟩ : Cond) ∈ wA := wA_3 (List.mem_of_getElem? (i := 28) (by decide +kernel)) rfl
theorem q496 : (.methodLink RX4 204 ⟨"java/lang/IndexOutOfBoundsException", "<init>", "(Ljava/lang/String;)V"⟩ : Cond) ∈ wA := wA_3 (List.mem_of_getElem? (i := 30) (by decide +kernel)) rfl
theorem q497 : (.instanceMethod ⟨"java/lang/IndexOutOfBoundsException", "<init>", "(Ljava/lang/String;)V"⟩ : Cond) ∈ wA := wA_3 (List.mem_of_getElem? (i := 31) (by decide +kernel)) rfl
theorem q498 : (.code ⟨"java/lang/IndexOutOfBoundsException", "<init>", "(Ljava/lang/String;)V"⟩ prog_11_method_2_code 2 none : Cond) ∈ wA := wA_3 (List.mem_of_getElem? (i := 32) (by decide +kernel)) rfl
theorem q499 : (.methodLink "java/lang/IndexOutOfBoundsException" 7 ⟨"java/lang/RuntimeException", "<init>", "(Ljava/lang/String;)V"⟩ : Cond) ∈ wA := wA_3 (List.mem_of_getElem? (i := 33) (by decide +kernel)) rfl
theorem q500 : (.instanceMethod ⟨"java/lang/RuntimeException", "<init>", "(Ljava/lang/String;)V"⟩ : Cond) ∈ wA := wA_3 (List.mem_of_getElem? (i := 34) (by decide +kernel)) rfl
theorem q501 : (.code ⟨"java/lang/RuntimeException", "<init>", "(Ljava/lang/String;)V"⟩ prog_14_method_2_code 2 none : Cond) ∈ wA := wA_3 (List.mem_of_getElem? (i := 35) (by decide +kernel)) rfl
theorem q502 : (.methodLink "java/lang/RuntimeException" 7 ⟨"java/lang/Exception", "<init>", "(Ljava/lang/String;)V"⟩ : Cond) ∈ wA := wA_3 (List.mem_of_getElem? (i := 36) (by decide +kernel)) rfl
theorem q503 : (.instanceMethod ⟨"java/lang/Exception", "<init>", "(Ljava/lang/String;)V"⟩ : Cond) ∈ wA := wA_3 (List.mem_of_getElem? (i := 37) (by decide +kernel)) rfl
theorem q504 : (.code ⟨"java/lang/Exception", "<init>", "(Ljava/lang/String;)V"⟩ prog_8_method_2_code 2 none : Cond) ∈ wA := wA_3 (List.mem_of_getElem? (i := 38) (by decide +kernel)) rfl
theorem q505 : (.methodLink "java/lang/Exception" 7 ⟨"java/lang/Throwable", "<init>", "(Ljava/lang/String;)V"⟩ : Cond) ∈ wA := wA_3 (List.mem_of_getElem? (i := 39) (by decide +kernel)) rfl
theorem q506 : (.instanceMethod ⟨"java/lang/Throwable", "<init>", "(Ljava/lang/String;)V"⟩ : Cond) ∈ wA := wA_3 (List.mem_of_getElem? (i := 40) (by decide +kernel)) rfl
theorem q507 : (.code ⟨"java/lang/Throwable", "<init>", "(Ljava/lang/String;)V"⟩ prog_19_method_2_code 2 none : Cond) ∈ wA := wA_3 (List.mem_of_getElem? (i := 41) (by decide +kernel)) rfl
theorem q508 : (.fieldLink "java/lang/Throwable" 31 "java/lang/Throwable" "detailMessage" "Ljava/lang/String;" : Cond) ∈ wA := wA_3 (List.mem_of_getElem? (i := 43) (by decide +kernel)) rfl
theorem q509 : (.fieldLink "java/lang/Throwable" 7 "java/lang/Throwable" "cause" "Ljava/lang/Throwable;" : Cond) ∈ wA := wA_3 (List.mem_of_getElem? (i := 44) (by decide +kernel)) rfl
theorem q510 : (.fieldLink "java/lang/Throwable" 17 "java/lang/Throwable" "stackTrace" "[Ljava/lang/StackTraceElement;" : Cond) ∈ wA := wA_3 (List.mem_of_getElem? (i := 45) (by decide +kernel)) rfl
theorem q511 : (.fieldLink "java/lang/Throwable" 24 "java/lang/Throwable" "suppressedExceptions" "Ljava/util/List;" : Cond) ∈ wA := wA_3 (List.mem_of_getElem? (i := 46) (by decide +kernel)) rfl
theorem q512 : (.methodLink RX4 41 yX4_isWithin : Cond) ∈ wA := wA_3 (List.mem_of_getElem? (i := 55) (by decide +kernel)) rfl
theorem q513 : (.methodLink RX4 45 yX4_requireArgument : Cond) ∈ wA := wA_3 (List.mem_of_getElem? (i := 56) (by decide +kernel)) rfl
theorem q514 : (.static yX4_requireArgument : Cond) ∈ wA := wA_3 (List.mem_of_getElem? (i := 57) (by decide +kernel)) rfl
theorem q515 : (.code yX4_requireArgument cX4_requireArgument 1 none : Cond) ∈ wA := wA_3 (List.mem_of_getElem? (i := 58) (by decide +kernel)) rfl
theorem q516 : (.classLink RX4 207 "java/lang/IllegalArgumentException" : Cond) ∈ wA := wA_3 (List.mem_of_getElem? (i := 59) (by decide +kernel)) rfl
theorem q517 : (.instantiable "java/lang/IllegalArgumentException" 6 : Cond) ∈ wA := wA_3 (List.mem_of_getElem? (i := 60) (by decide +kernel)) rfl
theorem q518 : (.castable "java/lang/IllegalArgumentException" "java/lang/IllegalArgumentException" : Cond) ∈ lw_tbl := wT_3 (List.mem_of_getElem? (i := 61) (by decide +kernel))
theorem q519 : (.selects "java/lang/IllegalArgumentException" ⟨"java/lang/Throwable", "fillInStackTrace", "(I)Ljava/lang/Throwable;"⟩ ⟨"java/lang/Throwable", "fillInStackTrace", "(I)Ljava/lang/Throwable;"⟩ : Cond) ∈ wA := wA_3 (List.mem_of_getElem? (i := 62) (by decide +kernel)) rfl
theorem q520 : (.methodLink RX4 211 ⟨"java/lang/IllegalArgumentException", "<init>", "(Ljava/lang/String;)V"⟩ : Cond) ∈ wA := wA_3 (List.mem_of_getElem? (i := 69) (by decide +kernel)) rfl
theorem q521 : (.instanceMethod ⟨"java/lang/IllegalArgumentException", "<init>", "(Ljava/lang/String;)V"⟩ : Cond) ∈ wA := wA_3 (List.mem_of_getElem? (i := 70) (by decide +kernel)) rfl
theorem q522 : (.code ⟨"java/lang/IllegalArgumentException", "<init>", "(Ljava/lang/String;)V"⟩ prog_9_method_2_code 2 none : Cond) ∈ wA := wA_3 (List.mem_of_getElem? (i := 71) (by decide +kernel)) rfl
theorem q523 : (.methodLink "java/lang/IllegalArgumentException" 7 ⟨"java/lang/RuntimeException", "<init>", "(Ljava/lang/String;)V"⟩ : Cond) ∈ wA := wA_3 (List.mem_of_getElem? (i := 72) (by decide +kernel)) rfl
theorem q524 : (.methodLink RX4 52 yX4_requireState : Cond) ∈ wA := wA_3 (List.mem_of_getElem? (i := 75) (by decide +kernel)) rfl
theorem q525 : (.static yX4_requireState : Cond) ∈ wA := wA_3 (List.mem_of_getElem? (i := 76) (by decide +kernel)) rfl
theorem q526 : (.code yX4_requireState cX4_requireState 1 none : Cond) ∈ wA := wA_3 (List.mem_of_getElem? (i := 77) (by decide +kernel)) rfl
theorem q527 : (.classLink RX4 212 "java/lang/IllegalStateException" : Cond) ∈ wA := wA_3 (List.mem_of_getElem? (i := 78) (by decide +kernel)) rfl
theorem q528 : (.instantiable "java/lang/IllegalStateException" 6 : Cond) ∈ wA := wA_3 (List.mem_of_getElem? (i := 79) (by decide +kernel)) rfl
theorem q529 : (.castable "java/lang/IllegalStateException" "java/lang/IllegalStateException" : Cond) ∈ lw_tbl := wT_3 (List.mem_of_getElem? (i := 80) (by decide +kernel))
theorem q530 : (.selects "java/lang/IllegalStateException" ⟨"java/lang/Throwable", "fillInStackTrace", "(I)Ljava/lang/Throwable;"⟩ ⟨"java/lang/Throwable", "fillInStackTrace", "(I)Ljava/lang/Throwable;"⟩ : Cond) ∈ wA := wA_3 (List.mem_of_getElem? (i := 81) (by decide +kernel)) rfl
theorem q531 : (.methodLink RX4 216 ⟨"java/lang/IllegalStateException", "<init>", "(Ljava/lang/String;)V"⟩ : Cond) ∈ wA := wA_3 (List.mem_of_getElem? (i := 88) (by decide +kernel)) rfl
theorem q532 : (.instanceMethod ⟨"java/lang/IllegalStateException", "<init>", "(Ljava/lang/String;)V"⟩ : Cond) ∈ wA := wA_3 (List.mem_of_getElem? (i := 89) (by decide +kernel)) rfl
theorem q533 : (.code ⟨"java/lang/IllegalStateException", "<init>", "(Ljava/lang/String;)V"⟩ prog_10_method_2_code 2 none : Cond) ∈ wA := wA_3 (List.mem_of_getElem? (i := 90) (by decide +kernel)) rfl
theorem q534 : (.methodLink "java/lang/IllegalStateException" 7 ⟨"java/lang/RuntimeException", "<init>", "(Ljava/lang/String;)V"⟩ : Cond) ∈ wA := wA_3 (List.mem_of_getElem? (i := 91) (by decide +kernel)) rfl
theorem q535 : (.methodLink RX4 55 yX2_save : Cond) ∈ wA := wA_3 (List.mem_of_getElem? (i := 94) (by decide +kernel)) rfl
theorem q536 : (.instanceMethod yX2_save : Cond) ∈ wA := wA_3 (List.mem_of_getElem? (i := 95) (by decide +kernel)) rfl
theorem q537 : (.selects RX2 yX2_save yX2_save : Cond) ∈ wA := wA_3 (List.mem_of_getElem? (i := 96) (by decide +kernel)) rfl
theorem q538 : (.code yX2_save cX2_save 2 none : Cond) ∈ wA := wA_3 (List.mem_of_getElem? (i := 97) (by decide +kernel)) rfl
theorem q539 : (.methodLink RX2 23 yX3_copyFrom : Cond) ∈ wA := wA_3 (List.mem_of_getElem? (i := 98) (by decide +kernel)) rfl
theorem q540 : (.methodLink RX4 59 yX3_blowFuse : Cond) ∈ wA := wA_3 (List.mem_of_getElem? (i := 99) (by decide +kernel)) rfl
theorem q541 : (.methodLink RL 93 yL_put : Cond) ∈ wA := wA_3 (List.mem_of_getElem? (i := 100) (by decide +kernel)) rfl
theorem q542 : (.static yL_put : Cond) ∈ wA := wA_3 (List.mem_of_getElem? (i := 101) (by decide +kernel)) rfl
theorem q543 : (.codeWith yL_put cL_put 5 (some .int) [(0, 10, 13, 15), (0, 10, 17, 17)] : Cond) ∈ wA := wA_3 (List.mem_of_getElem? (i := 102) (by decide +kernel)) rfl
theorem q544 : (.methodLink RL 19 yX4_put : Cond) ∈ wA := wA_3 (List.mem_of_getElem? (i := 103) (by decide +kernel)) rfl
theorem q545 : (.instanceMethod yX4_put : Cond) ∈ wA := wA_3 (List.mem_of_getElem? (i := 104) (by decide +kernel)) rfl
theorem q546 : (.selects RX4 yX4_put yX4_put : Cond) ∈ wA := wA_3 (List.mem_of_getElem? (i := 105) (by decide +kernel)) rfl
theorem q547 : (.code yX4_put cX4_put 3 (some .int) : Cond) ∈ wA := wA_3 (List.mem_of_getElem? (i := 106) (by decide +kernel)) rfl
theorem q548 : (.methodLink RX4 71 yX3_putNext : Cond) ∈ wA := wA_3 (List.mem_of_getElem? (i := 107) (by decide +kernel)) rfl
theorem q549 : (.instanceMethod yX3_putNext : Cond) ∈ wA := wA_3 (List.mem_of_getElem? (i := 108) (by decide +kernel)) rfl
theorem q550 : (.selects RX3 yX3_putNext yX3_putNext : Cond) ∈ wA := wA_3 (List.mem_of_getElem? (i := 109) (by decide +kernel)) rfl
theorem q551 : (.code yX3_putNext cX3_putNext 5 (some .int) : Cond) ∈ wA := wA_3 (List.mem_of_getElem? (i := 110) (by decide +kernel)) rfl
theorem q552 : (.methodLink RX3 101 yX3_nextRow : Cond) ∈ wA := wA_3 (List.mem_of_getElem? (i := 111) (by decide +kernel)) rfl
theorem q553 : (.methodLink RX3 105 yX3_writeEntry : Cond) ∈ wA := wA_3 (List.mem_of_getElem? (i := 112) (by decide +kernel)) rfl
theorem q554 : (.methodLink RX3 109 yX3_markEarlier : Cond) ∈ wA := wA_3 (List.mem_of_getElem? (i := 113) (by decide +kernel)) rfl
theorem q555 : (.methodLink RL 97 yL_drop : Cond) ∈ wA := wA_3 (List.mem_of_getElem? (i := 114) (by decide +kernel)) rfl
theorem q556 : (.static yL_drop : Cond) ∈ wA := wA_3 (List.mem_of_getElem? (i := 115) (by decide +kernel)) rfl
theorem q557 : (.codeWith yL_drop cL_drop 4 (some .int) [(0, 9, 12, 15)] : Cond) ∈ wA := wA_3 (List.mem_of_getElem? (i := 116) (by decide +kernel)) rfl
theorem q558 : (.methodLink RL 23 yX4_drop : Cond) ∈ wA := wA_3 (List.mem_of_getElem? (i := 117) (by decide +kernel)) rfl
theorem q559 : (.instanceMethod yX4_drop : Cond) ∈ wA := wA_3 (List.mem_of_getElem? (i := 118) (by decide +kernel)) rfl
theorem q560 : (.selects RX4 yX4_drop yX4_drop : Cond) ∈ wA := wA_3 (List.mem_of_getElem? (i := 119) (by decide +kernel)) rfl
theorem q561 : (.code yX4_drop cX4_drop 2 (some .int) : Cond) ∈ wA := wA_3 (List.mem_of_getElem? (i := 120) (by decide +kernel)) rfl
theorem q562 : (.methodLink RX4 74 yX3_markEntries : Cond) ∈ wA := wA_3 (List.mem_of_getElem? (i := 121) (by decide +kernel)) rfl
theorem q563 : (.methodLink RL 101 yL_lock : Cond) ∈ wA := wA_3 (List.mem_of_getElem? (i := 122) (by decide +kernel)) rfl
theorem q564 : (.static yL_lock : Cond) ∈ wA := wA_3 (List.mem_of_getElem? (i := 123) (by decide +kernel)) rfl
theorem q565 : (.codeWith yL_lock cL_lock 4 (some .int) [(0, 9, 12, 13), (0, 9, 15, 17)] : Cond) ∈ wA := wA_3 (List.mem_of_getElem? (i := 124) (by decide +kernel)) rfl
theorem q566 : (.methodLink RL 27 yX4_lock : Cond) ∈ wA := wA_3 (List.mem_of_getElem? (i := 125) (by decide +kernel)) rfl
theorem q567 : (.instanceMethod yX4_lock : Cond) ∈ wA := wA_3 (List.mem_of_getElem? (i := 126) (by decide +kernel)) rfl
theorem q568 : (.selects RX4 yX4_lock yX4_lock : Cond) ∈ wA := wA_3 (List.mem_of_getElem? (i := 127) (by decide +kernel)) rfl
theorem q569 : (.code yX4_lock cX4_lock 2 (some .int) : Cond) ∈ wA := wA_3 (List.mem_of_getElem? (i := 128) (by decide +kernel)) rfl
theorem q570 : (.methodLink RL 104 yL_refresh : Cond) ∈ wA := wA_3 (List.mem_of_getElem? (i := 129) (by decide +kernel)) rfl
theorem q571 : (.static yL_refresh : Cond) ∈ wA := wA_3 (List.mem_of_getElem? (i := 130) (by decide +kernel)) rfl
theorem q572 : (.codeWith yL_refresh cL_refresh 4 (some .int) [(0, 9, 12, 13), (0, 9, 15, 17)] : Cond) ∈ wA := wA_3 (List.mem_of_getElem? (i := 131) (by decide +kernel)) rfl
theorem q573 : (.methodLink RL 30 yX4_refresh : Cond) ∈ wA := wA_3 (List.mem_of_getElem? (i := 132) (by decide +kernel)) rfl
theorem q574 : (.instanceMethod yX4_refresh : Cond) ∈ wA := wA_3 (List.mem_of_getElem? (i := 133) (by decide +kernel)) rfl
theorem q575 : (.selects RX4 yX4_refresh yX4_refresh : Cond) ∈ wA := wA_3 (List.mem_of_getElem? (i := 134) (by decide +kernel)) rfl
theorem q576 : (.code yX4_refresh cX4_refresh 2 (some .int) : Cond) ∈ wA := wA_3 (List.mem_of_getElem? (i := 135) (by decide +kernel)) rfl
theorem q577 : (.methodLink RX4 81 yX3_refreshRow : Cond) ∈ wA := wA_3 (List.mem_of_getElem? (i := 136) (by decide +kernel)) rfl
theorem q578 : (.instanceMethod yX3_refreshRow : Cond) ∈ wA := wA_3 (List.mem_of_getElem? (i := 137) (by decide +kernel)) rfl
theorem q579 : (.selects RX3 yX3_refreshRow yX3_refreshRow : Cond) ∈ wA := wA_3 (List.mem_of_getElem? (i := 138) (by decide +kernel)) rfl
theorem q580 : (.code yX3_refreshRow cX3_refreshRow 3 (some .int) : Cond) ∈ wA := wA_3 (List.mem_of_getElem? (i := 139) (by decide +kernel)) rfl
theorem q581 : (.methodLink RL 107 yL_heat : Cond) ∈ wA := wA_3 (List.mem_of_getElem? (i := 140) (by decide +kernel)) rfl
theorem q582 : (.static yL_heat : Cond) ∈ wA := wA_3 (List.mem_of_getElem? (i := 141) (by decide +kernel)) rfl
theorem q583 : (.codeWith yL_heat cL_heat 4 (some .int) [(0, 9, 12, 15)] : Cond) ∈ wA := wA_3 (List.mem_of_getElem? (i := 142) (by decide +kernel)) rfl
theorem q584 : (.methodLink RL 33 yX4_heat : Cond) ∈ wA := wA_3 (List.mem_of_getElem? (i := 143) (by decide +kernel)) rfl
theorem q585 : (.instanceMethod yX4_heat : Cond) ∈ wA := wA_3 (List.mem_of_getElem? (i := 144) (by decide +kernel)) rfl
theorem q586 : (.selects RX4 yX4_heat yX4_heat : Cond) ∈ wA := wA_3 (List.mem_of_getElem? (i := 145) (by decide +kernel)) rfl
theorem q587 : (.code yX4_heat cX4_heat 2 (some .int) : Cond) ∈ wA := wA_3 (List.mem_of_getElem? (i := 146) (by decide +kernel)) rfl
theorem q588 : (.methodLink RL 110 yL_pass : Cond) ∈ wA := wA_3 (List.mem_of_getElem? (i := 147) (by decide +kernel)) rfl
theorem q589 : (.static yL_pass : Cond) ∈ wA := wA_3 (List.mem_of_getElem? (i := 148) (by decide +kernel)) rfl
theorem q590 : (.codeWith yL_pass cL_pass 4 (some .int) [(0, 9, 12, 15), (0, 9, 15, 17)] : Cond) ∈ wA := wA_3 (List.mem_of_getElem? (i := 149) (by decide +kernel)) rfl
theorem q591 : (.methodLink RL 36 yX4_pass : Cond) ∈ wA := wA_3 (List.mem_of_getElem? (i := 150) (by decide +kernel)) rfl
theorem q592 : (.instanceMethod yX4_pass : Cond) ∈ wA := wA_3 (List.mem_of_getElem? (i := 151) (by decide +kernel)) rfl
theorem q593 : (.selects RX4 yX4_pass yX4_pass : Cond) ∈ wA := wA_3 (List.mem_of_getElem? (i := 152) (by decide +kernel)) rfl
theorem q594 : (.code yX4_pass cX4_pass 2 (some .int) : Cond) ∈ wA := wA_3 (List.mem_of_getElem? (i := 153) (by decide +kernel)) rfl
theorem q595 : (.methodLink RL 113 yL_set : Cond) ∈ wA := wA_3 (List.mem_of_getElem? (i := 154) (by decide +kernel)) rfl
theorem q596 : (.static yL_set : Cond) ∈ wA := wA_3 (List.mem_of_getElem? (i := 155) (by decide +kernel)) rfl
theorem q597 : (.codeWith yL_set cL_set 5 (some .int) [(0, 10, 13, 13), (0, 10, 17, 15)] : Cond) ∈ wA := wA_3 (List.mem_of_getElem? (i := 156) (by decide +kernel)) rfl
theorem q598 : (.methodLink RL 39 yX4_set : Cond) ∈ wA := wA_3 (List.mem_of_getElem? (i := 157) (by decide +kernel)) rfl
theorem q599 : (.instanceMethod yX4_set : Cond) ∈ wA := wA_3 (List.mem_of_getElem? (i := 158) (by decide +kernel)) rfl
theorem q600 : (.selects RX4 yX4_set yX4_set : Cond) ∈ wA := wA_3 (List.mem_of_getElem? (i := 159) (by decide +kernel)) rfl
theorem q601 : (.code yX4_set cX4_set 4 (some .int) : Cond) ∈ wA := wA_3 (List.mem_of_getElem? (i := 160) (by decide +kernel)) rfl
theorem q602 : (.fieldLink RX4 92 "FuseRows" "LOWEST_SETTING" "[I" : Cond) ∈ wA := wA_3 (List.mem_of_getElem? (i := 161) (by decide +kernel)) rfl
theorem q603 : (.laysStatic RX4 "LOWEST_SETTING" "[I" : Cond) ∈ lw_tbl := wT_3 (List.mem_of_getElem? (i := 162) (by decide +kernel))
theorem q604 : (.fieldLink RX4 96 "FuseRows" "HIGHEST_SETTING" "[I" : Cond) ∈ wA := wA_3 (List.mem_of_getElem? (i := 163) (by decide +kernel)) rfl
theorem q605 : (.laysStatic RX4 "HIGHEST_SETTING" "[I" : Cond) ∈ lw_tbl := wT_3 (List.mem_of_getElem? (i := 164) (by decide +kernel))
theorem q606 : (.methodLink RL 116 yL_append : Cond) ∈ wA := wA_3 (List.mem_of_getElem? (i := 165) (by decide +kernel)) rfl
theorem q607 : (.static yL_append : Cond) ∈ wA := wA_3 (List.mem_of_getElem? (i := 166) (by decide +kernel)) rfl
theorem q608 : (.codeWith yL_append cL_append 4 (some .int) [(0, 9, 12, 15), (0, 9, 15, 17)] : Cond) ∈ wA := wA_3 (List.mem_of_getElem? (i := 167) (by decide +kernel)) rfl
theorem q609 : (.methodLink RL 42 yX4_append : Cond) ∈ wA := wA_3 (List.mem_of_getElem? (i := 168) (by decide +kernel)) rfl
theorem q610 : (.instanceMethod yX4_append : Cond) ∈ wA := wA_3 (List.mem_of_getElem? (i := 169) (by decide +kernel)) rfl
theorem q611 : (.selects RX4 yX4_append yX4_append : Cond) ∈ wA := wA_3 (List.mem_of_getElem? (i := 170) (by decide +kernel)) rfl
theorem q612 : (.code yX4_append cX4_append 2 (some .int) : Cond) ∈ wA := wA_3 (List.mem_of_getElem? (i := 171) (by decide +kernel)) rfl
theorem q613 : (.methodLink RX4 102 yX1_isFull : Cond) ∈ wA := wA_3 (List.mem_of_getElem? (i := 172) (by decide +kernel)) rfl
theorem q614 : (.instanceMethod yX1_isFull : Cond) ∈ wA := wA_3 (List.mem_of_getElem? (i := 173) (by decide +kernel)) rfl
theorem q615 : (.selects RX1 yX1_isFull yX1_isFull : Cond) ∈ wA := wA_3 (List.mem_of_getElem? (i := 174) (by decide +kernel)) rfl
theorem q616 : (.code yX1_isFull cX1_isFull 1 (some .boolean) : Cond) ∈ wA := wA_3 (List.mem_of_getElem? (i := 175) (by decide +kernel)) rfl
theorem q617 : (.methodLink RX4 106 yX1_add : Cond) ∈ wA := wA_3 (List.mem_of_getElem? (i := 176) (by decide +kernel)) rfl
theorem q618 : (.instanceMethod yX1_add : Cond) ∈ wA := wA_3 (List.mem_of_getElem? (i := 177) (by decide +kernel)) rfl
theorem q619 : (.selects RX1 yX1_add yX1_add : Cond) ∈ wA := wA_3 (List.mem_of_getElem? (i := 178) (by decide +kernel)) rfl
theorem q620 : (.code yX1_add cX1_add 2 none : Cond) ∈ wA := wA_3 (List.mem_of_getElem? (i := 179) (by decide +kernel)) rfl
theorem q621 : (.methodLink RX1 29 yX1_isFull : Cond) ∈ wA := wA_3 (List.mem_of_getElem? (i := 180) (by decide +kernel)) rfl
theorem q622 : (.methodLink RL 127 yL_run : Cond) ∈ wA := wA_3 (List.mem_of_getElem? (i := 181) (by decide +kernel)) rfl
theorem q623 : (.static yL_run : Cond) ∈ wA := wA_3 (List.mem_of_getElem? (i := 182) (by decide +kernel)) rfl
theorem q624 : (.codeWith yL_run cL_run 3 (some .int) [(0, 8, 11, 15)] : Cond) ∈ wA := wA_3 (List.mem_of_getElem? (i := 183) (by decide +kernel)) rfl
theorem q625 : (.methodLink RL 45 yX4_run : Cond) ∈ wA := wA_3 (List.mem_of_getElem? (i := 184) (by decide +kernel)) rfl
theorem q626 : (.instanceMethod yX4_run : Cond) ∈ wA := wA_3 (List.mem_of_getElem? (i := 185) (by decide +kernel)) rfl
theorem q627 : (.selects RX4 yX4_run yX4_run : Cond) ∈ wA := wA_3 (List.mem_of_getElem? (i := 186) (by decide +kernel)) rfl
theorem q628 : (.code yX4_run cX4_run 2 (some .int) : Cond) ∈ wA := wA_3 (List.mem_of_getElem? (i := 187) (by decide +kernel)) rfl
theorem q629 : (.methodLink RX4 129 yX4_carryOut : Cond) ∈ wA := wA_3 (List.mem_of_getElem? (i := 188) (by decide +kernel)) rfl
theorem q630 : (.instanceMethod yX4_carryOut : Cond) ∈ wA := wA_3 (List.mem_of_getElem? (i := 190) (by decide +kernel)) rfl
theorem q631 : (.code yX4_carryOut cX4_carryOut 3 (some .boolean) : Cond) ∈ wA := wA_3 (List.mem_of_getElem? (i := 191) (by decide +kernel)) rfl
theorem q632 : (.methodLink RX4 223 yX4_isRefused : Cond) ∈ wA := wA_3 (List.mem_of_getElem? (i := 192) (by decide +kernel)) rfl
theorem q633 : (.instanceMethod yX4_isRefused : Cond) ∈ wA := wA_3 (List.mem_of_getElem? (i := 194) (by decide +kernel)) rfl
theorem q634 : (.code yX4_isRefused cX4_isRefused 3 (some .boolean) : Cond) ∈ wA := wA_3 (List.mem_of_getElem? (i := 195) (by decide +kernel)) rfl
theorem q635 : (.methodLink RL 131 yL_undo : Cond) ∈ wA := wA_3 (List.mem_of_getElem? (i := 196) (by decide +kernel)) rfl
theorem q636 : (.static yL_undo : Cond) ∈ wA := wA_3 (List.mem_of_getElem? (i := 197) (by decide +kernel)) rfl
theorem q637 : (.codeWith yL_undo cL_undo 3 (some .int) [(0, 8, 11, 17)] : Cond) ∈ wA := wA_3 (List.mem_of_getElem? (i := 198) (by decide +kernel)) rfl
theorem q638 : (.methodLink RL 49 yX4_undo : Cond) ∈ wA := wA_3 (List.mem_of_getElem? (i := 199) (by decide +kernel)) rfl
theorem q639 : (.instanceMethod yX4_undo : Cond) ∈ wA := wA_3 (List.mem_of_getElem? (i := 200) (by decide +kernel)) rfl
theorem q640 : (.selects RX4 yX4_undo yX4_undo : Cond) ∈ wA := wA_3 (List.mem_of_getElem? (i := 201) (by decide +kernel)) rfl
theorem q641 : (.code yX4_undo cX4_undo 1 (some .int) : Cond) ∈ wA := wA_3 (List.mem_of_getElem? (i := 202) (by decide +kernel)) rfl
theorem q642 : (.methodLink RX4 135 yX2_restore : Cond) ∈ wA := wA_3 (List.mem_of_getElem? (i := 203) (by decide +kernel)) rfl
theorem q643 : (.instanceMethod yX2_restore : Cond) ∈ wA := wA_3 (List.mem_of_getElem? (i := 204) (by decide +kernel)) rfl
theorem q644 : (.selects RX2 yX2_restore yX2_restore : Cond) ∈ wA := wA_3 (List.mem_of_getElem? (i := 205) (by decide +kernel)) rfl
theorem q645 : (.code yX2_restore cX2_restore 2 none : Cond) ∈ wA := wA_3 (List.mem_of_getElem? (i := 206) (by decide +kernel)) rfl
theorem q646 : (.methodLink RL 134 yL_fuse : Cond) ∈ wA := wA_3 (List.mem_of_getElem? (i := 207) (by decide +kernel)) rfl
theorem q647 : (.static yL_fuse : Cond) ∈ wA := wA_3 (List.mem_of_getElem? (i := 208) (by decide +kernel)) rfl
theorem q648 : (.codeWith yL_fuse cL_fuse 6 (some .int) [(0, 12, 15, 13), (0, 12, 19, 15)] : Cond) ∈ wA := wA_3 (List.mem_of_getElem? (i := 209) (by decide +kernel)) rfl
theorem q649 : (.methodLink RL 52 yX4_fuse : Cond) ∈ wA := wA_3 (List.mem_of_getElem? (i := 210) (by decide +kernel)) rfl
theorem q650 : (.instanceMethod yX4_fuse : Cond) ∈ wA := wA_3 (List.mem_of_getElem? (i := 211) (by decide +kernel)) rfl
theorem q651 : (.selects RX4 yX4_fuse yX4_fuse : Cond) ∈ wA := wA_3 (List.mem_of_getElem? (i := 212) (by decide +kernel)) rfl
theorem q652 : (.code yX4_fuse cX4_fuse 4 (some .int) : Cond) ∈ wA := wA_3 (List.mem_of_getElem? (i := 213) (by decide +kernel)) rfl
theorem q653 : (.methodLink RX4 138 yX3_readAt : Cond) ∈ wA := wA_3 (List.mem_of_getElem? (i := 214) (by decide +kernel)) rfl
theorem q654 : (.methodLink RL 137 yL_row : Cond) ∈ wA := wA_3 (List.mem_of_getElem? (i := 215) (by decide +kernel)) rfl
theorem q655 : (.static yL_row : Cond) ∈ wA := wA_3 (List.mem_of_getElem? (i := 216) (by decide +kernel)) rfl
theorem q656 : (.codeWith yL_row cL_row 5 (some .int) [(0, 10, 13, 13), (0, 10, 17, 15)] : Cond) ∈ wA := wA_3 (List.mem_of_getElem? (i := 217) (by decide +kernel)) rfl
theorem q657 : (.methodLink RL 55 yX4_row : Cond) ∈ wA := wA_3 (List.mem_of_getElem? (i := 218) (by decide +kernel)) rfl
theorem q658 : (.instanceMethod yX4_row : Cond) ∈ wA := wA_3 (List.mem_of_getElem? (i := 219) (by decide +kernel)) rfl
theorem q659 : (.selects RX4 yX4_row yX4_row : Cond) ∈ wA := wA_3 (List.mem_of_getElem? (i := 220) (by decide +kernel)) rfl
theorem q660 : (.code yX4_row cX4_row 3 (some .int) : Cond) ∈ wA := wA_3 (List.mem_of_getElem? (i := 221) (by decide +kernel)) rfl
theorem q661 : (.methodLink RL 140 yL_key : Cond) ∈ wA := wA_3 (List.mem_of_getElem? (i := 222) (by decide +kernel)) rfl
theorem q662 : (.static yL_key : Cond) ∈ wA := wA_3 (List.mem_of_getElem? (i := 223) (by decide +kernel)) rfl
theorem q663 : (.codeWith yL_key cL_key 5 (some .int) [(0, 10, 13, 15)] : Cond) ∈ wA := wA_3 (List.mem_of_getElem? (i := 224) (by decide +kernel)) rfl
theorem q664 : (.methodLink RL 58 yX4_key : Cond) ∈ wA := wA_3 (List.mem_of_getElem? (i := 225) (by decide +kernel)) rfl
theorem q665 : (.instanceMethod yX4_key : Cond) ∈ wA := wA_3 (List.mem_of_getElem? (i := 226) (by decide +kernel)) rfl
theorem q666 : (.selects RX4 yX4_key yX4_key : Cond) ∈ wA := wA_3 (List.mem_of_getElem? (i := 227) (by decide +kernel)) rfl
theorem q667 : (.code yX4_key cX4_key 3 (some .int) : Cond) ∈ wA := wA_3 (List.mem_of_getElem? (i := 228) (by decide +kernel)) rfl
theorem q668 : (.methodLink RL 143 yL_history : Cond) ∈ wA := wA_3 (List.mem_of_getElem? (i := 229) (by decide +kernel)) rfl
theorem q669 : (.static yL_history : Cond) ∈ wA := wA_3 (List.mem_of_getElem? (i := 230) (by decide +kernel)) rfl
theorem q670 : (.codeWith yL_history cL_history 5 (some .int) [(0, 10, 13, 15)] : Cond) ∈ wA := wA_3 (List.mem_of_getElem? (i := 231) (by decide +kernel)) rfl
theorem q671 : (.methodLink RL 61 yX4_history : Cond) ∈ wA := wA_3 (List.mem_of_getElem? (i := 232) (by decide +kernel)) rfl
theorem q672 : (.instanceMethod yX4_history : Cond) ∈ wA := wA_3 (List.mem_of_getElem? (i := 233) (by decide +kernel)) rfl
theorem q673 : (.selects RX4 yX4_history yX4_history : Cond) ∈ wA := wA_3 (List.mem_of_getElem? (i := 234) (by decide +kernel)) rfl
theorem q674 : (.code yX4_history cX4_history 3 (some .int) : Cond) ∈ wA := wA_3 (List.mem_of_getElem? (i := 235) (by decide +kernel)) rfl
theorem q675 : (.methodLink RL 146 yL_count : Cond) ∈ wA := wA_3 (List.mem_of_getElem? (i := 236) (by decide +kernel)) rfl
theorem q676 : (.static yL_count : Cond) ∈ wA := wA_3 (List.mem_of_getElem? (i := 237) (by decide +kernel)) rfl
theorem q677 : (.codeWith yL_count cL_count 4 (some .int) [(0, 9, 12, 15)] : Cond) ∈ wA := wA_3 (List.mem_of_getElem? (i := 238) (by decide +kernel)) rfl
theorem q678 : (.methodLink RL 64 yX4_count : Cond) ∈ wA := wA_3 (List.mem_of_getElem? (i := 239) (by decide +kernel)) rfl
theorem q679 : (.instanceMethod yX4_count : Cond) ∈ wA := wA_4 (List.mem_of_getElem? (i := 0) (by decide +kernel)) rfl
theorem q680 : (.selects RX4 yX4_count yX4_count : Cond) ∈ wA := wA_4 (List.mem_of_getElem? (i := 1) (by decide +kernel)) rfl
theorem q681 : (.code yX4_count cX4_count 2 (some .int) : Cond) ∈ wA := wA_4 (List.mem_of_getElem? (i := 2) (by decide +kernel)) rfl
theorem q682 : (.methodLink RL 149 yL_setting : Cond) ∈ wA := wA_4 (List.mem_of_getElem? (i := 3) (by decide +kernel)) rfl
theorem q683 : (.static yL_setting : Cond) ∈ wA := wA_4 (List.mem_of_getElem? (i := 4) (by decide +kernel)) rfl
theorem q684 : (.codeWith yL_setting cL_setting 4 (some .int) [(0, 9, 12, 13)] : Cond) ∈ wA := wA_4 (List.mem_of_getElem? (i := 5) (by decide +kernel)) rfl
theorem q685 : (.methodLink RL 67 yX4_setting : Cond) ∈ wA := wA_4 (List.mem_of_getElem? (i := 6) (by decide +kernel)) rfl
theorem q686 : (.instanceMethod yX4_setting : Cond) ∈ wA := wA_4 (List.mem_of_getElem? (i := 7) (by decide +kernel)) rfl
theorem q687 : (.selects RX4 yX4_setting yX4_setting : Cond) ∈ wA := wA_4 (List.mem_of_getElem? (i := 8) (by decide +kernel)) rfl
theorem q688 : (.code yX4_setting cX4_setting 2 (some .int) : Cond) ∈ wA := wA_4 (List.mem_of_getElem? (i := 9) (by decide +kernel)) rfl
theorem q689 : (.methodLink RL 152 yL_ifPut : Cond) ∈ wA := wA_4 (List.mem_of_getElem? (i := 10) (by decide +kernel)) rfl
theorem q690 : (.static yL_ifPut : Cond) ∈ wA := wA_4 (List.mem_of_getElem? (i := 11) (by decide +kernel)) rfl
theorem q691 : (.codeWith yL_ifPut cL_ifPut 6 (some .int) [(0, 12, 15, 15)] : Cond) ∈ wA := wA_4 (List.mem_of_getElem? (i := 12) (by decide +kernel)) rfl
theorem q692 : (.methodLink RL 70 yX4_ifPut : Cond) ∈ wA := wA_4 (List.mem_of_getElem? (i := 13) (by decide +kernel)) rfl
theorem q693 : (.instanceMethod yX4_ifPut : Cond) ∈ wA := wA_4 (List.mem_of_getElem? (i := 14) (by decide +kernel)) rfl
theorem q694 : (.selects RX4 yX4_ifPut yX4_ifPut : Cond) ∈ wA := wA_4 (List.mem_of_getElem? (i := 15) (by decide +kernel)) rfl
theorem q695 : (.code yX4_ifPut cX4_ifPut 4 (some .int) : Cond) ∈ wA := wA_4 (List.mem_of_getElem? (i := 16) (by decide +kernel)) rfl
theorem q696 : (.methodLink RL 155 yL_ifHeated : Cond) ∈ wA := wA_4 (List.mem_of_getElem? (i := 17) (by decide +kernel)) rfl
theorem q697 : (.static yL_ifHeated : Cond) ∈ wA := wA_4 (List.mem_of_getElem? (i := 18) (by decide +kernel)) rfl
theorem q698 : (.codeWith yL_ifHeated cL_ifHeated 5 (some .int) [(0, 10, 13, 15)] : Cond) ∈ wA := wA_4 (List.mem_of_getElem? (i := 19) (by decide +kernel)) rfl
theorem q699 : (.methodLink RL 73 yX4_ifHeated : Cond) ∈ wA := wA_4 (List.mem_of_getElem? (i := 20) (by decide +kernel)) rfl
theorem q700 : (.instanceMethod yX4_ifHeated : Cond) ∈ wA := wA_4 (List.mem_of_getElem? (i := 21) (by decide +kernel)) rfl
theorem q701 : (.selects RX4 yX4_ifHeated yX4_ifHeated : Cond) ∈ wA := wA_4 (List.mem_of_getElem? (i := 22) (by decide +kernel)) rfl
theorem q702 : (.code yX4_ifHeated cX4_ifHeated 3 (some .int) : Cond) ∈ wA := wA_4 (List.mem_of_getElem? (i := 23) (by decide +kernel)) rfl
theorem q703 : (.methodLink RL 158 yL_ifRead : Cond) ∈ wA := wA_4 (List.mem_of_getElem? (i := 24) (by decide +kernel)) rfl
theorem q704 : (.static yL_ifRead : Cond) ∈ wA := wA_4 (List.mem_of_getElem? (i := 25) (by decide +kernel)) rfl
theorem q705 : (.codeWith yL_ifRead cL_ifRead 5 (some .int) [(0, 10, 13, 15)] : Cond) ∈ wA := wA_4 (List.mem_of_getElem? (i := 26) (by decide +kernel)) rfl
theorem q706 : (.methodLink RL 76 yX4_ifRead : Cond) ∈ wA := wA_4 (List.mem_of_getElem? (i := 27) (by decide +kernel)) rfl
theorem q707 : (.instanceMethod yX4_ifRead : Cond) ∈ wA := wA_4 (List.mem_of_getElem? (i := 28) (by decide +kernel)) rfl
theorem q708 : (.selects RX4 yX4_ifRead yX4_ifRead : Cond) ∈ wA := wA_4 (List.mem_of_getElem? (i := 29) (by decide +kernel)) rfl
theorem q709 : (.code yX4_ifRead cX4_ifRead 3 (some .int) : Cond) ∈ wA := wA_4 (List.mem_of_getElem? (i := 30) (by decide +kernel)) rfl
theorem q710 : (.classLink RL 81 RX5 : Cond) ∈ wA := wA_4 (List.mem_of_getElem? (i := 31) (by decide +kernel)) rfl
theorem q711 : (.instantiable RX5 17 : Cond) ∈ wA := wA_4 (List.mem_of_getElem? (i := 32) (by decide +kernel)) rfl
theorem q712 : (.methodLink RL 83 yX5_init : Cond) ∈ wA := wA_4 (List.mem_of_getElem? (i := 33) (by decide +kernel)) rfl
theorem q713 : (.instanceMethod yX5_init : Cond) ∈ wA := wA_4 (List.mem_of_getElem? (i := 34) (by decide +kernel)) rfl
theorem q714 : (.code yX5_init cX5_init 1 none : Cond) ∈ wA := wA_4 (List.mem_of_getElem? (i := 35) (by decide +kernel)) rfl
theorem q715 : (.methodLink RX5 1 objectInit : Cond) ∈ wA := wA_4 (List.mem_of_getElem? (i := 36) (by decide +kernel)) rfl
theorem q716 : (.fieldLink RX5 35 "FuseRowsModel" "thrown" "I" : Cond) ∈ wA := wA_4 (List.mem_of_getElem? (i := 37) (by decide +kernel)) rfl
theorem q717 : (.fieldLink RX5 7 "FuseRowsModel" "z" "[I" : Cond) ∈ wA := wA_4 (List.mem_of_getElem? (i := 38) (by decide +kernel)) rfl
theorem q718 : (.fieldLink RX5 13 "FuseRowsModel" "saved" "[I" : Cond) ∈ wA := wA_4 (List.mem_of_getElem? (i := 39) (by decide +kernel)) rfl
theorem q719 : (.fieldLink RX5 43 "FuseRowsModel" "savedMany" "I" : Cond) ∈ wA := wA_4 (List.mem_of_getElem? (i := 40) (by decide +kernel)) rfl
theorem q720 : (.fieldLink RX5 16 "FuseRowsModel" "spare" "[I" : Cond) ∈ wA := wA_4 (List.mem_of_getElem? (i := 41) (by decide +kernel)) rfl
theorem q721 : (.fieldLink RX5 19 "FuseRowsModel" "buffer" "[I" : Cond) ∈ wA := wA_4 (List.mem_of_getElem? (i := 42) (by decide +kernel)) rfl
theorem q722 : (.fieldLink RX5 148 "FuseRowsModel" "typed" "I" : Cond) ∈ wA := wA_4 (List.mem_of_getElem? (i := 43) (by decide +kernel)) rfl
theorem q723 : (.fieldLink RX5 114 "FuseRowsModel" "marksBlown" "I" : Cond) ∈ wA := wA_4 (List.mem_of_getElem? (i := 44) (by decide +kernel)) rfl
theorem q724 : (.fieldLink RX5 22 "FuseRowsModel" "rests" "[C" : Cond) ∈ wA := wA_4 (List.mem_of_getElem? (i := 45) (by decide +kernel)) rfl
theorem q725 : (.fieldLink RX5 26 "FuseRowsModel" "begins" "[I" : Cond) ∈ wA := wA_4 (List.mem_of_getElem? (i := 46) (by decide +kernel)) rfl
theorem q726 : (.fieldLink RX5 29 "FuseRowsModel" "orders" "[I" : Cond) ∈ wA := wA_4 (List.mem_of_getElem? (i := 47) (by decide +kernel)) rfl
theorem q727 : (.fieldLink RX5 171 "FuseRowsModel" "orderMany" "I" : Cond) ∈ wA := wA_4 (List.mem_of_getElem? (i := 48) (by decide +kernel)) rfl
theorem q728 : (.fieldLink RX5 151 "FuseRowsModel" "spot" "I" : Cond) ∈ wA := wA_4 (List.mem_of_getElem? (i := 49) (by decide +kernel)) rfl
theorem q729 : (.fieldLink RX5 154 "FuseRowsModel" "wrong" "I" : Cond) ∈ wA := wA_4 (List.mem_of_getElem? (i := 50) (by decide +kernel)) rfl
theorem q730 : (.fieldLink RX5 157 "FuseRowsModel" "isShort" "Z" : Cond) ∈ wA := wA_4 (List.mem_of_getElem? (i := 51) (by decide +kernel)) rfl
theorem q731 : (.fieldLink RX5 32 "FuseRowsModel" "before" "[I" : Cond) ∈ wA := wA_4 (List.mem_of_getElem? (i := 52) (by decide +kernel)) rfl
theorem q732 : (.fieldLink RX5 275 "FuseRowsModel" "hash" "J" : Cond) ∈ wA := wA_4 (List.mem_of_getElem? (i := 53) (by decide +kernel)) rfl
theorem q733 : (.methodLink RL 90 yX5_thrown : Cond) ∈ wA := wA_4 (List.mem_of_getElem? (i := 89) (by decide +kernel)) rfl
theorem q734 : (.instanceMethod yX5_thrown : Cond) ∈ wA := wA_4 (List.mem_of_getElem? (i := 90) (by decide +kernel)) rfl
theorem q735 : (.selects RX5 yX5_thrown yX5_thrown : Cond) ∈ wA := wA_4 (List.mem_of_getElem? (i := 91) (by decide +kernel)) rfl
theorem q736 : (.code yX5_thrown cX5_thrown 1 (some .int) : Cond) ∈ wA := wA_4 (List.mem_of_getElem? (i := 92) (by decide +kernel)) rfl
theorem q737 : (.methodLink RL 133 yX5_undo : Cond) ∈ wA := wA_4 (List.mem_of_getElem? (i := 93) (by decide +kernel)) rfl
theorem q738 : (.instanceMethod yX5_undo : Cond) ∈ wA := wA_4 (List.mem_of_getElem? (i := 94) (by decide +kernel)) rfl
theorem q739 : (.selects RX5 yX5_undo yX5_undo : Cond) ∈ wA := wA_4 (List.mem_of_getElem? (i := 95) (by decide +kernel)) rfl
theorem q740 : (.code yX5_undo cX5_undo 2 (some .int) : Cond) ∈ wA := wA_4 (List.mem_of_getElem? (i := 96) (by decide +kernel)) rfl
theorem q741 : (.methodLink RL 89 yX5_blow : Cond) ∈ wA := wA_4 (List.mem_of_getElem? (i := 97) (by decide +kernel)) rfl
theorem q742 : (.instanceMethod yX5_blow : Cond) ∈ wA := wA_4 (List.mem_of_getElem? (i := 98) (by decide +kernel)) rfl
theorem q743 : (.selects RX5 yX5_blow yX5_blow : Cond) ∈ wA := wA_4 (List.mem_of_getElem? (i := 99) (by decide +kernel)) rfl
theorem q744 : (.code yX5_blow cX5_blow 4 (some .int) : Cond) ∈ wA := wA_4 (List.mem_of_getElem? (i := 100) (by decide +kernel)) rfl
theorem q745 : (.methodLink RX5 91 yX5_isRow : Cond) ∈ wA := wA_4 (List.mem_of_getElem? (i := 101) (by decide +kernel)) rfl
theorem q746 : (.static yX5_isRow : Cond) ∈ wA := wA_4 (List.mem_of_getElem? (i := 102) (by decide +kernel)) rfl
theorem q747 : (.code yX5_isRow cX5_isRow 1 (some .boolean) : Cond) ∈ wA := wA_4 (List.mem_of_getElem? (i := 103) (by decide +kernel)) rfl
theorem q748 : (.methodLink RX5 39 yX5_in : Cond) ∈ wA := wA_4 (List.mem_of_getElem? (i := 104) (by decide +kernel)) rfl
theorem q749 : (.static yX5_in : Cond) ∈ wA := wA_4 (List.mem_of_getElem? (i := 105) (by decide +kernel)) rfl
theorem q750 : (.code yX5_in cX5_in 3 (some .boolean) : Cond) ∈ wA := wA_4 (List.mem_of_getElem? (i := 106) (by decide +kernel)) rfl
theorem q751 : (.methodLink RX5 95 yX5_isLocked : Cond) ∈ wA := wA_4 (List.mem_of_getElem? (i := 107) (by decide +kernel)) rfl
theorem q752 : (.instanceMethod yX5_isLocked : Cond) ∈ wA := wA_4 (List.mem_of_getElem? (i := 109) (by decide +kernel)) rfl
theorem q753 : (.code yX5_isLocked cX5_isLocked 2 (some .boolean) : Cond) ∈ wA := wA_4 (List.mem_of_getElem? (i := 110) (by decide +kernel)) rfl
theorem q754 : (.methodLink RX5 54 yX5_thrice : Cond) ∈ wA := wA_4 (List.mem_of_getElem? (i := 111) (by decide +kernel)) rfl
theorem q755 : (.instanceMethod yX5_thrice : Cond) ∈ wA := wA_4 (List.mem_of_getElem? (i := 113) (by decide +kernel)) rfl
theorem q756 : (.code yX5_thrice cX5_thrice 4 (some .int) : Cond) ∈ wA := wA_4 (List.mem_of_getElem? (i := 114) (by decide +kernel)) rfl
theorem q757 : (.methodLink RX5 50 yX5_once : Cond) ∈ wA := wA_4 (List.mem_of_getElem? (i := 115) (by decide +kernel)) rfl
theorem q758 : (.instanceMethod yX5_once : Cond) ∈ wA := wA_4 (List.mem_of_getElem? (i := 117) (by decide +kernel)) rfl
theorem q759 : (.code yX5_once cX5_once 4 (some .int) : Cond) ∈ wA := wA_4 (List.mem_of_getElem? (i := 118) (by decide +kernel)) rfl
theorem q760 : (.methodLink RX5 46 yX5_strength : Cond) ∈ wA := wA_4 (List.mem_of_getElem? (i := 119) (by decide +kernel)) rfl
theorem q761 : (.instanceMethod yX5_strength : Cond) ∈ wA := wA_4 (List.mem_of_getElem? (i := 121) (by decide +kernel)) rfl
theorem q762 : (.code yX5_strength cX5_strength 3 (some .int) : Cond) ∈ wA := wA_4 (List.mem_of_getElem? (i := 122) (by decide +kernel)) rfl
theorem q763 : (.methodLink RX5 98 yX5_save : Cond) ∈ wA := wA_4 (List.mem_of_getElem? (i := 123) (by decide +kernel)) rfl
theorem q764 : (.instanceMethod yX5_save : Cond) ∈ wA := wA_4 (List.mem_of_getElem? (i := 125) (by decide +kernel)) rfl
theorem q765 : (.code yX5_save cX5_save 2 none : Cond) ∈ wA := wA_4 (List.mem_of_getElem? (i := 126) (by decide +kernel)) rfl
theorem q766 : (.methodLink RX5 101 yX5_blowOne : Cond) ∈ wA := wA_4 (List.mem_of_getElem? (i := 127) (by decide +kernel)) rfl
theorem q767 : (.instanceMethod yX5_blowOne : Cond) ∈ wA := wA_4 (List.mem_of_getElem? (i := 129) (by decide +kernel)) rfl
theorem q768 : (.code yX5_blowOne cX5_blowOne 5 none : Cond) ∈ wA := wA_4 (List.mem_of_getElem? (i := 130) (by decide +kernel)) rfl
theorem q769 : (.methodLink RL 96 yX5_put : Cond) ∈ wA := wA_4 (List.mem_of_getElem? (i := 131) (by decide +kernel)) rfl
theorem q770 : (.instanceMethod yX5_put : Cond) ∈ wA := wA_4 (List.mem_of_getElem? (i := 132) (by decide +kernel)) rfl
theorem q771 : (.selects RX5 yX5_put yX5_put : Cond) ∈ wA := wA_4 (List.mem_of_getElem? (i := 133) (by decide +kernel)) rfl
theorem q772 : (.code yX5_put cX5_put 3 (some .int) : Cond) ∈ wA := wA_4 (List.mem_of_getElem? (i := 134) (by decide +kernel)) rfl
theorem q773 : (.methodLink RX5 124 yX5_whyNotPut : Cond) ∈ wA := wA_4 (List.mem_of_getElem? (i := 135) (by decide +kernel)) rfl
theorem q774 : (.instanceMethod yX5_whyNotPut : Cond) ∈ wA := wA_4 (List.mem_of_getElem? (i := 137) (by decide +kernel)) rfl
theorem q775 : (.code yX5_whyNotPut cX5_whyNotPut 3 (some .int) : Cond) ∈ wA := wA_4 (List.mem_of_getElem? (i := 138) (by decide +kernel)) rfl
theorem q776 : (.methodLink RX5 117 yX5_isKey : Cond) ∈ wA := wA_4 (List.mem_of_getElem? (i := 139) (by decide +kernel)) rfl
theorem q777 : (.static yX5_isKey : Cond) ∈ wA := wA_4 (List.mem_of_getElem? (i := 140) (by decide +kernel)) rfl
theorem q778 : (.code yX5_isKey cX5_isKey 1 (some .boolean) : Cond) ∈ wA := wA_4 (List.mem_of_getElem? (i := 141) (by decide +kernel)) rfl
theorem q779 : (.methodLink RX5 120 yX5_nextRow : Cond) ∈ wA := wA_4 (List.mem_of_getElem? (i := 142) (by decide +kernel)) rfl
theorem q780 : (.instanceMethod yX5_nextRow : Cond) ∈ wA := wA_4 (List.mem_of_getElem? (i := 144) (by decide +kernel)) rfl
theorem q781 : (.code yX5_nextRow cX5_nextRow 3 (some .int) : Cond) ∈ wA := wA_4 (List.mem_of_getElem? (i := 145) (by decide +kernel)) rfl
theorem q782 : (.methodLink RX5 105 yX5_maskNow : Cond) ∈ wA := wA_4 (List.mem_of_getElem? (i := 146) (by decide +kernel)) rfl
theorem q783 : (.instanceMethod yX5_maskNow : Cond) ∈ wA := wA_4 (List.mem_of_getElem? (i := 148) (by decide +kernel)) rfl
theorem q784 : (.code yX5_maskNow cX5_maskNow 2 (some .int) : Cond) ∈ wA := wA_4 (List.mem_of_getElem? (i := 149) (by decide +kernel)) rfl
theorem q785 : (.methodLink RX5 61 yX5_isThriceNow : Cond) ∈ wA := wA_4 (List.mem_of_getElem? (i := 150) (by decide +kernel)) rfl
theorem q786 : (.instanceMethod yX5_isThriceNow : Cond) ∈ wA := wA_4 (List.mem_of_getElem? (i := 152) (by decide +kernel)) rfl
theorem q787 : (.code yX5_isThriceNow cX5_isThriceNow 1 (some .boolean) : Cond) ∈ wA := wA_4 (List.mem_of_getElem? (i := 153) (by decide +kernel)) rfl
theorem q788 : (.methodLink RX5 65 yX5_mask : Cond) ∈ wA := wA_4 (List.mem_of_getElem? (i := 154) (by decide +kernel)) rfl
theorem q789 : (.instanceMethod yX5_mask : Cond) ∈ wA := wA_4 (List.mem_of_getElem? (i := 156) (by decide +kernel)) rfl
theorem q790 : (.code yX5_mask cX5_mask 6 (some .int) : Cond) ∈ wA := wA_4 (List.mem_of_getElem? (i := 157) (by decide +kernel)) rfl
theorem q791 : (.methodLink RX5 57 yX5_reads : Cond) ∈ wA := wA_4 (List.mem_of_getElem? (i := 158) (by decide +kernel)) rfl
theorem q792 : (.instanceMethod yX5_reads : Cond) ∈ wA := wA_4 (List.mem_of_getElem? (i := 160) (by decide +kernel)) rfl
theorem q793 : (.code yX5_reads cX5_reads 5 (some .int) : Cond) ∈ wA := wA_4 (List.mem_of_getElem? (i := 161) (by decide +kernel)) rfl
theorem q794 : (.methodLink RX5 127 yX5_putInto : Cond) ∈ wA := wA_4 (List.mem_of_getElem? (i := 162) (by decide +kernel)) rfl
theorem q795 : (.instanceMethod yX5_putInto : Cond) ∈ wA := wA_4 (List.mem_of_getElem? (i := 164) (by decide +kernel)) rfl
theorem q796 : (.code yX5_putInto cX5_putInto 9 (some .int) : Cond) ∈ wA := wA_4 (List.mem_of_getElem? (i := 165) (by decide +kernel)) rfl
theorem q797 : (.methodLink RX5 73 yX5_zerosIn : Cond) ∈ wA := wA_4 (List.mem_of_getElem? (i := 166) (by decide +kernel)) rfl
theorem q798 : (.static yX5_zerosIn : Cond) ∈ wA := wA_4 (List.mem_of_getElem? (i := 167) (by decide +kernel)) rfl
theorem q799 : (.code yX5_zerosIn cX5_zerosIn 1 (some .int) : Cond) ∈ wA := wA_4 (List.mem_of_getElem? (i := 168) (by decide +kernel)) rfl
theorem q800 : (.methodLink RX5 69 yX5_bits : Cond) ∈ wA := wA_4 (List.mem_of_getElem? (i := 169) (by decide +kernel)) rfl
theorem q801 : (.static yX5_bits : Cond) ∈ wA := wA_4 (List.mem_of_getElem? (i := 170) (by decide +kernel)) rfl
theorem q802 : (.code yX5_bits cX5_bits 3 (some .int) : Cond) ∈ wA := wA_4 (List.mem_of_getElem? (i := 171) (by decide +kernel)) rfl
theorem q803 : (.methodLink RX5 108 yX5_readsAs : Cond) ∈ wA := wA_4 (List.mem_of_getElem? (i := 172) (by decide +kernel)) rfl
theorem q804 : (.instanceMethod yX5_readsAs : Cond) ∈ wA := wA_4 (List.mem_of_getElem? (i := 174) (by decide +kernel)) rfl
theorem q805 : (.code yX5_readsAs cX5_readsAs 5 (some .boolean) : Cond) ∈ wA := wA_4 (List.mem_of_getElem? (i := 175) (by decide +kernel)) rfl
theorem q806 : (.methodLink RX5 76 yX5_kindOf : Cond) ∈ wA := wA_4 (List.mem_of_getElem? (i := 176) (by decide +kernel)) rfl
theorem q807 : (.static yX5_kindOf : Cond) ∈ wA := wA_4 (List.mem_of_getElem? (i := 177) (by decide +kernel)) rfl
theorem q808 : (.code yX5_kindOf cX5_kindOf 2 (some .int) : Cond) ∈ wA := wA_4 (List.mem_of_getElem? (i := 178) (by decide +kernel)) rfl
theorem q809 : (.methodLink RX5 79 yX5_keyIn : Cond) ∈ wA := wA_4 (List.mem_of_getElem? (i := 179) (by decide +kernel)) rfl
theorem q810 : (.static yX5_keyIn : Cond) ∈ wA := wA_4 (List.mem_of_getElem? (i := 180) (by decide +kernel)) rfl
theorem q811 : (.code yX5_keyIn cX5_keyIn 1 (some .int) : Cond) ∈ wA := wA_4 (List.mem_of_getElem? (i := 181) (by decide +kernel)) rfl
theorem q812 : (.methodLink RX5 85 yX5_valueIn : Cond) ∈ wA := wA_4 (List.mem_of_getElem? (i := 182) (by decide +kernel)) rfl
theorem q813 : (.static yX5_valueIn : Cond) ∈ wA := wA_4 (List.mem_of_getElem? (i := 183) (by decide +kernel)) rfl
theorem q814 : (.code yX5_valueIn cX5_valueIn 1 (some .int) : Cond) ∈ wA := wA_4 (List.mem_of_getElem? (i := 184) (by decide +kernel)) rfl
theorem q815 : (.methodLink RX5 111 yX5_markAll : Cond) ∈ wA := wA_4 (List.mem_of_getElem? (i := 185) (by decide +kernel)) rfl
theorem q816 : (.instanceMethod yX5_markAll : Cond) ∈ wA := wA_4 (List.mem_of_getElem? (i := 187) (by decide +kernel)) rfl
theorem q817 : (.code yX5_markAll cX5_markAll 7 (some .int) : Cond) ∈ wA := wA_4 (List.mem_of_getElem? (i := 188) (by decide +kernel)) rfl
theorem q818 : (.methodLink RL 100 yX5_drop : Cond) ∈ wA := wA_4 (List.mem_of_getElem? (i := 189) (by decide +kernel)) rfl
theorem q819 : (.instanceMethod yX5_drop : Cond) ∈ wA := wA_4 (List.mem_of_getElem? (i := 190) (by decide +kernel)) rfl
theorem q820 : (.selects RX5 yX5_drop yX5_drop : Cond) ∈ wA := wA_4 (List.mem_of_getElem? (i := 191) (by decide +kernel)) rfl
theorem q821 : (.code yX5_drop cX5_drop 2 (some .int) : Cond) ∈ wA := wA_4 (List.mem_of_getElem? (i := 192) (by decide +kernel)) rfl
theorem q822 : (.methodLink RL 103 yX5_lock : Cond) ∈ wA := wA_4 (List.mem_of_getElem? (i := 193) (by decide +kernel)) rfl
theorem q823 : (.instanceMethod yX5_lock : Cond) ∈ wA := wA_4 (List.mem_of_getElem? (i := 194) (by decide +kernel)) rfl
theorem q824 : (.selects RX5 yX5_lock yX5_lock : Cond) ∈ wA := wA_4 (List.mem_of_getElem? (i := 195) (by decide +kernel)) rfl
theorem q825 : (.code yX5_lock cX5_lock 2 (some .int) : Cond) ∈ wA := wA_4 (List.mem_of_getElem? (i := 196) (by decide +kernel)) rfl
theorem q826 : (.methodLink RX5 130 yX5_whyNotChange : Cond) ∈ wA := wA_4 (List.mem_of_getElem? (i := 197) (by decide +kernel)) rfl
theorem q827 : (.instanceMethod yX5_whyNotChange : Cond) ∈ wA := wA_4 (List.mem_of_getElem? (i := 199) (by decide +kernel)) rfl
theorem q828 : (.code yX5_whyNotChange cX5_whyNotChange 2 (some .int) : Cond) ∈ wA := wA_4 (List.mem_of_getElem? (i := 200) (by decide +kernel)) rfl
theorem q829 : (.methodLink RX5 133 yX5_lockedMany : Cond) ∈ wA := wA_4 (List.mem_of_getElem? (i := 201) (by decide +kernel)) rfl
theorem q830 : (.instanceMethod yX5_lockedMany : Cond) ∈ wA := wA_4 (List.mem_of_getElem? (i := 203) (by decide +kernel)) rfl
theorem q831 : (.code yX5_lockedMany cX5_lockedMany 3 (some .int) : Cond) ∈ wA := wA_4 (List.mem_of_getElem? (i := 204) (by decide +kernel)) rfl
theorem q832 : (.methodLink RL 106 yX5_refresh : Cond) ∈ wA := wA_4 (List.mem_of_getElem? (i := 205) (by decide +kernel)) rfl
theorem q833 : (.instanceMethod yX5_refresh : Cond) ∈ wA := wA_4 (List.mem_of_getElem? (i := 206) (by decide +kernel)) rfl
theorem q834 : (.selects RX5 yX5_refresh yX5_refresh : Cond) ∈ wA := wA_4 (List.mem_of_getElem? (i := 207) (by decide +kernel)) rfl
theorem q835 : (.code yX5_refresh cX5_refresh 2 (some .int) : Cond) ∈ wA := wA_4 (List.mem_of_getElem? (i := 208) (by decide +kernel)) rfl
theorem q836 : (.methodLink RX5 136 yX5_refreshAll : Cond) ∈ wA := wA_4 (List.mem_of_getElem? (i := 209) (by decide +kernel)) rfl
theorem q837 : (.instanceMethod yX5_refreshAll : Cond) ∈ wA := wA_4 (List.mem_of_getElem? (i := 211) (by decide +kernel)) rfl
theorem q838 : (.code yX5_refreshAll cX5_refreshAll 4 (some .int) : Cond) ∈ wA := wA_4 (List.mem_of_getElem? (i := 212) (by decide +kernel)) rfl
theorem q839 : (.methodLink RL 109 yX5_heat : Cond) ∈ wA := wA_4 (List.mem_of_getElem? (i := 213) (by decide +kernel)) rfl
theorem q840 : (.instanceMethod yX5_heat : Cond) ∈ wA := wA_4 (List.mem_of_getElem? (i := 214) (by decide +kernel)) rfl
theorem q841 : (.selects RX5 yX5_heat yX5_heat : Cond) ∈ wA := wA_4 (List.mem_of_getElem? (i := 215) (by decide +kernel)) rfl
theorem q842 : (.code yX5_heat cX5_heat 2 (some .int) : Cond) ∈ wA := wA_4 (List.mem_of_getElem? (i := 216) (by decide +kernel)) rfl
theorem q843 : (.methodLink RX5 139 yX5_heatAll : Cond) ∈ wA := wA_4 (List.mem_of_getElem? (i := 217) (by decide +kernel)) rfl
theorem q844 : (.instanceMethod yX5_heatAll : Cond) ∈ wA := wA_4 (List.mem_of_getElem? (i := 219) (by decide +kernel)) rfl
theorem q845 : (.code yX5_heatAll cX5_heatAll 5 (some .int) : Cond) ∈ wA := wA_4 (List.mem_of_getElem? (i := 220) (by decide +kernel)) rfl
theorem q846 : (.methodLink RL 112 yX5_pass : Cond) ∈ wA := wA_4 (List.mem_of_getElem? (i := 221) (by decide +kernel)) rfl
theorem q847 : (.instanceMethod yX5_pass : Cond) ∈ wA := wA_4 (List.mem_of_getElem? (i := 222) (by decide +kernel)) rfl
theorem q848 : (.selects RX5 yX5_pass yX5_pass : Cond) ∈ wA := wA_4 (List.mem_of_getElem? (i := 223) (by decide +kernel)) rfl
theorem q849 : (.code yX5_pass cX5_pass 2 (some .int) : Cond) ∈ wA := wA_4 (List.mem_of_getElem? (i := 224) (by decide +kernel)) rfl
theorem q850 : (.methodLink RL 115 yX5_set : Cond) ∈ wA := wA_4 (List.mem_of_getElem? (i := 225) (by decide +kernel)) rfl
theorem q851 : (.instanceMethod yX5_set : Cond) ∈ wA := wA_4 (List.mem_of_getElem? (i := 226) (by decide +kernel)) rfl
theorem q852 : (.selects RX5 yX5_set yX5_set : Cond) ∈ wA := wA_4 (List.mem_of_getElem? (i := 227) (by decide +kernel)) rfl
theorem q853 : (.code yX5_set cX5_set 4 (some .int) : Cond) ∈ wA := wA_4 (List.mem_of_getElem? (i := 228) (by decide +kernel)) rfl
theorem q854 : (.methodLink RX5 142 yX5_leastOf : Cond) ∈ wA := wA_4 (List.mem_of_getElem? (i := 229) (by decide +kernel)) rfl
theorem q855 : (.static yX5_leastOf : Cond) ∈ wA := wA_4 (List.mem_of_getElem? (i := 230) (by decide +kernel)) rfl
theorem q856 : (.code yX5_leastOf cX5_leastOf 1 (some .int) : Cond) ∈ wA := wA_4 (List.mem_of_getElem? (i := 231) (by decide +kernel)) rfl
theorem q857 : (.methodLink RX5 145 yX5_mostOf : Cond) ∈ wA := wA_4 (List.mem_of_getElem? (i := 232) (by decide +kernel)) rfl
theorem q858 : (.static yX5_mostOf : Cond) ∈ wA := wA_4 (List.mem_of_getElem? (i := 233) (by decide +kernel)) rfl
theorem q859 : (.code yX5_mostOf cX5_mostOf 1 (some .int) : Cond) ∈ wA := wA_4 (List.mem_of_getElem? (i := 234) (by decide +kernel)) rfl
theorem q860 : (.methodLink RL 118 yX5_append : Cond) ∈ wA := wA_4 (List.mem_of_getElem? (i := 235) (by decide +kernel)) rfl
theorem q861 : (.instanceMethod yX5_append : Cond) ∈ wA := wA_4 (List.mem_of_getElem? (i := 236) (by decide +kernel)) rfl
theorem q862 : (.selects RX5 yX5_append yX5_append : Cond) ∈ wA := wA_4 (List.mem_of_getElem? (i := 237) (by decide +kernel)) rfl
theorem q863 : (.code yX5_append cX5_append 2 (some .int) : Cond) ∈ wA := wA_4 (List.mem_of_getElem? (i := 238) (by decide +kernel)) rfl
theorem q864 : (.methodLink RL 122 yX5_clearBuffer : Cond) ∈ wA := wA_4 (List.mem_of_getElem? (i := 239) (by decide +kernel)) rfl
theorem q865 : (.instanceMethod yX5_clearBuffer : Cond) ∈ wA := wA_5 (List.mem_of_getElem? (i := 0) (by decide +kernel)) rfl
theorem q866 : (.selects RX5 yX5_clearBuffer yX5_clearBuffer : Cond) ∈ wA := wA_5 (List.mem_of_getElem? (i := 1) (by decide +kernel)) rfl
theorem q867 : (.code yX5_clearBuffer cX5_clearBuffer 2 (some .int) : Cond) ∈ wA := wA_5 (List.mem_of_getElem? (i := 2) (by decide +kernel)) rfl
theorem q868 : (.methodLink RL 126 yX5_firstError : Cond) ∈ wA := wA_5 (List.mem_of_getElem? (i := 3) (by decide +kernel)) rfl
theorem q869 : (.instanceMethod yX5_firstError : Cond) ∈ wA := wA_5 (List.mem_of_getElem? (i := 4) (by decide +kernel)) rfl
theorem q870 : (.selects RX5 yX5_firstError yX5_firstError : Cond) ∈ wA := wA_5 (List.mem_of_getElem? (i := 5) (by decide +kernel)) rfl
theorem q871 : (.code yX5_firstError cX5_firstError 1 (some .int) : Cond) ∈ wA := wA_5 (List.mem_of_getElem? (i := 6) (by decide +kernel)) rfl
theorem q872 : (.methodLink RX5 187 yX5_readBuffer : Cond) ∈ wA := wA_5 (List.mem_of_getElem? (i := 7) (by decide +kernel)) rfl
theorem q873 : (.instanceMethod yX5_readBuffer : Cond) ∈ wA := wA_5 (List.mem_of_getElem? (i := 9) (by decide +kernel)) rfl
theorem q874 : (.code yX5_readBuffer cX5_readBuffer 2 none : Cond) ∈ wA := wA_5 (List.mem_of_getElem? (i := 10) (by decide +kernel)) rfl
theorem q875 : (.methodLink RX5 184 yX5_order : Cond) ∈ wA := wA_5 (List.mem_of_getElem? (i := 11) (by decide +kernel)) rfl
theorem q876 : (.instanceMethod yX5_order : Cond) ∈ wA := wA_5 (List.mem_of_getElem? (i := 13) (by decide +kernel)) rfl
theorem q877 : (.code yX5_order cX5_order 3 none : Cond) ∈ wA := wA_5 (List.mem_of_getElem? (i := 14) (by decide +kernel)) rfl
theorem q878 : (.methodLink RX5 174 yX5_kindAt : Cond) ∈ wA := wA_5 (List.mem_of_getElem? (i := 15) (by decide +kernel)) rfl
theorem q879 : (.instanceMethod yX5_kindAt : Cond) ∈ wA := wA_5 (List.mem_of_getElem? (i := 17) (by decide +kernel)) rfl
theorem q880 : (.code yX5_kindAt cX5_kindAt 3 (some .int) : Cond) ∈ wA := wA_5 (List.mem_of_getElem? (i := 18) (by decide +kernel)) rfl
theorem q881 : (.methodLink RX5 164 yX5_letter : Cond) ∈ wA := wA_5 (List.mem_of_getElem? (i := 19) (by decide +kernel)) rfl
theorem q882 : (.instanceMethod yX5_letter : Cond) ∈ wA := wA_5 (List.mem_of_getElem? (i := 21) (by decide +kernel)) rfl
theorem q883 : (.code yX5_letter cX5_letter 1 (some .int) : Cond) ∈ wA := wA_5 (List.mem_of_getElem? (i := 22) (by decide +kernel)) rfl
theorem q884 : (.methodLink RX5 177 yX5_word : Cond) ∈ wA := wA_5 (List.mem_of_getElem? (i := 23) (by decide +kernel)) rfl
theorem q885 : (.instanceMethod yX5_word : Cond) ∈ wA := wA_5 (List.mem_of_getElem? (i := 25) (by decide +kernel)) rfl
theorem q886 : (.code yX5_word cX5_word 3 none : Cond) ∈ wA := wA_5 (List.mem_of_getElem? (i := 26) (by decide +kernel)) rfl
theorem q887 : (.methodLink RX5 167 yX5_takes : Cond) ∈ wA := wA_5 (List.mem_of_getElem? (i := 27) (by decide +kernel)) rfl
theorem q888 : (.instanceMethod yX5_takes : Cond) ∈ wA := wA_5 (List.mem_of_getElem? (i := 29) (by decide +kernel)) rfl
theorem q889 : (.code yX5_takes cX5_takes 2 none : Cond) ∈ wA := wA_5 (List.mem_of_getElem? (i := 30) (by decide +kernel)) rfl
theorem q890 : (.methodLink RX5 161 yX5_isFine : Cond) ∈ wA := wA_5 (List.mem_of_getElem? (i := 31) (by decide +kernel)) rfl
theorem q891 : (.instanceMethod yX5_isFine : Cond) ∈ wA := wA_5 (List.mem_of_getElem? (i := 33) (by decide +kernel)) rfl
theorem q892 : (.code yX5_isFine cX5_isFine 1 (some .boolean) : Cond) ∈ wA := wA_5 (List.mem_of_getElem? (i := 34) (by decide +kernel)) rfl
theorem q893 : (.methodLink RX5 181 yX5_number : Cond) ∈ wA := wA_5 (List.mem_of_getElem? (i := 35) (by decide +kernel)) rfl
theorem q894 : (.instanceMethod yX5_number : Cond) ∈ wA := wA_5 (List.mem_of_getElem? (i := 37) (by decide +kernel)) rfl
theorem q895 : (.code yX5_number cX5_number 5 (some .int) : Cond) ∈ wA := wA_5 (List.mem_of_getElem? (i := 38) (by decide +kernel)) rfl
theorem q896 : (.methodLink RL 130 yX5_run : Cond) ∈ wA := wA_5 (List.mem_of_getElem? (i := 39) (by decide +kernel)) rfl
theorem q897 : (.instanceMethod yX5_run : Cond) ∈ wA := wA_5 (List.mem_of_getElem? (i := 40) (by decide +kernel)) rfl
theorem q898 : (.selects RX5 yX5_run yX5_run : Cond) ∈ wA := wA_5 (List.mem_of_getElem? (i := 41) (by decide +kernel)) rfl
theorem q899 : (.code yX5_run cX5_run 2 (some .int) : Cond) ∈ wA := wA_5 (List.mem_of_getElem? (i := 42) (by decide +kernel)) rfl
theorem q900 : (.methodLink RX5 190 yX5_does : Cond) ∈ wA := wA_5 (List.mem_of_getElem? (i := 43) (by decide +kernel)) rfl
theorem q901 : (.instanceMethod yX5_does : Cond) ∈ wA := wA_5 (List.mem_of_getElem? (i := 45) (by decide +kernel)) rfl
theorem q902 : (.code yX5_does cX5_does 3 (some .boolean) : Cond) ∈ wA := wA_5 (List.mem_of_getElem? (i := 46) (by decide +kernel)) rfl
theorem q903 : (.methodLink RL 136 yX5_fuse : Cond) ∈ wA := wA_5 (List.mem_of_getElem? (i := 47) (by decide +kernel)) rfl
theorem q904 : (.instanceMethod yX5_fuse : Cond) ∈ wA := wA_5 (List.mem_of_getElem? (i := 48) (by decide +kernel)) rfl
theorem q905 : (.selects RX5 yX5_fuse yX5_fuse : Cond) ∈ wA := wA_5 (List.mem_of_getElem? (i := 49) (by decide +kernel)) rfl
theorem q906 : (.code yX5_fuse cX5_fuse 4 (some .int) : Cond) ∈ wA := wA_5 (List.mem_of_getElem? (i := 50) (by decide +kernel)) rfl
theorem q907 : (.methodLink RL 139 yX5_row : Cond) ∈ wA := wA_5 (List.mem_of_getElem? (i := 51) (by decide +kernel)) rfl
theorem q908 : (.instanceMethod yX5_row : Cond) ∈ wA := wA_5 (List.mem_of_getElem? (i := 52) (by decide +kernel)) rfl
theorem q909 : (.selects RX5 yX5_row yX5_row : Cond) ∈ wA := wA_5 (List.mem_of_getElem? (i := 53) (by decide +kernel)) rfl
theorem q910 : (.code yX5_row cX5_row 3 (some .int) : Cond) ∈ wA := wA_5 (List.mem_of_getElem? (i := 54) (by decide +kernel)) rfl
theorem q911 : (.methodLink RX5 199 yX5_toldRow : Cond) ∈ wA := wA_5 (List.mem_of_getElem? (i := 55) (by decide +kernel)) rfl
theorem q912 : (.instanceMethod yX5_toldRow : Cond) ∈ wA := wA_5 (List.mem_of_getElem? (i := 57) (by decide +kernel)) rfl
theorem q913 : (.code yX5_toldRow cX5_toldRow 4 (some .int) : Cond) ∈ wA := wA_5 (List.mem_of_getElem? (i := 58) (by decide +kernel)) rfl
theorem q914 : (.methodLink RX5 193 yX5_doubtful : Cond) ∈ wA := wA_5 (List.mem_of_getElem? (i := 59) (by decide +kernel)) rfl
theorem q915 : (.instanceMethod yX5_doubtful : Cond) ∈ wA := wA_5 (List.mem_of_getElem? (i := 61) (by decide +kernel)) rfl
theorem q916 : (.code yX5_doubtful cX5_doubtful 4 (some .int) : Cond) ∈ wA := wA_5 (List.mem_of_getElem? (i := 62) (by decide +kernel)) rfl
theorem q917 : (.methodLink RX5 196 yX5_strengths : Cond) ∈ wA := wA_5 (List.mem_of_getElem? (i := 63) (by decide +kernel)) rfl
theorem q918 : (.instanceMethod yX5_strengths : Cond) ∈ wA := wA_5 (List.mem_of_getElem? (i := 65) (by decide +kernel)) rfl
theorem q919 : (.code yX5_strengths cX5_strengths 4 (some .int) : Cond) ∈ wA := wA_5 (List.mem_of_getElem? (i := 66) (by decide +kernel)) rfl
theorem q920 : (.methodLink RL 142 yX5_key : Cond) ∈ wA := wA_5 (List.mem_of_getElem? (i := 67) (by decide +kernel)) rfl
theorem q921 : (.instanceMethod yX5_key : Cond) ∈ wA := wA_5 (List.mem_of_getElem? (i := 68) (by decide +kernel)) rfl
theorem q922 : (.selects RX5 yX5_key yX5_key : Cond) ∈ wA := wA_5 (List.mem_of_getElem? (i := 69) (by decide +kernel)) rfl
theorem q923 : (.code yX5_key cX5_key 3 (some .int) : Cond) ∈ wA := wA_5 (List.mem_of_getElem? (i := 70) (by decide +kernel)) rfl
theorem q924 : (.methodLink RX5 221 yX5_toldKey : Cond) ∈ wA := wA_5 (List.mem_of_getElem? (i := 71) (by decide +kernel)) rfl
theorem q925 : (.instanceMethod yX5_toldKey : Cond) ∈ wA := wA_5 (List.mem_of_getElem? (i := 73) (by decide +kernel)) rfl
theorem q926 : (.code yX5_toldKey cX5_toldKey 3 (some .int) : Cond) ∈ wA := wA_5 (List.mem_of_getElem? (i := 74) (by decide +kernel)) rfl
theorem q927 : (.methodLink RX5 206 yX5_valueNow : Cond) ∈ wA := wA_5 (List.mem_of_getElem? (i := 75) (by decide +kernel)) rfl
theorem q928 : (.instanceMethod yX5_valueNow : Cond) ∈ wA := wA_5 (List.mem_of_getElem? (i := 77) (by decide +kernel)) rfl
theorem q929 : (.code yX5_valueNow cX5_valueNow 2 (some .int) : Cond) ∈ wA := wA_5 (List.mem_of_getElem? (i := 78) (by decide +kernel)) rfl
theorem q930 : (.methodLink RX5 88 yX5_valueOf : Cond) ∈ wA := wA_5 (List.mem_of_getElem? (i := 79) (by decide +kernel)) rfl
theorem q931 : (.instanceMethod yX5_valueOf : Cond) ∈ wA := wA_5 (List.mem_of_getElem? (i := 81) (by decide +kernel)) rfl
theorem q932 : (.code yX5_valueOf cX5_valueOf 5 (some .int) : Cond) ∈ wA := wA_5 (List.mem_of_getElem? (i := 82) (by decide +kernel)) rfl
theorem q933 : (.methodLink RX5 82 yX5_rowOf : Cond) ∈ wA := wA_5 (List.mem_of_getElem? (i := 83) (by decide +kernel)) rfl
theorem q934 : (.instanceMethod yX5_rowOf : Cond) ∈ wA := wA_5 (List.mem_of_getElem? (i := 85) (by decide +kernel)) rfl
theorem q935 : (.code yX5_rowOf cX5_rowOf 7 (some .int) : Cond) ∈ wA := wA_5 (List.mem_of_getElem? (i := 86) (by decide +kernel)) rfl
theorem q936 : (.methodLink RX5 209 yX5_entriesOf : Cond) ∈ wA := wA_5 (List.mem_of_getElem? (i := 87) (by decide +kernel)) rfl
theorem q937 : (.instanceMethod yX5_entriesOf : Cond) ∈ wA := wA_5 (List.mem_of_getElem? (i := 89) (by decide +kernel)) rfl
theorem q938 : (.code yX5_entriesOf cX5_entriesOf 4 (some .int) : Cond) ∈ wA := wA_5 (List.mem_of_getElem? (i := 90) (by decide +kernel)) rfl
theorem q939 : (.methodLink RX5 202 yX5_isRowOf : Cond) ∈ wA := wA_5 (List.mem_of_getElem? (i := 91) (by decide +kernel)) rfl
theorem q940 : (.instanceMethod yX5_isRowOf : Cond) ∈ wA := wA_5 (List.mem_of_getElem? (i := 93) (by decide +kernel)) rfl
theorem q941 : (.code yX5_isRowOf cX5_isRowOf 5 (some .boolean) : Cond) ∈ wA := wA_5 (List.mem_of_getElem? (i := 94) (by decide +kernel)) rfl
theorem q942 : (.methodLink RX5 212 yX5_rowsOf : Cond) ∈ wA := wA_5 (List.mem_of_getElem? (i := 95) (by decide +kernel)) rfl
theorem q943 : (.instanceMethod yX5_rowsOf : Cond) ∈ wA := wA_5 (List.mem_of_getElem? (i := 97) (by decide +kernel)) rfl
theorem q944 : (.code yX5_rowsOf cX5_rowsOf 4 (some .int) : Cond) ∈ wA := wA_5 (List.mem_of_getElem? (i := 98) (by decide +kernel)) rfl
theorem q945 : (.methodLink RX5 215 yX5_greatestOf : Cond) ∈ wA := wA_5 (List.mem_of_getElem? (i := 99) (by decide +kernel)) rfl
theorem q946 : (.instanceMethod yX5_greatestOf : Cond) ∈ wA := wA_5 (List.mem_of_getElem? (i := 101) (by decide +kernel)) rfl
theorem q947 : (.code yX5_greatestOf cX5_greatestOf 5 (some .int) : Cond) ∈ wA := wA_5 (List.mem_of_getElem? (i := 102) (by decide +kernel)) rfl
theorem q948 : (.methodLink RX5 218 yX5_agreeing : Cond) ∈ wA := wA_5 (List.mem_of_getElem? (i := 103) (by decide +kernel)) rfl
theorem q949 : (.instanceMethod yX5_agreeing : Cond) ∈ wA := wA_5 (List.mem_of_getElem? (i := 105) (by decide +kernel)) rfl
theorem q950 : (.code yX5_agreeing cX5_agreeing 5 (some .int) : Cond) ∈ wA := wA_5 (List.mem_of_getElem? (i := 106) (by decide +kernel)) rfl
theorem q951 : (.methodLink RL 145 yX5_history : Cond) ∈ wA := wA_5 (List.mem_of_getElem? (i := 107) (by decide +kernel)) rfl
theorem q952 : (.instanceMethod yX5_history : Cond) ∈ wA := wA_5 (List.mem_of_getElem? (i := 108) (by decide +kernel)) rfl
theorem q953 : (.selects RX5 yX5_history yX5_history : Cond) ∈ wA := wA_5 (List.mem_of_getElem? (i := 109) (by decide +kernel)) rfl
theorem q954 : (.code yX5_history cX5_history 3 (some .int) : Cond) ∈ wA := wA_5 (List.mem_of_getElem? (i := 110) (by decide +kernel)) rfl
theorem q955 : (.methodLink RX5 224 yX5_earlier : Cond) ∈ wA := wA_5 (List.mem_of_getElem? (i := 111) (by decide +kernel)) rfl
theorem q956 : (.instanceMethod yX5_earlier : Cond) ∈ wA := wA_5 (List.mem_of_getElem? (i := 113) (by decide +kernel)) rfl
theorem q957 : (.code yX5_earlier cX5_earlier 5 (some .int) : Cond) ∈ wA := wA_5 (List.mem_of_getElem? (i := 114) (by decide +kernel)) rfl
theorem q958 : (.methodLink RL 148 yX5_count : Cond) ∈ wA := wA_5 (List.mem_of_getElem? (i := 115) (by decide +kernel)) rfl
theorem q959 : (.instanceMethod yX5_count : Cond) ∈ wA := wA_5 (List.mem_of_getElem? (i := 116) (by decide +kernel)) rfl
theorem q960 : (.selects RX5 yX5_count yX5_count : Cond) ∈ wA := wA_5 (List.mem_of_getElem? (i := 117) (by decide +kernel)) rfl
theorem q961 : (.code yX5_count cX5_count 2 (some .int) : Cond) ∈ wA := wA_5 (List.mem_of_getElem? (i := 118) (by decide +kernel)) rfl
theorem q962 : (.methodLink RX5 236 yX5_counted : Cond) ∈ wA := wA_5 (List.mem_of_getElem? (i := 119) (by decide +kernel)) rfl
theorem q963 : (.instanceMethod yX5_counted : Cond) ∈ wA := wA_5 (List.mem_of_getElem? (i := 121) (by decide +kernel)) rfl
theorem q964 : (.code yX5_counted cX5_counted 2 (some .int) : Cond) ∈ wA := wA_5 (List.mem_of_getElem? (i := 122) (by decide +kernel)) rfl
theorem q965 : (.methodLink RX5 227 yX5_doubtfulAll : Cond) ∈ wA := wA_5 (List.mem_of_getElem? (i := 123) (by decide +kernel)) rfl
theorem q966 : (.instanceMethod yX5_doubtfulAll : Cond) ∈ wA := wA_5 (List.mem_of_getElem? (i := 125) (by decide +kernel)) rfl
theorem q967 : (.code yX5_doubtfulAll cX5_doubtfulAll 3 (some .int) : Cond) ∈ wA := wA_5 (List.mem_of_getElem? (i := 126) (by decide +kernel)) rfl
theorem q968 : (.methodLink RX5 230 yX5_keysWithValue : Cond) ∈ wA := wA_5 (List.mem_of_getElem? (i := 127) (by decide +kernel)) rfl
theorem q969 : (.instanceMethod yX5_keysWithValue : Cond) ∈ wA := wA_5 (List.mem_of_getElem? (i := 129) (by decide +kernel)) rfl
theorem q970 : (.code yX5_keysWithValue cX5_keysWithValue 3 (some .int) : Cond) ∈ wA := wA_5 (List.mem_of_getElem? (i := 130) (by decide +kernel)) rfl
theorem q971 : (.methodLink RX5 233 yX5_rowsOfKind : Cond) ∈ wA := wA_5 (List.mem_of_getElem? (i := 131) (by decide +kernel)) rfl
theorem q972 : (.instanceMethod yX5_rowsOfKind : Cond) ∈ wA := wA_5 (List.mem_of_getElem? (i := 133) (by decide +kernel)) rfl
theorem q973 : (.code yX5_rowsOfKind cX5_rowsOfKind 4 (some .int) : Cond) ∈ wA := wA_5 (List.mem_of_getElem? (i := 134) (by decide +kernel)) rfl
theorem q974 : (.methodLink RL 151 yX5_setting : Cond) ∈ wA := wA_5 (List.mem_of_getElem? (i := 135) (by decide +kernel)) rfl
theorem q975 : (.instanceMethod yX5_setting : Cond) ∈ wA := wA_5 (List.mem_of_getElem? (i := 136) (by decide +kernel)) rfl
theorem q976 : (.selects RX5 yX5_setting yX5_setting : Cond) ∈ wA := wA_5 (List.mem_of_getElem? (i := 137) (by decide +kernel)) rfl
theorem q977 : (.code yX5_setting cX5_setting 2 (some .int) : Cond) ∈ wA := wA_5 (List.mem_of_getElem? (i := 138) (by decide +kernel)) rfl
theorem q978 : (.methodLink RL 154 yX5_ifPut : Cond) ∈ wA := wA_5 (List.mem_of_getElem? (i := 139) (by decide +kernel)) rfl
theorem q979 : (.instanceMethod yX5_ifPut : Cond) ∈ wA := wA_5 (List.mem_of_getElem? (i := 140) (by decide +kernel)) rfl
theorem q980 : (.selects RX5 yX5_ifPut yX5_ifPut : Cond) ∈ wA := wA_5 (List.mem_of_getElem? (i := 141) (by decide +kernel)) rfl
theorem q981 : (.code yX5_ifPut cX5_ifPut 4 (some .int) : Cond) ∈ wA := wA_5 (List.mem_of_getElem? (i := 142) (by decide +kernel)) rfl
theorem q982 : (.methodLink RX5 245 yX5_wouldPut : Cond) ∈ wA := wA_5 (List.mem_of_getElem? (i := 143) (by decide +kernel)) rfl
theorem q983 : (.instanceMethod yX5_wouldPut : Cond) ∈ wA := wA_5 (List.mem_of_getElem? (i := 145) (by decide +kernel)) rfl
theorem q984 : (.code yX5_wouldPut cX5_wouldPut 8 (some .int) : Cond) ∈ wA := wA_5 (List.mem_of_getElem? (i := 146) (by decide +kernel)) rfl
theorem q985 : (.methodLink RX5 239 yX5_putAside : Cond) ∈ wA := wA_5 (List.mem_of_getElem? (i := 147) (by decide +kernel)) rfl
theorem q986 : (.instanceMethod yX5_putAside : Cond) ∈ wA := wA_5 (List.mem_of_getElem? (i := 149) (by decide +kernel)) rfl
theorem q987 : (.code yX5_putAside cX5_putAside 2 none : Cond) ∈ wA := wA_5 (List.mem_of_getElem? (i := 150) (by decide +kernel)) rfl
theorem q988 : (.methodLink RX5 242 yX5_bringBack : Cond) ∈ wA := wA_5 (List.mem_of_getElem? (i := 151) (by decide +kernel)) rfl
theorem q989 : (.instanceMethod yX5_bringBack : Cond) ∈ wA := wA_5 (List.mem_of_getElem? (i := 153) (by decide +kernel)) rfl
theorem q990 : (.code yX5_bringBack cX5_bringBack 2 none : Cond) ∈ wA := wA_5 (List.mem_of_getElem? (i := 154) (by decide +kernel)) rfl
theorem q991 : (.methodLink RL 157 yX5_ifHeated : Cond) ∈ wA := wA_5 (List.mem_of_getElem? (i := 155) (by decide +kernel)) rfl
theorem q992 : (.instanceMethod yX5_ifHeated : Cond) ∈ wA := wA_5 (List.mem_of_getElem? (i := 156) (by decide +kernel)) rfl
theorem q993 : (.selects RX5 yX5_ifHeated yX5_ifHeated : Cond) ∈ wA := wA_5 (List.mem_of_getElem? (i := 157) (by decide +kernel)) rfl
theorem q994 : (.code yX5_ifHeated cX5_ifHeated 3 (some .int) : Cond) ∈ wA := wA_5 (List.mem_of_getElem? (i := 158) (by decide +kernel)) rfl
theorem q995 : (.methodLink RX5 251 yX5_wouldHeat : Cond) ∈ wA := wA_5 (List.mem_of_getElem? (i := 159) (by decide +kernel)) rfl
theorem q996 : (.instanceMethod yX5_wouldHeat : Cond) ∈ wA := wA_5 (List.mem_of_getElem? (i := 161) (by decide +kernel)) rfl
theorem q997 : (.code yX5_wouldHeat cX5_wouldHeat 7 (some .int) : Cond) ∈ wA := wA_5 (List.mem_of_getElem? (i := 162) (by decide +kernel)) rfl
theorem q998 : (.methodLink RX5 248 yX5_layBefore : Cond) ∈ wA := wA_5 (List.mem_of_getElem? (i := 163) (by decide +kernel)) rfl
theorem q999 : (.instanceMethod yX5_layBefore : Cond) ∈ wA := wA_5 (List.mem_of_getElem? (i := 165) (by decide +kernel)) rfl
theorem q1000 : (.code yX5_layBefore cX5_layBefore 2 none : Cond) ∈ wA := wA_5 (List.mem_of_getElem? (i := 166) (by decide +kernel)) rfl
theorem q1001 : (.methodLink RL 161 yX5_ifRead : Cond) ∈ wA := wA_5 (List.mem_of_getElem? (i := 167) (by decide +kernel)) rfl
theorem q1002 : (.instanceMethod yX5_ifRead : Cond) ∈ wA := wA_5 (List.mem_of_getElem? (i := 168) (by decide +kernel)) rfl
theorem q1003 : (.selects RX5 yX5_ifRead yX5_ifRead : Cond) ∈ wA := wA_5 (List.mem_of_getElem? (i := 169) (by decide +kernel)) rfl
theorem q1004 : (.code yX5_ifRead cX5_ifRead 3 (some .int) : Cond) ∈ wA := wA_5 (List.mem_of_getElem? (i := 170) (by decide +kernel)) rfl
theorem q1005 : (.methodLink RX5 254 yX5_wouldRead : Cond) ∈ wA := wA_5 (List.mem_of_getElem? (i := 171) (by decide +kernel)) rfl
theorem q1006 : (.instanceMethod yX5_wouldRead : Cond) ∈ wA := wA_5 (List.mem_of_getElem? (i := 173) (by decide +kernel)) rfl
theorem q1007 : (.code yX5_wouldRead cX5_wouldRead 5 (some .int) : Cond) ∈ wA := wA_5 (List.mem_of_getElem? (i := 174) (by decide +kernel)) rfl
theorem q1008 : (.methodLink RL 165 yX5_worst : Cond) ∈ wA := wA_5 (List.mem_of_getElem? (i := 175) (by decide +kernel)) rfl
theorem q1009 : (.instanceMethod yX5_worst : Cond) ∈ wA := wA_5 (List.mem_of_getElem? (i := 176) (by decide +kernel)) rfl
theorem q1010 : (.selects RX5 yX5_worst yX5_worst : Cond) ∈ wA := wA_5 (List.mem_of_getElem? (i := 177) (by decide +kernel)) rfl
theorem q1011 : (.code yX5_worst cX5_worst 1 (some .int) : Cond) ∈ wA := wA_5 (List.mem_of_getElem? (i := 178) (by decide +kernel)) rfl
theorem q1012 : (.methodLink RX5 258 yX5_worstNow : Cond) ∈ wA := wA_5 (List.mem_of_getElem? (i := 179) (by decide +kernel)) rfl
theorem q1013 : (.instanceMethod yX5_worstNow : Cond) ∈ wA := wA_5 (List.mem_of_getElem? (i := 181) (by decide +kernel)) rfl
theorem q1014 : (.code yX5_worstNow cX5_worstNow 5 (some .int) : Cond) ∈ wA := wA_5 (List.mem_of_getElem? (i := 182) (by decide +kernel)) rfl
theorem q1015 : (.methodLink RL 170 yX5_sureShare : Cond) ∈ wA := wA_5 (List.mem_of_getElem? (i := 183) (by decide +kernel)) rfl
theorem q1016 : (.instanceMethod yX5_sureShare : Cond) ∈ wA := wA_5 (List.mem_of_getElem? (i := 184) (by decide +kernel)) rfl
theorem q1017 : (.selects RX5 yX5_sureShare yX5_sureShare : Cond) ∈ wA := wA_5 (List.mem_of_getElem? (i := 185) (by decide +kernel)) rfl
theorem q1018 : (.code yX5_sureShare cX5_sureShare 1 (some .double) : Cond) ∈ wA := wA_5 (List.mem_of_getElem? (i := 186) (by decide +kernel)) rfl
theorem q1019 : (.methodLink RX5 261 yX5_share : Cond) ∈ wA := wA_5 (List.mem_of_getElem? (i := 187) (by decide +kernel)) rfl
theorem q1020 : (.instanceMethod yX5_share : Cond) ∈ wA := wA_5 (List.mem_of_getElem? (i := 189) (by decide +kernel)) rfl
theorem q1021 : (.code yX5_share cX5_share 4 (some .double) : Cond) ∈ wA := wA_5 (List.mem_of_getElem? (i := 190) (by decide +kernel)) rfl
theorem q1022 : (.methodLink RL 175 yX5_digest : Cond) ∈ wA := wA_5 (List.mem_of_getElem? (i := 191) (by decide +kernel)) rfl
theorem q1023 : (.instanceMethod yX5_digest : Cond) ∈ wA := wA_5 (List.mem_of_getElem? (i := 192) (by decide +kernel)) rfl
theorem q1024 : (.selects RX5 yX5_digest yX5_digest : Cond) ∈ wA := wA_5 (List.mem_of_getElem? (i := 193) (by decide +kernel)) rfl
theorem q1025 : (.code yX5_digest cX5_digest 2 (some .long) : Cond) ∈ wA := wA_5 (List.mem_of_getElem? (i := 194) (by decide +kernel)) rfl
theorem q1026 : (.constantLong RX5 283 (2683) : Cond) ∈ wA := wA_5 (List.mem_of_getElem? (i := 195) (by decide +kernel)) rfl
theorem q1027 : (.methodLink RX5 279 yX5_mix : Cond) ∈ wA := wA_5 (List.mem_of_getElem? (i := 196) (by decide +kernel)) rfl
theorem q1028 : (.instanceMethod yX5_mix : Cond) ∈ wA := wA_5 (List.mem_of_getElem? (i := 198) (by decide +kernel)) rfl
theorem q1029 : (.code yX5_mix cX5_mix 3 none : Cond) ∈ wA := wA_5 (List.mem_of_getElem? (i := 199) (by decide +kernel)) rfl
theorem q1030 : (.constantLong RX5 273 (31) : Cond) ∈ wA := wA_5 (List.mem_of_getElem? (i := 200) (by decide +kernel)) rfl
theorem q1031 : (.methodLink RX5 285 yX5_mixRow : Cond) ∈ wA := wA_5 (List.mem_of_getElem? (i := 201) (by decide +kernel)) rfl
theorem q1032 : (.instanceMethod yX5_mixRow : Cond) ∈ wA := wA_5 (List.mem_of_getElem? (i := 203) (by decide +kernel)) rfl
theorem q1033 : (.code yX5_mixRow cX5_mixRow 3 none : Cond) ∈ wA := wA_5 (List.mem_of_getElem? (i := 204) (by decide +kernel)) rfl
theorem q1034 : (.methodLink RX5 288 yX5_mixKey : Cond) ∈ wA := wA_5 (List.mem_of_getElem? (i := 205) (by decide +kernel)) rfl
theorem q1035 : (.instanceMethod yX5_mixKey : Cond) ∈ wA := wA_5 (List.mem_of_getElem? (i := 207) (by decide +kernel)) rfl
theorem q1036 : (.code yX5_mixKey cX5_mixKey 3 none : Cond) ∈ wA := wA_5 (List.mem_of_getElem? (i := 208) (by decide +kernel)) rfl
theorem q1037 : (.methodLink RX5 291 yX5_bitsOf : Cond) ∈ wA := wA_5 (List.mem_of_getElem? (i := 209) (by decide +kernel)) rfl
theorem q1038 : (.static yX5_bitsOf : Cond) ∈ wA := wA_5 (List.mem_of_getElem? (i := 210) (by decide +kernel)) rfl
theorem q1039 : (.code yX5_bitsOf cX5_bitsOf 6 (some .long) : Cond) ∈ wA := wA_5 (List.mem_of_getElem? (i := 211) (by decide +kernel)) rfl
theorem q1040 : (.constantLong RX5 265 (1023) : Cond) ∈ wA := wA_5 (List.mem_of_getElem? (i := 212) (by decide +kernel)) rfl
theorem q1041 : (.constantDouble RX5 267 (4611686018427387904) : Cond) ∈ wA := wA_5 (List.mem_of_getElem? (i := 213) (by decide +kernel)) rfl
theorem q1042 : (.constantDouble RX5 269 (4841369599423283200) : Cond) ∈ wA := wA_5 (List.mem_of_getElem? (i := 214) (by decide +kernel)) rfl
theorem q1043 : (.constantLong RX5 271 (4503599627370496) : Cond) ∈ wA := wA_5 (List.mem_of_getElem? (i := 215) (by decide +kernel)) rfl
theorem q1044 : (.arrayClass .long : Cond) ∈ wA := wA_5 (List.mem_of_getElem? (i := 216) (by decide +kernel)) rfl
theorem q1045 : (.fieldLink RJ0 9 "java/lang/String" "value" "[B" : Cond) ∈ wA := wA_5 (List.mem_of_getElem? (i := 218) (by decide +kernel)) rfl
theorem q1046 : (.fieldLink RJ0 15 "java/lang/String" "coder" "B" : Cond) ∈ wA := wA_5 (List.mem_of_getElem? (i := 219) (by decide +kernel)) rfl
theorem iaX1 : ∀ w ∈ wsX10, w ∈ wA := by decide +kernel
theorem iaX2 : ∀ w ∈ wsX20, w ∈ wA := by decide +kernel
theorem iaX3 : ∀ w ∈ wsX30, w ∈ wA := by decide +kernel
theorem iaX4 : ∀ w ∈ wsX40, w ∈ wA := by decide +kernel
theorem iaX5 : ∀ w ∈ wsX50, w ∈ wA := by decide +kernel
