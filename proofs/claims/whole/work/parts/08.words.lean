def o_WS : List Cond := lw_tbl.filter goodWord
theorem o_mem {w : Cond} (h : w ∈ lw_tbl) (hg : goodWord w = true) : w ∈ o_WS := List.mem_filter.mpr ⟨h, hg⟩
theorem se_X0_enter : Cond.selects RX0 yX0_enter yX0_enter ∈ o_WS := o_mem (List.mem_of_getElem? (i := 0) (by decide +kernel)) rfl
theorem se_X1_beginLine : Cond.selects RX1 yX1_beginLine yX1_beginLine ∈ o_WS := o_mem (List.mem_of_getElem? (i := 1) (by decide +kernel)) rfl
theorem se_X1_takeToken : Cond.selects RX1 yX1_takeToken yX1_takeToken ∈ o_WS := o_mem (List.mem_of_getElem? (i := 2) (by decide +kernel)) rfl
theorem se_X1_endOfRun : Cond.selects RX1 yX1_endOfRun yX1_endOfRun ∈ o_WS := o_mem (List.mem_of_getElem? (i := 3) (by decide +kernel)) rfl
theorem se_X1_takeOtherByte : Cond.selects RX1 yX1_takeOtherByte yX1_takeOtherByte ∈ o_WS := o_mem (List.mem_of_getElem? (i := 4) (by decide +kernel)) rfl
theorem se_X0_innermost : Cond.selects RX0 yX0_innermost yX0_innermost ∈ o_WS := o_mem (List.mem_of_getElem? (i := 5) (by decide +kernel)) rfl
theorem se_X0_placeInGroup : Cond.selects RX0 yX0_placeInGroup yX0_placeInGroup ∈ o_WS := o_mem (List.mem_of_getElem? (i := 6) (by decide +kernel)) rfl
theorem se_X0_addWord : Cond.selects RX0 yX0_addWord yX0_addWord ∈ o_WS := o_mem (List.mem_of_getElem? (i := 7) (by decide +kernel)) rfl
theorem se_X0_addPart : Cond.selects RX0 yX0_addPart yX0_addPart ∈ o_WS := o_mem (List.mem_of_getElem? (i := 8) (by decide +kernel)) rfl
theorem se_X5_set : Cond.selects RX5 yX5_set yX5_set ∈ o_WS := o_mem (List.mem_of_getElem? (i := 9) (by decide +kernel)) rfl
theorem se_X0_openGroup : Cond.selects RX0 yX0_openGroup yX0_openGroup ∈ o_WS := o_mem (List.mem_of_getElem? (i := 10) (by decide +kernel)) rfl
theorem se_X0_isDeep : Cond.selects RX0 yX0_isDeep yX0_isDeep ∈ o_WS := o_mem (List.mem_of_getElem? (i := 11) (by decide +kernel)) rfl
theorem se_X0_report : Cond.selects RX0 yX0_report yX0_report ∈ o_WS := o_mem (List.mem_of_getElem? (i := 12) (by decide +kernel)) rfl
theorem se_X0_close : Cond.selects RX0 yX0_close yX0_close ∈ o_WS := o_mem (List.mem_of_getElem? (i := 13) (by decide +kernel)) rfl
theorem se_X0_beginsBlock : Cond.selects RX0 yX0_beginsBlock yX0_beginsBlock ∈ o_WS := o_mem (List.mem_of_getElem? (i := 14) (by decide +kernel)) rfl
theorem se_X0_alignToColumn : Cond.selects RX0 yX0_alignToColumn yX0_alignToColumn ∈ o_WS := o_mem (List.mem_of_getElem? (i := 15) (by decide +kernel)) rfl
theorem se_X0_endItem : Cond.selects RX0 yX0_endItem yX0_endItem ∈ o_WS := o_mem (List.mem_of_getElem? (i := 16) (by decide +kernel)) rfl
theorem se_X0_placeInBlock : Cond.selects RX0 yX0_placeInBlock yX0_placeInBlock ∈ o_WS := o_mem (List.mem_of_getElem? (i := 17) (by decide +kernel)) rfl
theorem se_X0_takeColon : Cond.selects RX0 yX0_takeColon yX0_takeColon ∈ o_WS := o_mem (List.mem_of_getElem? (i := 18) (by decide +kernel)) rfl
theorem se_X0_closeBraces : Cond.selects RX0 yX0_closeBraces yX0_closeBraces ∈ o_WS := o_mem (List.mem_of_getElem? (i := 19) (by decide +kernel)) rfl
theorem se_X6_unpack : Cond.selects RX6 yX6_unpack yX6_unpack ∈ o_WS := o_mem (List.mem_of_getElem? (i := 20) (by decide +kernel)) rfl
theorem se_X5_isSpelled : Cond.selects RX5 yX5_isSpelled yX5_isSpelled ∈ o_WS := o_mem (List.mem_of_getElem? (i := 21) (by decide +kernel)) rfl
theorem se_X5_isNewWord : Cond.selects RX5 yX5_isNewWord yX5_isNewWord ∈ o_WS := o_mem (List.mem_of_getElem? (i := 22) (by decide +kernel)) rfl
theorem se_X5_areSame : Cond.selects RX5 yX5_areSame yX5_areSame ∈ o_WS := o_mem (List.mem_of_getElem? (i := 23) (by decide +kernel)) rfl
theorem se_X2_printLines : Cond.selects RX2 yX2_printLines yX2_printLines ∈ o_WS := o_mem (List.mem_of_getElem? (i := 24) (by decide +kernel)) rfl
theorem se_X2_printLinesOfItem : Cond.selects RX2 yX2_printLinesOfItem yX2_printLinesOfItem ∈ o_WS := o_mem (List.mem_of_getElem? (i := 25) (by decide +kernel)) rfl
theorem se_X2_printParts : Cond.selects RX2 yX2_printParts yX2_printParts ∈ o_WS := o_mem (List.mem_of_getElem? (i := 26) (by decide +kernel)) rfl
theorem se_X2_printPart : Cond.selects RX2 yX2_printPart yX2_printPart ∈ o_WS := o_mem (List.mem_of_getElem? (i := 27) (by decide +kernel)) rfl
theorem se_X2_printWord : Cond.selects RX2 yX2_printWord yX2_printWord ∈ o_WS := o_mem (List.mem_of_getElem? (i := 28) (by decide +kernel)) rfl
theorem se_X2_printNumber : Cond.selects RX2 yX2_printNumber yX2_printNumber ∈ o_WS := o_mem (List.mem_of_getElem? (i := 29) (by decide +kernel)) rfl
theorem se_X2_printBraces : Cond.selects RX2 yX2_printBraces yX2_printBraces ∈ o_WS := o_mem (List.mem_of_getElem? (i := 30) (by decide +kernel)) rfl
theorem se_X6_checkNode : Cond.selects RX6 yX6_checkNode yX6_checkNode ∈ o_WS := o_mem (List.mem_of_getElem? (i := 32) (by decide +kernel)) rfl
theorem se_X4_reverse : Cond.selects RX4 yX4_reverse yX4_reverse ∈ o_WS := o_mem (List.mem_of_getElem? (i := 33) (by decide +kernel)) rfl
theorem se_X7_begin : Cond.selects RX7 yX7_begin yX7_begin ∈ o_WS := o_mem (List.mem_of_getElem? (i := 34) (by decide +kernel)) rfl
theorem se_X7_add : Cond.selects RX7 yX7_add yX7_add ∈ o_WS := o_mem (List.mem_of_getElem? (i := 35) (by decide +kernel)) rfl
theorem se_X7_countOf : Cond.selects RX7 yX7_countOf yX7_countOf ∈ o_WS := o_mem (List.mem_of_getElem? (i := 36) (by decide +kernel)) rfl
theorem se_X7_insert : Cond.selects RX7 yX7_insert yX7_insert ∈ o_WS := o_mem (List.mem_of_getElem? (i := 37) (by decide +kernel)) rfl
theorem se_X7_childOf : Cond.selects RX7 yX7_childOf yX7_childOf ∈ o_WS := o_mem (List.mem_of_getElem? (i := 38) (by decide +kernel)) rfl
theorem se_X7_number : Cond.selects RX7 yX7_number yX7_number ∈ o_WS := o_mem (List.mem_of_getElem? (i := 39) (by decide +kernel)) rfl
theorem se_X7_following : Cond.selects RX7 yX7_following yX7_following ∈ o_WS := o_mem (List.mem_of_getElem? (i := 40) (by decide +kernel)) rfl
theorem se_X7_take : Cond.selects RX7 yX7_take yX7_take ∈ o_WS := o_mem (List.mem_of_getElem? (i := 41) (by decide +kernel)) rfl
theorem se_X7_fail : Cond.selects RX7 yX7_fail yX7_fail ∈ o_WS := o_mem (List.mem_of_getElem? (i := 42) (by decide +kernel)) rfl
theorem se_X7_push : Cond.selects RX7 yX7_push yX7_push ∈ o_WS := o_mem (List.mem_of_getElem? (i := 43) (by decide +kernel)) rfl
theorem se_X7_accept : Cond.selects RX7 yX7_accept yX7_accept ∈ o_WS := o_mem (List.mem_of_getElem? (i := 44) (by decide +kernel)) rfl
theorem se_X7_isGroupOpen : Cond.selects RX7 yX7_isGroupOpen yX7_isGroupOpen ∈ o_WS := o_mem (List.mem_of_getElem? (i := 45) (by decide +kernel)) rfl
theorem se_X7_top : Cond.selects RX7 yX7_top yX7_top ∈ o_WS := o_mem (List.mem_of_getElem? (i := 46) (by decide +kernel)) rfl
theorem se_X7_isPart : Cond.selects RX7 yX7_isPart yX7_isPart ∈ o_WS := o_mem (List.mem_of_getElem? (i := 47) (by decide +kernel)) rfl
theorem se_X7_addPart : Cond.selects RX7 yX7_addPart yX7_addPart ∈ o_WS := o_mem (List.mem_of_getElem? (i := 48) (by decide +kernel)) rfl
theorem se_X7_repair : Cond.selects RX7 yX7_repair yX7_repair ∈ o_WS := o_mem (List.mem_of_getElem? (i := 49) (by decide +kernel)) rfl
theorem se_X7_align : Cond.selects RX7 yX7_align yX7_align ∈ o_WS := o_mem (List.mem_of_getElem? (i := 50) (by decide +kernel)) rfl
theorem se_X7_act : Cond.selects RX7 yX7_act yX7_act ∈ o_WS := o_mem (List.mem_of_getElem? (i := 51) (by decide +kernel)) rfl
theorem se_X7_addToItem : Cond.selects RX7 yX7_addToItem yX7_addToItem ∈ o_WS := o_mem (List.mem_of_getElem? (i := 52) (by decide +kernel)) rfl
theorem se_X7_close : Cond.selects RX7 yX7_close yX7_close ∈ o_WS := o_mem (List.mem_of_getElem? (i := 53) (by decide +kernel)) rfl
theorem se_X7_isNode : Cond.selects RX7 yX7_isNode yX7_isNode ∈ o_WS := o_mem (List.mem_of_getElem? (i := 54) (by decide +kernel)) rfl
theorem se_X7_depthOf : Cond.selects RX7 yX7_depthOf yX7_depthOf ∈ o_WS := o_mem (List.mem_of_getElem? (i := 55) (by decide +kernel)) rfl
theorem se_X7_isFed : Cond.selects RX7 yX7_isFed yX7_isFed ∈ o_WS := o_mem (List.mem_of_getElem? (i := 56) (by decide +kernel)) rfl
theorem se_X7_words : Cond.selects RX7 yX7_words yX7_words ∈ o_WS := o_mem (List.mem_of_getElem? (i := 57) (by decide +kernel)) rfl
theorem se_X7_areSame : Cond.selects RX7 yX7_areSame yX7_areSame ∈ o_WS := o_mem (List.mem_of_getElem? (i := 58) (by decide +kernel)) rfl
theorem se_X7_isItem : Cond.selects RX7 yX7_isItem yX7_isItem ∈ o_WS := o_mem (List.mem_of_getElem? (i := 59) (by decide +kernel)) rfl
theorem se_X7_takeOut : Cond.selects RX7 yX7_takeOut yX7_takeOut ∈ o_WS := o_mem (List.mem_of_getElem? (i := 60) (by decide +kernel)) rfl
theorem se_X7_isWithin : Cond.selects RX7 yX7_isWithin yX7_isWithin ∈ o_WS := o_mem (List.mem_of_getElem? (i := 61) (by decide +kernel)) rfl
theorem se_X7_heightOf : Cond.selects RX7 yX7_heightOf yX7_heightOf ∈ o_WS := o_mem (List.mem_of_getElem? (i := 62) (by decide +kernel)) rfl
theorem se_X7_putLine : Cond.selects RX7 yX7_putLine yX7_putLine ∈ o_WS := o_mem (List.mem_of_getElem? (i := 63) (by decide +kernel)) rfl
theorem se_X7_put : Cond.selects RX7 yX7_put yX7_put ∈ o_WS := o_mem (List.mem_of_getElem? (i := 64) (by decide +kernel)) rfl
theorem se_X7_lastOf : Cond.selects RX7 yX7_lastOf yX7_lastOf ∈ o_WS := o_mem (List.mem_of_getElem? (i := 65) (by decide +kernel)) rfl
theorem se_X7_putAll : Cond.selects RX7 yX7_putAll yX7_putAll ∈ o_WS := o_mem (List.mem_of_getElem? (i := 66) (by decide +kernel)) rfl
theorem se_X7_putNode : Cond.selects RX7 yX7_putNode yX7_putNode ∈ o_WS := o_mem (List.mem_of_getElem? (i := 67) (by decide +kernel)) rfl
theorem se_X7_putNumber : Cond.selects RX7 yX7_putNumber yX7_putNumber ∈ o_WS := o_mem (List.mem_of_getElem? (i := 68) (by decide +kernel)) rfl
theorem in_L : Cond.initialized RL ∈ o_WS := o_mem (List.mem_of_getElem? (i := 69) (by decide +kernel)) rfl
theorem in_X6 : Cond.initialized RX6 ∈ o_WS := o_mem (List.mem_of_getElem? (i := 70) (by decide +kernel)) rfl
theorem in_X4 : Cond.initialized RX4 ∈ o_WS := o_mem (List.mem_of_getElem? (i := 71) (by decide +kernel)) rfl
theorem in_X3 : Cond.initialized RX3 ∈ o_WS := o_mem (List.mem_of_getElem? (i := 72) (by decide +kernel)) rfl
theorem in_X5 : Cond.initialized RX5 ∈ o_WS := o_mem (List.mem_of_getElem? (i := 73) (by decide +kernel)) rfl
theorem in_X1 : Cond.initialized RX1 ∈ o_WS := o_mem (List.mem_of_getElem? (i := 74) (by decide +kernel)) rfl
theorem in_X0 : Cond.initialized RX0 ∈ o_WS := o_mem (List.mem_of_getElem? (i := 75) (by decide +kernel)) rfl
theorem in_X2 : Cond.initialized RX2 ∈ o_WS := o_mem (List.mem_of_getElem? (i := 76) (by decide +kernel)) rfl
theorem in_J7 : Cond.initialized RJ7 ∈ o_WS := o_mem (List.mem_of_getElem? (i := 77) (by decide +kernel)) rfl
theorem in_J9 : Cond.initialized RJ9 ∈ o_WS := o_mem (List.mem_of_getElem? (i := 78) (by decide +kernel)) rfl
theorem in_J10 : Cond.initialized RJ10 ∈ o_WS := o_mem (List.mem_of_getElem? (i := 79) (by decide +kernel)) rfl
theorem in_X7 : Cond.initialized RX7 ∈ o_WS := o_mem (List.mem_of_getElem? (i := 80) (by decide +kernel)) rfl
theorem in_Throwable : Cond.initialized "java/lang/Throwable" ∈ o_WS := o_mem (List.mem_of_getElem? (i := 81) (by decide +kernel)) rfl
theorem in_Exception : Cond.initialized "java/lang/Exception" ∈ o_WS := o_mem (List.mem_of_getElem? (i := 82) (by decide +kernel)) rfl
theorem in_RuntimeException : Cond.initialized "java/lang/RuntimeException" ∈ o_WS := o_mem (List.mem_of_getElem? (i := 83) (by decide +kernel)) rfl
theorem in_IllegalArgumentException : Cond.initialized "java/lang/IllegalArgumentException" ∈ o_WS := o_mem (List.mem_of_getElem? (i := 84) (by decide +kernel)) rfl
theorem in_IllegalStateException : Cond.initialized "java/lang/IllegalStateException" ∈ o_WS := o_mem (List.mem_of_getElem? (i := 85) (by decide +kernel)) rfl
theorem in_IndexOutOfBoundsException : Cond.initialized "java/lang/IndexOutOfBoundsException" ∈ o_WS := o_mem (List.mem_of_getElem? (i := 86) (by decide +kernel)) rfl
theorem kl_L_8 : Cond.classLink RL 8 "OffsideParser" ∈ o_WS := o_mem (List.mem_of_getElem? (i := 87) (by decide +kernel)) rfl
theorem ib_X6 : Cond.instantiable RX6 7 ∈ o_WS := o_mem (List.mem_of_getElem? (i := 88) (by decide +kernel)) rfl
theorem ml_L_68 : Cond.methodLink RL 68 yX6_init ∈ o_WS := o_mem (List.mem_of_getElem? (i := 89) (by decide +kernel)) rfl
theorem im_X6_init : Cond.instanceMethod yX6_init ∈ o_WS := o_mem (List.mem_of_getElem? (i := 90) (by decide +kernel)) rfl
theorem co_X6_init : Cond.code yX6_init cX6_init 1 (Option.none : Option Jvm.ClassFile.FieldType) ∈ o_WS := o_mem (List.mem_of_getElem? (i := 91) (by decide +kernel)) rfl
theorem ml_X6_1 : Cond.methodLink RX6 1 ⟨"java/lang/Object", "<init>", "()V"⟩ ∈ o_WS := o_mem (List.mem_of_getElem? (i := 92) (by decide +kernel)) rfl
theorem kl_X6_7 : Cond.classLink RX6 7 "OffsideParser$Row" ∈ o_WS := o_mem (List.mem_of_getElem? (i := 95) (by decide +kernel)) rfl
theorem ib_X4 : Cond.instantiable RX4 2 ∈ o_WS := o_mem (List.mem_of_getElem? (i := 96) (by decide +kernel)) rfl
theorem im_X4_init : Cond.instanceMethod yX4_init ∈ o_WS := o_mem (List.mem_of_getElem? (i := 98) (by decide +kernel)) rfl
theorem co_X4_init : Cond.code yX4_init cX4_init 1 (Option.none : Option Jvm.ClassFile.FieldType) ∈ o_WS := o_mem (List.mem_of_getElem? (i := 99) (by decide +kernel)) rfl
theorem ml_X4_3 : Cond.methodLink RX4 3 ⟨"java/lang/Object", "<init>", "()V"⟩ ∈ o_WS := o_mem (List.mem_of_getElem? (i := 100) (by decide +kernel)) rfl
theorem fl_X4_11 : Cond.fieldLink RX4 11 "OffsideParser$Row" "cells" "[I" ∈ o_WS := o_mem (List.mem_of_getElem? (i := 101) (by decide +kernel)) rfl
theorem fl_X4_15 : Cond.fieldLink RX4 15 "OffsideParser$Row" "count" "I" ∈ o_WS := o_mem (List.mem_of_getElem? (i := 102) (by decide +kernel)) rfl
theorem kl_X6_19 : Cond.classLink RX6 19 "OffsideParser$Repairs" ∈ o_WS := o_mem (List.mem_of_getElem? (i := 109) (by decide +kernel)) rfl
theorem ib_X3 : Cond.instantiable RX3 2 ∈ o_WS := o_mem (List.mem_of_getElem? (i := 110) (by decide +kernel)) rfl
theorem im_X3_init : Cond.instanceMethod yX3_init ∈ o_WS := o_mem (List.mem_of_getElem? (i := 112) (by decide +kernel)) rfl
theorem co_X3_init : Cond.code yX3_init cX3_init 1 (Option.none : Option Jvm.ClassFile.FieldType) ∈ o_WS := o_mem (List.mem_of_getElem? (i := 113) (by decide +kernel)) rfl
theorem ml_X3_1 : Cond.methodLink RX3 1 ⟨"java/lang/Object", "<init>", "()V"⟩ ∈ o_WS := o_mem (List.mem_of_getElem? (i := 114) (by decide +kernel)) rfl
theorem kl_X3_7 : Cond.classLink RX3 7 "OffsideParser$Row" ∈ o_WS := o_mem (List.mem_of_getElem? (i := 115) (by decide +kernel)) rfl
theorem fl_X3_10 : Cond.fieldLink RX3 10 "OffsideParser$Repairs" "cells" "LOffsideParser$Row;" ∈ o_WS := o_mem (List.mem_of_getElem? (i := 117) (by decide +kernel)) rfl
theorem fl_X3_16 : Cond.fieldLink RX3 16 "OffsideParser$Repairs" "count" "I" ∈ o_WS := o_mem (List.mem_of_getElem? (i := 118) (by decide +kernel)) rfl
theorem kl_X6_26 : Cond.classLink RX6 26 "OffsideParser$Tree" ∈ o_WS := o_mem (List.mem_of_getElem? (i := 124) (by decide +kernel)) rfl
theorem ib_X5 : Cond.instantiable RX5 3 ∈ o_WS := o_mem (List.mem_of_getElem? (i := 125) (by decide +kernel)) rfl
theorem im_X5_init : Cond.instanceMethod yX5_init ∈ o_WS := o_mem (List.mem_of_getElem? (i := 127) (by decide +kernel)) rfl
theorem co_X5_init : Cond.code yX5_init cX5_init 1 (Option.none : Option Jvm.ClassFile.FieldType) ∈ o_WS := o_mem (List.mem_of_getElem? (i := 128) (by decide +kernel)) rfl
theorem ml_X5_3 : Cond.methodLink RX5 3 ⟨"java/lang/Object", "<init>", "()V"⟩ ∈ o_WS := o_mem (List.mem_of_getElem? (i := 129) (by decide +kernel)) rfl
theorem kl_X5_9 : Cond.classLink RX5 9 "OffsideParser$Row" ∈ o_WS := o_mem (List.mem_of_getElem? (i := 130) (by decide +kernel)) rfl
theorem fl_X5_12 : Cond.fieldLink RX5 12 "OffsideParser$Tree" "cells" "LOffsideParser$Row;" ∈ o_WS := o_mem (List.mem_of_getElem? (i := 132) (by decide +kernel)) rfl
theorem fl_X5_18 : Cond.fieldLink RX5 18 "OffsideParser$Tree" "letters" "LOffsideParser$Row;" ∈ o_WS := o_mem (List.mem_of_getElem? (i := 133) (by decide +kernel)) rfl
theorem fl_X5_21 : Cond.fieldLink RX5 21 "OffsideParser$Tree" "count" "I" ∈ o_WS := o_mem (List.mem_of_getElem? (i := 134) (by decide +kernel)) rfl
theorem kl_X6_33 : Cond.classLink RX6 33 "OffsideParser$Lexer" ∈ o_WS := o_mem (List.mem_of_getElem? (i := 142) (by decide +kernel)) rfl
theorem ib_X1 : Cond.instantiable RX1 13 ∈ o_WS := o_mem (List.mem_of_getElem? (i := 143) (by decide +kernel)) rfl
theorem ml_X6_35 : Cond.methodLink RX6 35 yX1_init ∈ o_WS := o_mem (List.mem_of_getElem? (i := 144) (by decide +kernel)) rfl
theorem im_X1_init : Cond.instanceMethod yX1_init ∈ o_WS := o_mem (List.mem_of_getElem? (i := 145) (by decide +kernel)) rfl
theorem co_X1_init : Cond.code yX1_init cX1_init 3 (Option.none : Option Jvm.ClassFile.FieldType) ∈ o_WS := o_mem (List.mem_of_getElem? (i := 146) (by decide +kernel)) rfl
theorem ml_X1_3 : Cond.methodLink RX1 3 ⟨"java/lang/Object", "<init>", "()V"⟩ ∈ o_WS := o_mem (List.mem_of_getElem? (i := 147) (by decide +kernel)) rfl
theorem fl_X1_46 : Cond.fieldLink RX1 46 "OffsideParser$Lexer" "text" "LOffsideParser$Row;" ∈ o_WS := o_mem (List.mem_of_getElem? (i := 148) (by decide +kernel)) rfl
theorem fl_X1_50 : Cond.fieldLink RX1 50 "OffsideParser$Lexer" "repairs" "LOffsideParser$Repairs;" ∈ o_WS := o_mem (List.mem_of_getElem? (i := 149) (by decide +kernel)) rfl
theorem fl_X1_9 : Cond.fieldLink RX1 9 "OffsideParser$Lexer" "position" "I" ∈ o_WS := o_mem (List.mem_of_getElem? (i := 150) (by decide +kernel)) rfl
theorem fl_X1_15 : Cond.fieldLink RX1 15 "OffsideParser$Lexer" "lineNumber" "I" ∈ o_WS := o_mem (List.mem_of_getElem? (i := 152) (by decide +kernel)) rfl
theorem fl_X1_18 : Cond.fieldLink RX1 18 "OffsideParser$Lexer" "lineStart" "I" ∈ o_WS := o_mem (List.mem_of_getElem? (i := 153) (by decide +kernel)) rfl
theorem fl_X1_21 : Cond.fieldLink RX1 21 "OffsideParser$Lexer" "inComment" "Z" ∈ o_WS := o_mem (List.mem_of_getElem? (i := 154) (by decide +kernel)) rfl
theorem fl_X1_25 : Cond.fieldLink RX1 25 "OffsideParser$Lexer" "joinsNextLine" "Z" ∈ o_WS := o_mem (List.mem_of_getElem? (i := 155) (by decide +kernel)) rfl
theorem fl_X1_28 : Cond.fieldLink RX1 28 "OffsideParser$Lexer" "firstIsGone" "Z" ∈ o_WS := o_mem (List.mem_of_getElem? (i := 156) (by decide +kernel)) rfl
theorem fl_X1_31 : Cond.fieldLink RX1 31 "OffsideParser$Lexer" "token" "I" ∈ o_WS := o_mem (List.mem_of_getElem? (i := 157) (by decide +kernel)) rfl
theorem fl_X1_34 : Cond.fieldLink RX1 34 "OffsideParser$Lexer" "start" "I" ∈ o_WS := o_mem (List.mem_of_getElem? (i := 159) (by decide +kernel)) rfl
theorem fl_X1_37 : Cond.fieldLink RX1 37 "OffsideParser$Lexer" "atLine" "I" ∈ o_WS := o_mem (List.mem_of_getElem? (i := 161) (by decide +kernel)) rfl
theorem fl_X1_40 : Cond.fieldLink RX1 40 "OffsideParser$Lexer" "atColumn" "I" ∈ o_WS := o_mem (List.mem_of_getElem? (i := 163) (by decide +kernel)) rfl
theorem fl_X1_43 : Cond.fieldLink RX1 43 "OffsideParser$Lexer" "isFirst" "Z" ∈ o_WS := o_mem (List.mem_of_getElem? (i := 165) (by decide +kernel)) rfl
theorem kl_X6_42 : Cond.classLink RX6 42 "OffsideParser$Builder" ∈ o_WS := o_mem (List.mem_of_getElem? (i := 194) (by decide +kernel)) rfl
theorem ib_X0 : Cond.instantiable RX0 9 ∈ o_WS := o_mem (List.mem_of_getElem? (i := 195) (by decide +kernel)) rfl
theorem ml_X6_44 : Cond.methodLink RX6 44 yX0_init ∈ o_WS := o_mem (List.mem_of_getElem? (i := 196) (by decide +kernel)) rfl
theorem im_X0_init : Cond.instanceMethod yX0_init ∈ o_WS := o_mem (List.mem_of_getElem? (i := 197) (by decide +kernel)) rfl
theorem co_X0_init : Cond.code yX0_init cX0_init 5 (Option.none : Option Jvm.ClassFile.FieldType) ∈ o_WS := o_mem (List.mem_of_getElem? (i := 198) (by decide +kernel)) rfl
theorem ml_X0_3 : Cond.methodLink RX0 3 ⟨"java/lang/Object", "<init>", "()V"⟩ ∈ o_WS := o_mem (List.mem_of_getElem? (i := 199) (by decide +kernel)) rfl
theorem kl_X0_9 : Cond.classLink RX0 9 "OffsideParser$Row" ∈ o_WS := o_mem (List.mem_of_getElem? (i := 200) (by decide +kernel)) rfl
theorem fl_X0_31 : Cond.fieldLink RX0 31 "OffsideParser$Builder" "text" "LOffsideParser$Row;" ∈ o_WS := o_mem (List.mem_of_getElem? (i := 202) (by decide +kernel)) rfl
theorem fl_X0_34 : Cond.fieldLink RX0 34 "OffsideParser$Builder" "lexer" "LOffsideParser$Lexer;" ∈ o_WS := o_mem (List.mem_of_getElem? (i := 203) (by decide +kernel)) rfl
theorem fl_X0_38 : Cond.fieldLink RX0 38 "OffsideParser$Builder" "tree" "LOffsideParser$Tree;" ∈ o_WS := o_mem (List.mem_of_getElem? (i := 204) (by decide +kernel)) rfl
theorem fl_X0_42 : Cond.fieldLink RX0 42 "OffsideParser$Builder" "repairs" "LOffsideParser$Repairs;" ∈ o_WS := o_mem (List.mem_of_getElem? (i := 205) (by decide +kernel)) rfl
theorem fl_X0_12 : Cond.fieldLink RX0 12 "OffsideParser$Builder" "openNodes" "LOffsideParser$Row;" ∈ o_WS := o_mem (List.mem_of_getElem? (i := 206) (by decide +kernel)) rfl
theorem fl_X0_18 : Cond.fieldLink RX0 18 "OffsideParser$Builder" "openColumns" "LOffsideParser$Row;" ∈ o_WS := o_mem (List.mem_of_getElem? (i := 207) (by decide +kernel)) rfl
theorem fl_X0_21 : Cond.fieldLink RX0 21 "OffsideParser$Builder" "currentItems" "LOffsideParser$Row;" ∈ o_WS := o_mem (List.mem_of_getElem? (i := 208) (by decide +kernel)) rfl
theorem fl_X0_24 : Cond.fieldLink RX0 24 "OffsideParser$Builder" "hasBegun" "Z" ∈ o_WS := o_mem (List.mem_of_getElem? (i := 209) (by decide +kernel)) rfl
theorem fl_X0_28 : Cond.fieldLink RX0 28 "OffsideParser$Builder" "colonBefore" "Z" ∈ o_WS := o_mem (List.mem_of_getElem? (i := 210) (by decide +kernel)) rfl
theorem kl_X6_51 : Cond.classLink RX6 51 "OffsideParser$Printer" ∈ o_WS := o_mem (List.mem_of_getElem? (i := 230) (by decide +kernel)) rfl
theorem ib_X2 : Cond.instantiable RX2 2 ∈ o_WS := o_mem (List.mem_of_getElem? (i := 231) (by decide +kernel)) rfl
theorem ml_X6_53 : Cond.methodLink RX6 53 yX2_init ∈ o_WS := o_mem (List.mem_of_getElem? (i := 232) (by decide +kernel)) rfl
theorem im_X2_init : Cond.instanceMethod yX2_init ∈ o_WS := o_mem (List.mem_of_getElem? (i := 233) (by decide +kernel)) rfl
theorem co_X2_init : Cond.code yX2_init cX2_init 2 (Option.none : Option Jvm.ClassFile.FieldType) ∈ o_WS := o_mem (List.mem_of_getElem? (i := 234) (by decide +kernel)) rfl
theorem ml_X2_3 : Cond.methodLink RX2 3 ⟨"java/lang/Object", "<init>", "()V"⟩ ∈ o_WS := o_mem (List.mem_of_getElem? (i := 235) (by decide +kernel)) rfl
theorem kl_X2_9 : Cond.classLink RX2 9 "OffsideParser$Row" ∈ o_WS := o_mem (List.mem_of_getElem? (i := 236) (by decide +kernel)) rfl
theorem fl_X2_18 : Cond.fieldLink RX2 18 "OffsideParser$Printer" "tree" "LOffsideParser$Tree;" ∈ o_WS := o_mem (List.mem_of_getElem? (i := 238) (by decide +kernel)) rfl
theorem fl_X2_12 : Cond.fieldLink RX2 12 "OffsideParser$Printer" "out" "LOffsideParser$Row;" ∈ o_WS := o_mem (List.mem_of_getElem? (i := 239) (by decide +kernel)) rfl
theorem ml_X6_60 : Cond.methodLink RX6 60 yX5_startAgain ∈ o_WS := o_mem (List.mem_of_getElem? (i := 245) (by decide +kernel)) rfl
theorem im_X5_startAgain : Cond.instanceMethod yX5_startAgain ∈ o_WS := o_mem (List.mem_of_getElem? (i := 246) (by decide +kernel)) rfl
theorem se_X5_startAgain : Cond.selects RX5 yX5_startAgain yX5_startAgain ∈ o_WS := o_mem (List.mem_of_getElem? (i := 247) (by decide +kernel)) rfl
theorem co_X5_startAgain : Cond.code yX5_startAgain cX5_startAgain 1 (Option.none : Option Jvm.ClassFile.FieldType) ∈ o_WS := o_mem (List.mem_of_getElem? (i := 248) (by decide +kernel)) rfl
theorem ml_X5_25 : Cond.methodLink RX5 25 yX4_cut ∈ o_WS := o_mem (List.mem_of_getElem? (i := 249) (by decide +kernel)) rfl
theorem im_X4_cut : Cond.instanceMethod yX4_cut ∈ o_WS := o_mem (List.mem_of_getElem? (i := 250) (by decide +kernel)) rfl
theorem se_X4_cut : Cond.selects RX4 yX4_cut yX4_cut ∈ o_WS := o_mem (List.mem_of_getElem? (i := 251) (by decide +kernel)) rfl
theorem co_X4_cut : Cond.code yX4_cut cX4_cut 2 (Option.none : Option Jvm.ClassFile.FieldType) ∈ o_WS := o_mem (List.mem_of_getElem? (i := 252) (by decide +kernel)) rfl
theorem ml_X5_29 : Cond.methodLink RX5 29 yX5_add ∈ o_WS := o_mem (List.mem_of_getElem? (i := 253) (by decide +kernel)) rfl
theorem im_X5_add : Cond.instanceMethod yX5_add ∈ o_WS := o_mem (List.mem_of_getElem? (i := 254) (by decide +kernel)) rfl
theorem se_X5_add : Cond.selects RX5 yX5_add yX5_add ∈ o_WS := o_mem (List.mem_of_getElem? (i := 255) (by decide +kernel)) rfl
theorem co_X5_add : Cond.code yX5_add cX5_add 7 (Option.some Jvm.ClassFile.FieldType.int) ∈ o_WS := o_mem (List.mem_of_getElem? (i := 256) (by decide +kernel)) rfl
theorem ml_X5_41 : Cond.methodLink RX5 41 yX4_push ∈ o_WS := o_mem (List.mem_of_getElem? (i := 257) (by decide +kernel)) rfl
theorem im_X4_push : Cond.instanceMethod yX4_push ∈ o_WS := o_mem (List.mem_of_getElem? (i := 258) (by decide +kernel)) rfl
theorem se_X4_push : Cond.selects RX4 yX4_push yX4_push ∈ o_WS := o_mem (List.mem_of_getElem? (i := 259) (by decide +kernel)) rfl
theorem co_X4_push : Cond.code yX4_push cX4_push 2 (Option.none : Option Jvm.ClassFile.FieldType) ∈ o_WS := o_mem (List.mem_of_getElem? (i := 260) (by decide +kernel)) rfl
theorem cn_X4_19 : Cond.constant RX4 19 (1048576 : Int32) ∈ o_WS := o_mem (List.mem_of_getElem? (i := 261) (by decide +kernel)) rfl
theorem ml_X4_20 : Cond.methodLink RX4 20 yJ7_copyOf_59c91 ∈ o_WS := o_mem (List.mem_of_getElem? (i := 262) (by decide +kernel)) rfl
theorem sm_J7_copyOf_59c91 : Cond.static yJ7_copyOf_59c91 ∈ o_WS := o_mem (List.mem_of_getElem? (i := 263) (by decide +kernel)) rfl
theorem co_J7_copyOf_59c91 : Cond.code yJ7_copyOf_59c91 cJ7_copyOf_59c91 3 (Option.some (Jvm.ClassFile.FieldType.array Jvm.ClassFile.FieldType.int)) ∈ o_WS := o_mem (List.mem_of_getElem? (i := 264) (by decide +kernel)) rfl
theorem ml_J7_316 : Cond.methodLink RJ7 316 ⟨"[I", "clone", "()Ljava/lang/Object;"⟩ ∈ o_WS := o_mem (List.mem_of_getElem? (i := 265) (by decide +kernel)) rfl
theorem kl_J7_317 : Cond.classLink RJ7 317 "[I" ∈ o_WS := o_mem (List.mem_of_getElem? (i := 271) (by decide +kernel)) rfl
theorem ml_J7_304 : Cond.methodLink RJ7 304 yJ9_min_7cf53 ∈ o_WS := o_mem (List.mem_of_getElem? (i := 272) (by decide +kernel)) rfl
theorem sm_J9_min_7cf53 : Cond.static yJ9_min_7cf53 ∈ o_WS := o_mem (List.mem_of_getElem? (i := 273) (by decide +kernel)) rfl
theorem co_J9_min_7cf53 : Cond.code yJ9_min_7cf53 cJ9_min_7cf53 2 (Option.some Jvm.ClassFile.FieldType.int) ∈ o_WS := o_mem (List.mem_of_getElem? (i := 274) (by decide +kernel)) rfl
theorem ml_J7_150 : Cond.methodLink RJ7 150 ⟨"java/lang/System", "arraycopy", "(Ljava/lang/Object;ILjava/lang/Object;II)V"⟩ ∈ o_WS := o_mem (List.mem_of_getElem? (i := 275) (by decide +kernel)) rfl
theorem ml_X5_44 : Cond.methodLink RX5 44 yX5_get ∈ o_WS := o_mem (List.mem_of_getElem? (i := 278) (by decide +kernel)) rfl
theorem im_X5_get : Cond.instanceMethod yX5_get ∈ o_WS := o_mem (List.mem_of_getElem? (i := 279) (by decide +kernel)) rfl
theorem se_X5_get : Cond.selects RX5 yX5_get yX5_get ∈ o_WS := o_mem (List.mem_of_getElem? (i := 280) (by decide +kernel)) rfl
theorem co_X5_get : Cond.code yX5_get cX5_get 3 (Option.some Jvm.ClassFile.FieldType.int) ∈ o_WS := o_mem (List.mem_of_getElem? (i := 281) (by decide +kernel)) rfl
theorem ml_X5_33 : Cond.methodLink RX5 33 yX4_at ∈ o_WS := o_mem (List.mem_of_getElem? (i := 282) (by decide +kernel)) rfl
theorem im_X4_at : Cond.instanceMethod yX4_at ∈ o_WS := o_mem (List.mem_of_getElem? (i := 283) (by decide +kernel)) rfl
theorem se_X4_at : Cond.selects RX4 yX4_at yX4_at ∈ o_WS := o_mem (List.mem_of_getElem? (i := 284) (by decide +kernel)) rfl
theorem co_X4_at : Cond.code yX4_at cX4_at 2 (Option.some Jvm.ClassFile.FieldType.int) ∈ o_WS := o_mem (List.mem_of_getElem? (i := 285) (by decide +kernel)) rfl
theorem ml_X5_48 : Cond.methodLink RX5 48 yX5_is ∈ o_WS := o_mem (List.mem_of_getElem? (i := 286) (by decide +kernel)) rfl
theorem im_X5_is : Cond.instanceMethod yX5_is ∈ o_WS := o_mem (List.mem_of_getElem? (i := 287) (by decide +kernel)) rfl
theorem se_X5_is : Cond.selects RX5 yX5_is yX5_is ∈ o_WS := o_mem (List.mem_of_getElem? (i := 288) (by decide +kernel)) rfl
theorem co_X5_is : Cond.code yX5_is cX5_is 3 (Option.some Jvm.ClassFile.FieldType.boolean) ∈ o_WS := o_mem (List.mem_of_getElem? (i := 289) (by decide +kernel)) rfl
theorem ml_X5_52 : Cond.methodLink RX5 52 yX4_size ∈ o_WS := o_mem (List.mem_of_getElem? (i := 290) (by decide +kernel)) rfl
theorem im_X4_size : Cond.instanceMethod yX4_size ∈ o_WS := o_mem (List.mem_of_getElem? (i := 291) (by decide +kernel)) rfl
theorem se_X4_size : Cond.selects RX4 yX4_size yX4_size ∈ o_WS := o_mem (List.mem_of_getElem? (i := 292) (by decide +kernel)) rfl
theorem co_X4_size : Cond.code yX4_size cX4_size 1 (Option.some Jvm.ClassFile.FieldType.int) ∈ o_WS := o_mem (List.mem_of_getElem? (i := 293) (by decide +kernel)) rfl
theorem fl_X6_10 : Cond.fieldLink RX6 10 "OffsideParser" "text" "LOffsideParser$Row;" ∈ o_WS := o_mem (List.mem_of_getElem? (i := 294) (by decide +kernel)) rfl
theorem fl_X6_16 : Cond.fieldLink RX6 16 "OffsideParser" "unpacked" "LOffsideParser$Row;" ∈ o_WS := o_mem (List.mem_of_getElem? (i := 295) (by decide +kernel)) rfl
theorem fl_X6_22 : Cond.fieldLink RX6 22 "OffsideParser" "repairs" "LOffsideParser$Repairs;" ∈ o_WS := o_mem (List.mem_of_getElem? (i := 296) (by decide +kernel)) rfl
theorem fl_X6_29 : Cond.fieldLink RX6 29 "OffsideParser" "tree" "LOffsideParser$Tree;" ∈ o_WS := o_mem (List.mem_of_getElem? (i := 297) (by decide +kernel)) rfl
theorem fl_X6_38 : Cond.fieldLink RX6 38 "OffsideParser" "lexer" "LOffsideParser$Lexer;" ∈ o_WS := o_mem (List.mem_of_getElem? (i := 298) (by decide +kernel)) rfl
theorem fl_X6_47 : Cond.fieldLink RX6 47 "OffsideParser" "builder" "LOffsideParser$Builder;" ∈ o_WS := o_mem (List.mem_of_getElem? (i := 299) (by decide +kernel)) rfl
theorem fl_X6_56 : Cond.fieldLink RX6 56 "OffsideParser" "printer" "LOffsideParser$Printer;" ∈ o_WS := o_mem (List.mem_of_getElem? (i := 300) (by decide +kernel)) rfl
theorem ml_L_88 : Cond.methodLink RL 88 yX6_length ∈ o_WS := o_mem (List.mem_of_getElem? (i := 316) (by decide +kernel)) rfl
theorem im_X6_length : Cond.instanceMethod yX6_length ∈ o_WS := o_mem (List.mem_of_getElem? (i := 317) (by decide +kernel)) rfl
theorem se_X6_length : Cond.selects RX6 yX6_length yX6_length ∈ o_WS := o_mem (List.mem_of_getElem? (i := 318) (by decide +kernel)) rfl
theorem co_X6_length : Cond.code yX6_length cX6_length 1 (Option.some Jvm.ClassFile.FieldType.int) ∈ o_WS := o_mem (List.mem_of_getElem? (i := 319) (by decide +kernel)) rfl
theorem ml_X6_67 : Cond.methodLink RX6 67 yX4_size ∈ o_WS := o_mem (List.mem_of_getElem? (i := 320) (by decide +kernel)) rfl
theorem ml_L_92 : Cond.methodLink RL 92 yX6_parse ∈ o_WS := o_mem (List.mem_of_getElem? (i := 321) (by decide +kernel)) rfl
theorem im_X6_parse : Cond.instanceMethod yX6_parse ∈ o_WS := o_mem (List.mem_of_getElem? (i := 322) (by decide +kernel)) rfl
theorem se_X6_parse : Cond.selects RX6 yX6_parse yX6_parse ∈ o_WS := o_mem (List.mem_of_getElem? (i := 323) (by decide +kernel)) rfl
theorem co_X6_parse : Cond.code yX6_parse cX6_parse 2 (Option.some Jvm.ClassFile.FieldType.int) ∈ o_WS := o_mem (List.mem_of_getElem? (i := 324) (by decide +kernel)) rfl
theorem ml_X6_100 : Cond.methodLink RX6 100 yX3_startAgain ∈ o_WS := o_mem (List.mem_of_getElem? (i := 325) (by decide +kernel)) rfl
theorem im_X3_startAgain : Cond.instanceMethod yX3_startAgain ∈ o_WS := o_mem (List.mem_of_getElem? (i := 326) (by decide +kernel)) rfl
theorem se_X3_startAgain : Cond.selects RX3 yX3_startAgain yX3_startAgain ∈ o_WS := o_mem (List.mem_of_getElem? (i := 327) (by decide +kernel)) rfl
theorem co_X3_startAgain : Cond.code yX3_startAgain cX3_startAgain 1 (Option.none : Option Jvm.ClassFile.FieldType) ∈ o_WS := o_mem (List.mem_of_getElem? (i := 328) (by decide +kernel)) rfl
theorem ml_X3_20 : Cond.methodLink RX3 20 yX4_cut ∈ o_WS := o_mem (List.mem_of_getElem? (i := 329) (by decide +kernel)) rfl
theorem ml_X6_101 : Cond.methodLink RX6 101 yX1_startAgain ∈ o_WS := o_mem (List.mem_of_getElem? (i := 330) (by decide +kernel)) rfl
theorem im_X1_startAgain : Cond.instanceMethod yX1_startAgain ∈ o_WS := o_mem (List.mem_of_getElem? (i := 331) (by decide +kernel)) rfl
theorem se_X1_startAgain : Cond.selects RX1 yX1_startAgain yX1_startAgain ∈ o_WS := o_mem (List.mem_of_getElem? (i := 332) (by decide +kernel)) rfl
theorem co_X1_startAgain : Cond.code yX1_startAgain cX1_startAgain 1 (Option.none : Option Jvm.ClassFile.FieldType) ∈ o_WS := o_mem (List.mem_of_getElem? (i := 333) (by decide +kernel)) rfl
theorem ml_X6_102 : Cond.methodLink RX6 102 yX0_startAgain ∈ o_WS := o_mem (List.mem_of_getElem? (i := 334) (by decide +kernel)) rfl
theorem im_X0_startAgain : Cond.instanceMethod yX0_startAgain ∈ o_WS := o_mem (List.mem_of_getElem? (i := 335) (by decide +kernel)) rfl
theorem se_X0_startAgain : Cond.selects RX0 yX0_startAgain yX0_startAgain ∈ o_WS := o_mem (List.mem_of_getElem? (i := 336) (by decide +kernel)) rfl
theorem co_X0_startAgain : Cond.code yX0_startAgain cX0_startAgain 1 (Option.none : Option Jvm.ClassFile.FieldType) ∈ o_WS := o_mem (List.mem_of_getElem? (i := 337) (by decide +kernel)) rfl
theorem ml_X0_46 : Cond.methodLink RX0 46 yX4_cut ∈ o_WS := o_mem (List.mem_of_getElem? (i := 338) (by decide +kernel)) rfl
theorem ml_X0_50 : Cond.methodLink RX0 50 yX0_enter ∈ o_WS := o_mem (List.mem_of_getElem? (i := 339) (by decide +kernel)) rfl
theorem im_X0_enter : Cond.instanceMethod yX0_enter ∈ o_WS := o_mem (List.mem_of_getElem? (i := 341) (by decide +kernel)) rfl
theorem co_X0_enter : Cond.code yX0_enter cX0_enter 3 (Option.none : Option Jvm.ClassFile.FieldType) ∈ o_WS := o_mem (List.mem_of_getElem? (i := 342) (by decide +kernel)) rfl
theorem ml_X0_103 : Cond.methodLink RX0 103 yX4_push ∈ o_WS := o_mem (List.mem_of_getElem? (i := 343) (by decide +kernel)) rfl
theorem ml_X6_103 : Cond.methodLink RX6 103 yX1_readToken ∈ o_WS := o_mem (List.mem_of_getElem? (i := 344) (by decide +kernel)) rfl
theorem im_X1_readToken : Cond.instanceMethod yX1_readToken ∈ o_WS := o_mem (List.mem_of_getElem? (i := 345) (by decide +kernel)) rfl
theorem se_X1_readToken : Cond.selects RX1 yX1_readToken yX1_readToken ∈ o_WS := o_mem (List.mem_of_getElem? (i := 346) (by decide +kernel)) rfl
theorem co_X1_readToken : Cond.code yX1_readToken cX1_readToken 3 (Option.some Jvm.ClassFile.FieldType.boolean) ∈ o_WS := o_mem (List.mem_of_getElem? (i := 347) (by decide +kernel)) rfl
theorem ml_X1_54 : Cond.methodLink RX1 54 yX4_size ∈ o_WS := o_mem (List.mem_of_getElem? (i := 348) (by decide +kernel)) rfl
theorem ml_X1_60 : Cond.methodLink RX1 60 yX4_at ∈ o_WS := o_mem (List.mem_of_getElem? (i := 349) (by decide +kernel)) rfl
theorem ml_X1_64 : Cond.methodLink RX1 64 yX1_beginLine ∈ o_WS := o_mem (List.mem_of_getElem? (i := 350) (by decide +kernel)) rfl
theorem im_X1_beginLine : Cond.instanceMethod yX1_beginLine ∈ o_WS := o_mem (List.mem_of_getElem? (i := 352) (by decide +kernel)) rfl
theorem co_X1_beginLine : Cond.code yX1_beginLine cX1_beginLine 2 (Option.none : Option Jvm.ClassFile.FieldType) ∈ o_WS := o_mem (List.mem_of_getElem? (i := 353) (by decide +kernel)) rfl
theorem ml_X1_68 : Cond.methodLink RX1 68 yX1_startsToken ∈ o_WS := o_mem (List.mem_of_getElem? (i := 354) (by decide +kernel)) rfl
theorem sm_X1_startsToken : Cond.static yX1_startsToken ∈ o_WS := o_mem (List.mem_of_getElem? (i := 355) (by decide +kernel)) rfl
theorem co_X1_startsToken : Cond.code yX1_startsToken cX1_startsToken 1 (Option.some Jvm.ClassFile.FieldType.boolean) ∈ o_WS := o_mem (List.mem_of_getElem? (i := 356) (by decide +kernel)) rfl
theorem sm_X6_isLetter : Cond.static yX6_isLetter ∈ o_WS := o_mem (List.mem_of_getElem? (i := 358) (by decide +kernel)) rfl
theorem co_X6_isLetter : Cond.code yX6_isLetter cX6_isLetter 1 (Option.some Jvm.ClassFile.FieldType.boolean) ∈ o_WS := o_mem (List.mem_of_getElem? (i := 359) (by decide +kernel)) rfl
theorem sm_X6_isDigit : Cond.static yX6_isDigit ∈ o_WS := o_mem (List.mem_of_getElem? (i := 361) (by decide +kernel)) rfl
theorem co_X6_isDigit : Cond.code yX6_isDigit cX6_isDigit 1 (Option.some Jvm.ClassFile.FieldType.boolean) ∈ o_WS := o_mem (List.mem_of_getElem? (i := 362) (by decide +kernel)) rfl
theorem ml_X1_72 : Cond.methodLink RX1 72 yX1_takeToken ∈ o_WS := o_mem (List.mem_of_getElem? (i := 363) (by decide +kernel)) rfl
theorem im_X1_takeToken : Cond.instanceMethod yX1_takeToken ∈ o_WS := o_mem (List.mem_of_getElem? (i := 365) (by decide +kernel)) rfl
theorem co_X1_takeToken : Cond.code yX1_takeToken cX1_takeToken 3 (Option.none : Option Jvm.ClassFile.FieldType) ∈ o_WS := o_mem (List.mem_of_getElem? (i := 366) (by decide +kernel)) rfl
theorem ml_X1_91 : Cond.methodLink RX1 91 yX1_endOfRun ∈ o_WS := o_mem (List.mem_of_getElem? (i := 367) (by decide +kernel)) rfl
theorem im_X1_endOfRun : Cond.instanceMethod yX1_endOfRun ∈ o_WS := o_mem (List.mem_of_getElem? (i := 369) (by decide +kernel)) rfl
theorem co_X1_endOfRun : Cond.code yX1_endOfRun cX1_endOfRun 4 (Option.some Jvm.ClassFile.FieldType.int) ∈ o_WS := o_mem (List.mem_of_getElem? (i := 370) (by decide +kernel)) rfl
theorem ml_X1_76 : Cond.methodLink RX1 76 yX1_takeOtherByte ∈ o_WS := o_mem (List.mem_of_getElem? (i := 371) (by decide +kernel)) rfl
theorem im_X1_takeOtherByte : Cond.instanceMethod yX1_takeOtherByte ∈ o_WS := o_mem (List.mem_of_getElem? (i := 373) (by decide +kernel)) rfl
theorem co_X1_takeOtherByte : Cond.code yX1_takeOtherByte cX1_takeOtherByte 3 (Option.none : Option Jvm.ClassFile.FieldType) ∈ o_WS := o_mem (List.mem_of_getElem? (i := 374) (by decide +kernel)) rfl
theorem ml_X1_79 : Cond.methodLink RX1 79 yX3_add ∈ o_WS := o_mem (List.mem_of_getElem? (i := 375) (by decide +kernel)) rfl
theorem im_X3_add : Cond.instanceMethod yX3_add ∈ o_WS := o_mem (List.mem_of_getElem? (i := 376) (by decide +kernel)) rfl
theorem se_X3_add : Cond.selects RX3 yX3_add yX3_add ∈ o_WS := o_mem (List.mem_of_getElem? (i := 377) (by decide +kernel)) rfl
theorem co_X3_add : Cond.code yX3_add cX3_add 4 (Option.none : Option Jvm.ClassFile.FieldType) ∈ o_WS := o_mem (List.mem_of_getElem? (i := 378) (by decide +kernel)) rfl
theorem ml_X3_28 : Cond.methodLink RX3 28 yX4_push ∈ o_WS := o_mem (List.mem_of_getElem? (i := 379) (by decide +kernel)) rfl
theorem ml_X6_107 : Cond.methodLink RX6 107 yX0_take ∈ o_WS := o_mem (List.mem_of_getElem? (i := 380) (by decide +kernel)) rfl
theorem im_X0_take : Cond.instanceMethod yX0_take ∈ o_WS := o_mem (List.mem_of_getElem? (i := 381) (by decide +kernel)) rfl
theorem se_X0_take : Cond.selects RX0 yX0_take yX0_take ∈ o_WS := o_mem (List.mem_of_getElem? (i := 382) (by decide +kernel)) rfl
theorem co_X0_take : Cond.code yX0_take cX0_take 2 (Option.none : Option Jvm.ClassFile.FieldType) ∈ o_WS := o_mem (List.mem_of_getElem? (i := 383) (by decide +kernel)) rfl
theorem ml_X0_60 : Cond.methodLink RX0 60 yX4_put ∈ o_WS := o_mem (List.mem_of_getElem? (i := 384) (by decide +kernel)) rfl
theorem im_X4_put : Cond.instanceMethod yX4_put ∈ o_WS := o_mem (List.mem_of_getElem? (i := 385) (by decide +kernel)) rfl
theorem se_X4_put : Cond.selects RX4 yX4_put yX4_put ∈ o_WS := o_mem (List.mem_of_getElem? (i := 386) (by decide +kernel)) rfl
theorem co_X4_put : Cond.code yX4_put cX4_put 3 (Option.none : Option Jvm.ClassFile.FieldType) ∈ o_WS := o_mem (List.mem_of_getElem? (i := 387) (by decide +kernel)) rfl
theorem ml_X0_63 : Cond.methodLink RX0 63 yX0_innermost ∈ o_WS := o_mem (List.mem_of_getElem? (i := 388) (by decide +kernel)) rfl
theorem im_X0_innermost : Cond.instanceMethod yX0_innermost ∈ o_WS := o_mem (List.mem_of_getElem? (i := 390) (by decide +kernel)) rfl
theorem co_X0_innermost : Cond.code yX0_innermost cX0_innermost 1 (Option.some Jvm.ClassFile.FieldType.int) ∈ o_WS := o_mem (List.mem_of_getElem? (i := 391) (by decide +kernel)) rfl
theorem ml_X0_100 : Cond.methodLink RX0 100 yX4_size ∈ o_WS := o_mem (List.mem_of_getElem? (i := 392) (by decide +kernel)) rfl
theorem ml_X0_67 : Cond.methodLink RX0 67 yX4_at ∈ o_WS := o_mem (List.mem_of_getElem? (i := 393) (by decide +kernel)) rfl
theorem ml_X0_71 : Cond.methodLink RX0 71 yX5_is ∈ o_WS := o_mem (List.mem_of_getElem? (i := 394) (by decide +kernel)) rfl
theorem ml_X0_77 : Cond.methodLink RX0 77 yX0_placeInGroup ∈ o_WS := o_mem (List.mem_of_getElem? (i := 395) (by decide +kernel)) rfl
theorem im_X0_placeInGroup : Cond.instanceMethod yX0_placeInGroup ∈ o_WS := o_mem (List.mem_of_getElem? (i := 397) (by decide +kernel)) rfl
theorem co_X0_placeInGroup : Cond.code yX0_placeInGroup cX0_placeInGroup 1 (Option.none : Option Jvm.ClassFile.FieldType) ∈ o_WS := o_mem (List.mem_of_getElem? (i := 398) (by decide +kernel)) rfl
theorem ml_X0_124 : Cond.methodLink RX0 124 yX0_addWord ∈ o_WS := o_mem (List.mem_of_getElem? (i := 399) (by decide +kernel)) rfl
theorem im_X0_addWord : Cond.instanceMethod yX0_addWord ∈ o_WS := o_mem (List.mem_of_getElem? (i := 401) (by decide +kernel)) rfl
theorem co_X0_addWord : Cond.code yX0_addWord cX0_addWord 1 (Option.none : Option Jvm.ClassFile.FieldType) ∈ o_WS := o_mem (List.mem_of_getElem? (i := 402) (by decide +kernel)) rfl
theorem ml_X0_83 : Cond.methodLink RX0 83 yX0_addPart ∈ o_WS := o_mem (List.mem_of_getElem? (i := 403) (by decide +kernel)) rfl
theorem im_X0_addPart : Cond.instanceMethod yX0_addPart ∈ o_WS := o_mem (List.mem_of_getElem? (i := 405) (by decide +kernel)) rfl
theorem co_X0_addPart : Cond.code yX0_addPart cX0_addPart 5 (Option.some Jvm.ClassFile.FieldType.int) ∈ o_WS := o_mem (List.mem_of_getElem? (i := 406) (by decide +kernel)) rfl
theorem ml_X0_152 : Cond.methodLink RX0 152 yX5_add ∈ o_WS := o_mem (List.mem_of_getElem? (i := 407) (by decide +kernel)) rfl
theorem ml_X0_145 : Cond.methodLink RX0 145 yX5_spell ∈ o_WS := o_mem (List.mem_of_getElem? (i := 408) (by decide +kernel)) rfl
theorem im_X5_spell : Cond.instanceMethod yX5_spell ∈ o_WS := o_mem (List.mem_of_getElem? (i := 409) (by decide +kernel)) rfl
theorem se_X5_spell : Cond.selects RX5 yX5_spell yX5_spell ∈ o_WS := o_mem (List.mem_of_getElem? (i := 410) (by decide +kernel)) rfl
theorem co_X5_spell : Cond.code yX5_spell cX5_spell 6 (Option.none : Option Jvm.ClassFile.FieldType) ∈ o_WS := o_mem (List.mem_of_getElem? (i := 411) (by decide +kernel)) rfl
theorem ml_X5_56 : Cond.methodLink RX5 56 yX5_set ∈ o_WS := o_mem (List.mem_of_getElem? (i := 412) (by decide +kernel)) rfl
theorem im_X5_set : Cond.instanceMethod yX5_set ∈ o_WS := o_mem (List.mem_of_getElem? (i := 414) (by decide +kernel)) rfl
theorem co_X5_set : Cond.code yX5_set cX5_set 4 (Option.none : Option Jvm.ClassFile.FieldType) ∈ o_WS := o_mem (List.mem_of_getElem? (i := 415) (by decide +kernel)) rfl
theorem ml_X5_37 : Cond.methodLink RX5 37 yX4_put ∈ o_WS := o_mem (List.mem_of_getElem? (i := 416) (by decide +kernel)) rfl
theorem ml_X0_127 : Cond.methodLink RX0 127 yX1_numberRead ∈ o_WS := o_mem (List.mem_of_getElem? (i := 417) (by decide +kernel)) rfl
theorem im_X1_numberRead : Cond.instanceMethod yX1_numberRead ∈ o_WS := o_mem (List.mem_of_getElem? (i := 418) (by decide +kernel)) rfl
theorem se_X1_numberRead : Cond.selects RX1 yX1_numberRead yX1_numberRead ∈ o_WS := o_mem (List.mem_of_getElem? (i := 419) (by decide +kernel)) rfl
theorem co_X1_numberRead : Cond.code yX1_numberRead cX1_numberRead 4 (Option.some Jvm.ClassFile.FieldType.int) ∈ o_WS := o_mem (List.mem_of_getElem? (i := 420) (by decide +kernel)) rfl
theorem cl_X1_95 : Cond.constantLong RX1 95 (10 : Int64) ∈ o_WS := o_mem (List.mem_of_getElem? (i := 421) (by decide +kernel)) rfl
theorem cl_X1_97 : Cond.constantLong RX1 97 (1000000000 : Int64) ∈ o_WS := o_mem (List.mem_of_getElem? (i := 422) (by decide +kernel)) rfl
theorem ml_X0_130 : Cond.methodLink RX0 130 yX0_openGroup ∈ o_WS := o_mem (List.mem_of_getElem? (i := 423) (by decide +kernel)) rfl
theorem im_X0_openGroup : Cond.instanceMethod yX0_openGroup ∈ o_WS := o_mem (List.mem_of_getElem? (i := 425) (by decide +kernel)) rfl
theorem co_X0_openGroup : Cond.code yX0_openGroup cX0_openGroup 1 (Option.none : Option Jvm.ClassFile.FieldType) ∈ o_WS := o_mem (List.mem_of_getElem? (i := 426) (by decide +kernel)) rfl
theorem ml_X0_149 : Cond.methodLink RX0 149 yX0_isDeep ∈ o_WS := o_mem (List.mem_of_getElem? (i := 427) (by decide +kernel)) rfl
theorem im_X0_isDeep : Cond.instanceMethod yX0_isDeep ∈ o_WS := o_mem (List.mem_of_getElem? (i := 429) (by decide +kernel)) rfl
theorem co_X0_isDeep : Cond.code yX0_isDeep cX0_isDeep 1 (Option.some Jvm.ClassFile.FieldType.boolean) ∈ o_WS := o_mem (List.mem_of_getElem? (i := 430) (by decide +kernel)) rfl
theorem ml_X0_97 : Cond.methodLink RX0 97 yX0_report ∈ o_WS := o_mem (List.mem_of_getElem? (i := 431) (by decide +kernel)) rfl
theorem im_X0_report : Cond.instanceMethod yX0_report ∈ o_WS := o_mem (List.mem_of_getElem? (i := 433) (by decide +kernel)) rfl
theorem co_X0_report : Cond.code yX0_report cX0_report 2 (Option.none : Option Jvm.ClassFile.FieldType) ∈ o_WS := o_mem (List.mem_of_getElem? (i := 434) (by decide +kernel)) rfl
theorem ml_X0_109 : Cond.methodLink RX0 109 yX3_add ∈ o_WS := o_mem (List.mem_of_getElem? (i := 435) (by decide +kernel)) rfl
theorem ml_X0_118 : Cond.methodLink RX0 118 yX0_close ∈ o_WS := o_mem (List.mem_of_getElem? (i := 436) (by decide +kernel)) rfl
theorem im_X0_close : Cond.instanceMethod yX0_close ∈ o_WS := o_mem (List.mem_of_getElem? (i := 438) (by decide +kernel)) rfl
theorem co_X0_close : Cond.code yX0_close cX0_close 2 (Option.none : Option Jvm.ClassFile.FieldType) ∈ o_WS := o_mem (List.mem_of_getElem? (i := 439) (by decide +kernel)) rfl
theorem ml_X0_87 : Cond.methodLink RX0 87 yX0_beginsBlock ∈ o_WS := o_mem (List.mem_of_getElem? (i := 440) (by decide +kernel)) rfl
theorem im_X0_beginsBlock : Cond.instanceMethod yX0_beginsBlock ∈ o_WS := o_mem (List.mem_of_getElem? (i := 442) (by decide +kernel)) rfl
theorem co_X0_beginsBlock : Cond.code yX0_beginsBlock cX0_beginsBlock 2 (Option.some Jvm.ClassFile.FieldType.boolean) ∈ o_WS := o_mem (List.mem_of_getElem? (i := 443) (by decide +kernel)) rfl
theorem ml_X0_91 : Cond.methodLink RX0 91 yX0_alignToColumn ∈ o_WS := o_mem (List.mem_of_getElem? (i := 444) (by decide +kernel)) rfl
theorem im_X0_alignToColumn : Cond.instanceMethod yX0_alignToColumn ∈ o_WS := o_mem (List.mem_of_getElem? (i := 446) (by decide +kernel)) rfl
theorem co_X0_alignToColumn : Cond.code yX0_alignToColumn cX0_alignToColumn 4 (Option.none : Option Jvm.ClassFile.FieldType) ∈ o_WS := o_mem (List.mem_of_getElem? (i := 447) (by decide +kernel)) rfl
theorem ml_X0_121 : Cond.methodLink RX0 121 yX0_endItem ∈ o_WS := o_mem (List.mem_of_getElem? (i := 448) (by decide +kernel)) rfl
theorem im_X0_endItem : Cond.instanceMethod yX0_endItem ∈ o_WS := o_mem (List.mem_of_getElem? (i := 450) (by decide +kernel)) rfl
theorem co_X0_endItem : Cond.code yX0_endItem cX0_endItem 1 (Option.none : Option Jvm.ClassFile.FieldType) ∈ o_WS := o_mem (List.mem_of_getElem? (i := 451) (by decide +kernel)) rfl
theorem ml_X0_94 : Cond.methodLink RX0 94 yX0_placeInBlock ∈ o_WS := o_mem (List.mem_of_getElem? (i := 452) (by decide +kernel)) rfl
theorem im_X0_placeInBlock : Cond.instanceMethod yX0_placeInBlock ∈ o_WS := o_mem (List.mem_of_getElem? (i := 454) (by decide +kernel)) rfl
theorem co_X0_placeInBlock : Cond.code yX0_placeInBlock cX0_placeInBlock 1 (Option.none : Option Jvm.ClassFile.FieldType) ∈ o_WS := o_mem (List.mem_of_getElem? (i := 455) (by decide +kernel)) rfl
theorem ml_X0_133 : Cond.methodLink RX0 133 yX0_takeColon ∈ o_WS := o_mem (List.mem_of_getElem? (i := 456) (by decide +kernel)) rfl
theorem im_X0_takeColon : Cond.instanceMethod yX0_takeColon ∈ o_WS := o_mem (List.mem_of_getElem? (i := 458) (by decide +kernel)) rfl
theorem co_X0_takeColon : Cond.code yX0_takeColon cX0_takeColon 1 (Option.none : Option Jvm.ClassFile.FieldType) ∈ o_WS := o_mem (List.mem_of_getElem? (i := 459) (by decide +kernel)) rfl
theorem ml_X0_136 : Cond.methodLink RX0 136 yX0_closeBraces ∈ o_WS := o_mem (List.mem_of_getElem? (i := 460) (by decide +kernel)) rfl
theorem im_X0_closeBraces : Cond.instanceMethod yX0_closeBraces ∈ o_WS := o_mem (List.mem_of_getElem? (i := 462) (by decide +kernel)) rfl
theorem co_X0_closeBraces : Cond.code yX0_closeBraces cX0_closeBraces 2 (Option.none : Option Jvm.ClassFile.FieldType) ∈ o_WS := o_mem (List.mem_of_getElem? (i := 463) (by decide +kernel)) rfl
theorem ml_X6_110 : Cond.methodLink RX6 110 yX0_finish ∈ o_WS := o_mem (List.mem_of_getElem? (i := 464) (by decide +kernel)) rfl
theorem im_X0_finish : Cond.instanceMethod yX0_finish ∈ o_WS := o_mem (List.mem_of_getElem? (i := 465) (by decide +kernel)) rfl
theorem se_X0_finish : Cond.selects RX0 yX0_finish yX0_finish ∈ o_WS := o_mem (List.mem_of_getElem? (i := 466) (by decide +kernel)) rfl
theorem co_X0_finish : Cond.code yX0_finish cX0_finish 2 (Option.none : Option Jvm.ClassFile.FieldType) ∈ o_WS := o_mem (List.mem_of_getElem? (i := 467) (by decide +kernel)) rfl
theorem ml_X6_113 : Cond.methodLink RX6 113 yX5_size ∈ o_WS := o_mem (List.mem_of_getElem? (i := 468) (by decide +kernel)) rfl
theorem im_X5_size : Cond.instanceMethod yX5_size ∈ o_WS := o_mem (List.mem_of_getElem? (i := 469) (by decide +kernel)) rfl
theorem se_X5_size : Cond.selects RX5 yX5_size yX5_size ∈ o_WS := o_mem (List.mem_of_getElem? (i := 470) (by decide +kernel)) rfl
theorem co_X5_size : Cond.code yX5_size cX5_size 1 (Option.some Jvm.ClassFile.FieldType.int) ∈ o_WS := o_mem (List.mem_of_getElem? (i := 471) (by decide +kernel)) rfl
theorem ml_L_96 : Cond.methodLink RL 96 yX6_repairCount ∈ o_WS := o_mem (List.mem_of_getElem? (i := 472) (by decide +kernel)) rfl
theorem im_X6_repairCount : Cond.instanceMethod yX6_repairCount ∈ o_WS := o_mem (List.mem_of_getElem? (i := 473) (by decide +kernel)) rfl
theorem se_X6_repairCount : Cond.selects RX6 yX6_repairCount yX6_repairCount ∈ o_WS := o_mem (List.mem_of_getElem? (i := 474) (by decide +kernel)) rfl
theorem co_X6_repairCount : Cond.code yX6_repairCount cX6_repairCount 1 (Option.some Jvm.ClassFile.FieldType.int) ∈ o_WS := o_mem (List.mem_of_getElem? (i := 475) (by decide +kernel)) rfl
theorem ml_X6_114 : Cond.methodLink RX6 114 yX3_size ∈ o_WS := o_mem (List.mem_of_getElem? (i := 476) (by decide +kernel)) rfl
theorem im_X3_size : Cond.instanceMethod yX3_size ∈ o_WS := o_mem (List.mem_of_getElem? (i := 477) (by decide +kernel)) rfl
theorem se_X3_size : Cond.selects RX3 yX3_size yX3_size ∈ o_WS := o_mem (List.mem_of_getElem? (i := 478) (by decide +kernel)) rfl
theorem co_X3_size : Cond.code yX3_size cX3_size 1 (Option.some Jvm.ClassFile.FieldType.int) ∈ o_WS := o_mem (List.mem_of_getElem? (i := 479) (by decide +kernel)) rfl
theorem ml_L_104 : Cond.methodLink RL 104 yX6_nodeCount ∈ o_WS := o_mem (List.mem_of_getElem? (i := 480) (by decide +kernel)) rfl
theorem im_X6_nodeCount : Cond.instanceMethod yX6_nodeCount ∈ o_WS := o_mem (List.mem_of_getElem? (i := 481) (by decide +kernel)) rfl
theorem se_X6_nodeCount : Cond.selects RX6 yX6_nodeCount yX6_nodeCount ∈ o_WS := o_mem (List.mem_of_getElem? (i := 482) (by decide +kernel)) rfl
theorem co_X6_nodeCount : Cond.code yX6_nodeCount cX6_nodeCount 1 (Option.some Jvm.ClassFile.FieldType.int) ∈ o_WS := o_mem (List.mem_of_getElem? (i := 483) (by decide +kernel)) rfl
theorem ml_L_135 : Cond.methodLink RL 135 yX6_find ∈ o_WS := o_mem (List.mem_of_getElem? (i := 484) (by decide +kernel)) rfl
theorem im_X6_find : Cond.instanceMethod yX6_find ∈ o_WS := o_mem (List.mem_of_getElem? (i := 485) (by decide +kernel)) rfl
theorem se_X6_find : Cond.selects RX6 yX6_find yX6_find ∈ o_WS := o_mem (List.mem_of_getElem? (i := 486) (by decide +kernel)) rfl
theorem co_X6_find : Cond.code yX6_find cX6_find 4 (Option.some Jvm.ClassFile.FieldType.int) ∈ o_WS := o_mem (List.mem_of_getElem? (i := 487) (by decide +kernel)) rfl
theorem ml_X6_63 : Cond.methodLink RX6 63 yX6_unpack ∈ o_WS := o_mem (List.mem_of_getElem? (i := 488) (by decide +kernel)) rfl
theorem im_X6_unpack : Cond.instanceMethod yX6_unpack ∈ o_WS := o_mem (List.mem_of_getElem? (i := 490) (by decide +kernel)) rfl
theorem co_X6_unpack : Cond.code yX6_unpack cX6_unpack 5 (Option.none : Option Jvm.ClassFile.FieldType) ∈ o_WS := o_mem (List.mem_of_getElem? (i := 491) (by decide +kernel)) rfl
theorem ml_X6_97 : Cond.methodLink RX6 97 yX4_cut ∈ o_WS := o_mem (List.mem_of_getElem? (i := 492) (by decide +kernel)) rfl
theorem ml_X6_91 : Cond.methodLink RX6 91 yX4_push ∈ o_WS := o_mem (List.mem_of_getElem? (i := 493) (by decide +kernel)) rfl
theorem ml_X6_146 : Cond.methodLink RX6 146 yX5_nthWord ∈ o_WS := o_mem (List.mem_of_getElem? (i := 494) (by decide +kernel)) rfl
theorem im_X5_nthWord : Cond.instanceMethod yX5_nthWord ∈ o_WS := o_mem (List.mem_of_getElem? (i := 495) (by decide +kernel)) rfl
theorem se_X5_nthWord : Cond.selects RX5 yX5_nthWord yX5_nthWord ∈ o_WS := o_mem (List.mem_of_getElem? (i := 496) (by decide +kernel)) rfl
theorem co_X5_nthWord : Cond.code yX5_nthWord cX5_nthWord 5 (Option.some Jvm.ClassFile.FieldType.int) ∈ o_WS := o_mem (List.mem_of_getElem? (i := 497) (by decide +kernel)) rfl
theorem ml_X5_63 : Cond.methodLink RX5 63 yX5_isSpelled ∈ o_WS := o_mem (List.mem_of_getElem? (i := 498) (by decide +kernel)) rfl
theorem im_X5_isSpelled : Cond.instanceMethod yX5_isSpelled ∈ o_WS := o_mem (List.mem_of_getElem? (i := 500) (by decide +kernel)) rfl
theorem co_X5_isSpelled : Cond.code yX5_isSpelled cX5_isSpelled 4 (Option.some Jvm.ClassFile.FieldType.boolean) ∈ o_WS := o_mem (List.mem_of_getElem? (i := 501) (by decide +kernel)) rfl
theorem ml_X5_67 : Cond.methodLink RX5 67 yX5_letterOf ∈ o_WS := o_mem (List.mem_of_getElem? (i := 502) (by decide +kernel)) rfl
theorem im_X5_letterOf : Cond.instanceMethod yX5_letterOf ∈ o_WS := o_mem (List.mem_of_getElem? (i := 503) (by decide +kernel)) rfl
theorem se_X5_letterOf : Cond.selects RX5 yX5_letterOf yX5_letterOf ∈ o_WS := o_mem (List.mem_of_getElem? (i := 504) (by decide +kernel)) rfl
theorem co_X5_letterOf : Cond.code yX5_letterOf cX5_letterOf 4 (Option.some Jvm.ClassFile.FieldType.int) ∈ o_WS := o_mem (List.mem_of_getElem? (i := 505) (by decide +kernel)) rfl
theorem ml_L_140 : Cond.methodLink RL 140 yX6_wordCount ∈ o_WS := o_mem (List.mem_of_getElem? (i := 506) (by decide +kernel)) rfl
theorem im_X6_wordCount : Cond.instanceMethod yX6_wordCount ∈ o_WS := o_mem (List.mem_of_getElem? (i := 507) (by decide +kernel)) rfl
theorem se_X6_wordCount : Cond.selects RX6 yX6_wordCount yX6_wordCount ∈ o_WS := o_mem (List.mem_of_getElem? (i := 508) (by decide +kernel)) rfl
theorem co_X6_wordCount : Cond.code yX6_wordCount cX6_wordCount 1 (Option.some Jvm.ClassFile.FieldType.int) ∈ o_WS := o_mem (List.mem_of_getElem? (i := 509) (by decide +kernel)) rfl
theorem ml_X6_150 : Cond.methodLink RX6 150 yX5_countDifferentWords ∈ o_WS := o_mem (List.mem_of_getElem? (i := 510) (by decide +kernel)) rfl
theorem im_X5_countDifferentWords : Cond.instanceMethod yX5_countDifferentWords ∈ o_WS := o_mem (List.mem_of_getElem? (i := 511) (by decide +kernel)) rfl
theorem se_X5_countDifferentWords : Cond.selects RX5 yX5_countDifferentWords yX5_countDifferentWords ∈ o_WS := o_mem (List.mem_of_getElem? (i := 512) (by decide +kernel)) rfl
theorem co_X5_countDifferentWords : Cond.code yX5_countDifferentWords cX5_countDifferentWords 3 (Option.some Jvm.ClassFile.FieldType.int) ∈ o_WS := o_mem (List.mem_of_getElem? (i := 513) (by decide +kernel)) rfl
theorem ml_X5_70 : Cond.methodLink RX5 70 yX5_isNewWord ∈ o_WS := o_mem (List.mem_of_getElem? (i := 514) (by decide +kernel)) rfl
theorem im_X5_isNewWord : Cond.instanceMethod yX5_isNewWord ∈ o_WS := o_mem (List.mem_of_getElem? (i := 516) (by decide +kernel)) rfl
theorem co_X5_isNewWord : Cond.code yX5_isNewWord cX5_isNewWord 3 (Option.some Jvm.ClassFile.FieldType.boolean) ∈ o_WS := o_mem (List.mem_of_getElem? (i := 517) (by decide +kernel)) rfl
theorem ml_X5_74 : Cond.methodLink RX5 74 yX5_areSame ∈ o_WS := o_mem (List.mem_of_getElem? (i := 518) (by decide +kernel)) rfl
theorem im_X5_areSame : Cond.instanceMethod yX5_areSame ∈ o_WS := o_mem (List.mem_of_getElem? (i := 520) (by decide +kernel)) rfl
theorem co_X5_areSame : Cond.code yX5_areSame cX5_areSame 5 (Option.some Jvm.ClassFile.FieldType.boolean) ∈ o_WS := o_mem (List.mem_of_getElem? (i := 521) (by decide +kernel)) rfl
theorem ml_L_155 : Cond.methodLink RL 155 yX6_write ∈ o_WS := o_mem (List.mem_of_getElem? (i := 522) (by decide +kernel)) rfl
theorem im_X6_write : Cond.instanceMethod yX6_write ∈ o_WS := o_mem (List.mem_of_getElem? (i := 523) (by decide +kernel)) rfl
theorem se_X6_write : Cond.selects RX6 yX6_write yX6_write ∈ o_WS := o_mem (List.mem_of_getElem? (i := 524) (by decide +kernel)) rfl
theorem co_X6_write : Cond.code yX6_write cX6_write 2 (Option.some Jvm.ClassFile.FieldType.int) ∈ o_WS := o_mem (List.mem_of_getElem? (i := 525) (by decide +kernel)) rfl
theorem ml_X6_192 : Cond.methodLink RX6 192 yX2_startAgain ∈ o_WS := o_mem (List.mem_of_getElem? (i := 526) (by decide +kernel)) rfl
theorem im_X2_startAgain : Cond.instanceMethod yX2_startAgain ∈ o_WS := o_mem (List.mem_of_getElem? (i := 527) (by decide +kernel)) rfl
theorem se_X2_startAgain : Cond.selects RX2 yX2_startAgain yX2_startAgain ∈ o_WS := o_mem (List.mem_of_getElem? (i := 528) (by decide +kernel)) rfl
theorem co_X2_startAgain : Cond.code yX2_startAgain cX2_startAgain 1 (Option.none : Option Jvm.ClassFile.FieldType) ∈ o_WS := o_mem (List.mem_of_getElem? (i := 529) (by decide +kernel)) rfl
theorem ml_X2_30 : Cond.methodLink RX2 30 yX4_cut ∈ o_WS := o_mem (List.mem_of_getElem? (i := 530) (by decide +kernel)) rfl
theorem im_X2_printLines : Cond.instanceMethod yX2_printLines ∈ o_WS := o_mem (List.mem_of_getElem? (i := 533) (by decide +kernel)) rfl
theorem co_X2_printLines : Cond.code yX2_printLines cX2_printLines 6 (Option.none : Option Jvm.ClassFile.FieldType) ∈ o_WS := o_mem (List.mem_of_getElem? (i := 534) (by decide +kernel)) rfl
theorem ml_X2_41 : Cond.methodLink RX2 41 yX5_after ∈ o_WS := o_mem (List.mem_of_getElem? (i := 535) (by decide +kernel)) rfl
theorem im_X5_after : Cond.instanceMethod yX5_after ∈ o_WS := o_mem (List.mem_of_getElem? (i := 536) (by decide +kernel)) rfl
theorem se_X5_after : Cond.selects RX5 yX5_after yX5_after ∈ o_WS := o_mem (List.mem_of_getElem? (i := 537) (by decide +kernel)) rfl
theorem co_X5_after : Cond.code yX5_after cX5_after 4 (Option.some Jvm.ClassFile.FieldType.int) ∈ o_WS := o_mem (List.mem_of_getElem? (i := 538) (by decide +kernel)) rfl
theorem ml_X2_37 : Cond.methodLink RX2 37 yX5_get ∈ o_WS := o_mem (List.mem_of_getElem? (i := 539) (by decide +kernel)) rfl
theorem ml_X2_51 : Cond.methodLink RX2 51 yX2_printLinesOfItem ∈ o_WS := o_mem (List.mem_of_getElem? (i := 540) (by decide +kernel)) rfl
theorem im_X2_printLinesOfItem : Cond.instanceMethod yX2_printLinesOfItem ∈ o_WS := o_mem (List.mem_of_getElem? (i := 542) (by decide +kernel)) rfl
theorem co_X2_printLinesOfItem : Cond.code yX2_printLinesOfItem cX2_printLinesOfItem 5 (Option.none : Option Jvm.ClassFile.FieldType) ∈ o_WS := o_mem (List.mem_of_getElem? (i := 543) (by decide +kernel)) rfl
theorem ml_X2_48 : Cond.methodLink RX2 48 yX4_push ∈ o_WS := o_mem (List.mem_of_getElem? (i := 544) (by decide +kernel)) rfl
theorem ml_X2_55 : Cond.methodLink RX2 55 yX5_lastChild ∈ o_WS := o_mem (List.mem_of_getElem? (i := 545) (by decide +kernel)) rfl
theorem im_X5_lastChild : Cond.instanceMethod yX5_lastChild ∈ o_WS := o_mem (List.mem_of_getElem? (i := 546) (by decide +kernel)) rfl
theorem se_X5_lastChild : Cond.selects RX5 yX5_lastChild yX5_lastChild ∈ o_WS := o_mem (List.mem_of_getElem? (i := 547) (by decide +kernel)) rfl
theorem co_X5_lastChild : Cond.code yX5_lastChild cX5_lastChild 5 (Option.some Jvm.ClassFile.FieldType.int) ∈ o_WS := o_mem (List.mem_of_getElem? (i := 548) (by decide +kernel)) rfl
theorem ml_X5_60 : Cond.methodLink RX5 60 yX5_after ∈ o_WS := o_mem (List.mem_of_getElem? (i := 549) (by decide +kernel)) rfl
theorem ml_X2_58 : Cond.methodLink RX2 58 yX5_is ∈ o_WS := o_mem (List.mem_of_getElem? (i := 550) (by decide +kernel)) rfl
theorem ml_X2_44 : Cond.methodLink RX2 44 yX2_printParts ∈ o_WS := o_mem (List.mem_of_getElem? (i := 551) (by decide +kernel)) rfl
theorem im_X2_printParts : Cond.instanceMethod yX2_printParts ∈ o_WS := o_mem (List.mem_of_getElem? (i := 553) (by decide +kernel)) rfl
theorem co_X2_printParts : Cond.code yX2_printParts cX2_printParts 6 (Option.none : Option Jvm.ClassFile.FieldType) ∈ o_WS := o_mem (List.mem_of_getElem? (i := 554) (by decide +kernel)) rfl
theorem ml_X2_65 : Cond.methodLink RX2 65 yX2_printPart ∈ o_WS := o_mem (List.mem_of_getElem? (i := 555) (by decide +kernel)) rfl
theorem im_X2_printPart : Cond.instanceMethod yX2_printPart ∈ o_WS := o_mem (List.mem_of_getElem? (i := 557) (by decide +kernel)) rfl
theorem co_X2_printPart : Cond.code yX2_printPart cX2_printPart 3 (Option.none : Option Jvm.ClassFile.FieldType) ∈ o_WS := o_mem (List.mem_of_getElem? (i := 558) (by decide +kernel)) rfl
theorem ml_X2_68 : Cond.methodLink RX2 68 yX2_printWord ∈ o_WS := o_mem (List.mem_of_getElem? (i := 559) (by decide +kernel)) rfl
theorem im_X2_printWord : Cond.instanceMethod yX2_printWord ∈ o_WS := o_mem (List.mem_of_getElem? (i := 561) (by decide +kernel)) rfl
theorem co_X2_printWord : Cond.code yX2_printWord cX2_printWord 4 (Option.none : Option Jvm.ClassFile.FieldType) ∈ o_WS := o_mem (List.mem_of_getElem? (i := 562) (by decide +kernel)) rfl
theorem ml_X2_77 : Cond.methodLink RX2 77 yX5_letterOf ∈ o_WS := o_mem (List.mem_of_getElem? (i := 563) (by decide +kernel)) rfl
theorem ml_X2_71 : Cond.methodLink RX2 71 yX2_printNumber ∈ o_WS := o_mem (List.mem_of_getElem? (i := 564) (by decide +kernel)) rfl
theorem im_X2_printNumber : Cond.instanceMethod yX2_printNumber ∈ o_WS := o_mem (List.mem_of_getElem? (i := 566) (by decide +kernel)) rfl
theorem co_X2_printNumber : Cond.code yX2_printNumber cX2_printNumber 3 (Option.none : Option Jvm.ClassFile.FieldType) ∈ o_WS := o_mem (List.mem_of_getElem? (i := 567) (by decide +kernel)) rfl
theorem cn_X2_80 : Cond.constant RX2 80 (100000000 : Int32) ∈ o_WS := o_mem (List.mem_of_getElem? (i := 568) (by decide +kernel)) rfl
theorem ml_X2_74 : Cond.methodLink RX2 74 yX2_printBraces ∈ o_WS := o_mem (List.mem_of_getElem? (i := 569) (by decide +kernel)) rfl
theorem im_X2_printBraces : Cond.instanceMethod yX2_printBraces ∈ o_WS := o_mem (List.mem_of_getElem? (i := 571) (by decide +kernel)) rfl
theorem co_X2_printBraces : Cond.code yX2_printBraces cX2_printBraces 6 (Option.none : Option Jvm.ClassFile.FieldType) ∈ o_WS := o_mem (List.mem_of_getElem? (i := 572) (by decide +kernel)) rfl
theorem ml_X2_62 : Cond.methodLink RX2 62 yX2_printLines ∈ o_WS := o_mem (List.mem_of_getElem? (i := 573) (by decide +kernel)) rfl
theorem ml_X6_197 : Cond.methodLink RX6 197 yX2_printItems ∈ o_WS := o_mem (List.mem_of_getElem? (i := 574) (by decide +kernel)) rfl
theorem im_X2_printItems : Cond.instanceMethod yX2_printItems ∈ o_WS := o_mem (List.mem_of_getElem? (i := 575) (by decide +kernel)) rfl
theorem se_X2_printItems : Cond.selects RX2 yX2_printItems yX2_printItems ∈ o_WS := o_mem (List.mem_of_getElem? (i := 576) (by decide +kernel)) rfl
theorem co_X2_printItems : Cond.code yX2_printItems cX2_printItems 2 (Option.none : Option Jvm.ClassFile.FieldType) ∈ o_WS := o_mem (List.mem_of_getElem? (i := 577) (by decide +kernel)) rfl
theorem ml_X2_34 : Cond.methodLink RX2 34 yX5_size ∈ o_WS := o_mem (List.mem_of_getElem? (i := 578) (by decide +kernel)) rfl
theorem ml_X6_200 : Cond.methodLink RX6 200 yX2_size ∈ o_WS := o_mem (List.mem_of_getElem? (i := 579) (by decide +kernel)) rfl
theorem im_X2_size : Cond.instanceMethod yX2_size ∈ o_WS := o_mem (List.mem_of_getElem? (i := 580) (by decide +kernel)) rfl
theorem se_X2_size : Cond.selects RX2 yX2_size yX2_size ∈ o_WS := o_mem (List.mem_of_getElem? (i := 581) (by decide +kernel)) rfl
theorem co_X2_size : Cond.code yX2_size cX2_size 1 (Option.some Jvm.ClassFile.FieldType.int) ∈ o_WS := o_mem (List.mem_of_getElem? (i := 582) (by decide +kernel)) rfl
theorem ml_X2_22 : Cond.methodLink RX2 22 yX4_size ∈ o_WS := o_mem (List.mem_of_getElem? (i := 583) (by decide +kernel)) rfl
theorem ml_L_163 : Cond.methodLink RL 163 yX6_digest ∈ o_WS := o_mem (List.mem_of_getElem? (i := 584) (by decide +kernel)) rfl
theorem im_X6_digest : Cond.instanceMethod yX6_digest ∈ o_WS := o_mem (List.mem_of_getElem? (i := 585) (by decide +kernel)) rfl
theorem se_X6_digest : Cond.selects RX6 yX6_digest yX6_digest ∈ o_WS := o_mem (List.mem_of_getElem? (i := 586) (by decide +kernel)) rfl
theorem co_X6_digest : Cond.code yX6_digest cX6_digest 6 (Option.some Jvm.ClassFile.FieldType.long) ∈ o_WS := o_mem (List.mem_of_getElem? (i := 587) (by decide +kernel)) rfl
theorem cl_X6_205 : Cond.constantLong RX6 205 (73 : Int64) ∈ o_WS := o_mem (List.mem_of_getElem? (i := 588) (by decide +kernel)) rfl
theorem ml_X6_207 : Cond.methodLink RX6 207 yX6_mix ∈ o_WS := o_mem (List.mem_of_getElem? (i := 589) (by decide +kernel)) rfl
theorem sm_X6_mix : Cond.static yX6_mix ∈ o_WS := o_mem (List.mem_of_getElem? (i := 590) (by decide +kernel)) rfl
theorem co_X6_mix : Cond.code yX6_mix cX6_mix 4 (Option.some Jvm.ClassFile.FieldType.long) ∈ o_WS := o_mem (List.mem_of_getElem? (i := 591) (by decide +kernel)) rfl
theorem cl_X6_211 : Cond.constantLong RX6 211 (31 : Int64) ∈ o_WS := o_mem (List.mem_of_getElem? (i := 592) (by decide +kernel)) rfl
theorem ml_X6_127 : Cond.methodLink RX6 127 yX5_get ∈ o_WS := o_mem (List.mem_of_getElem? (i := 593) (by decide +kernel)) rfl
theorem ml_X6_131 : Cond.methodLink RX6 131 yX5_countChildren ∈ o_WS := o_mem (List.mem_of_getElem? (i := 594) (by decide +kernel)) rfl
theorem im_X5_countChildren : Cond.instanceMethod yX5_countChildren ∈ o_WS := o_mem (List.mem_of_getElem? (i := 595) (by decide +kernel)) rfl
theorem se_X5_countChildren : Cond.selects RX5 yX5_countChildren yX5_countChildren ∈ o_WS := o_mem (List.mem_of_getElem? (i := 596) (by decide +kernel)) rfl
theorem co_X5_countChildren : Cond.code yX5_countChildren cX5_countChildren 6 (Option.some Jvm.ClassFile.FieldType.int) ∈ o_WS := o_mem (List.mem_of_getElem? (i := 597) (by decide +kernel)) rfl
theorem ml_X6_139 : Cond.methodLink RX6 139 yX5_is ∈ o_WS := o_mem (List.mem_of_getElem? (i := 598) (by decide +kernel)) rfl
theorem ml_X6_143 : Cond.methodLink RX6 143 yX5_letterOf ∈ o_WS := o_mem (List.mem_of_getElem? (i := 599) (by decide +kernel)) rfl
theorem ml_L_74 : Cond.methodLink RL 74 yL_feed ∈ o_WS := o_mem (List.mem_of_getElem? (i := 600) (by decide +kernel)) rfl
theorem sm_L_feed : Cond.static yL_feed ∈ o_WS := o_mem (List.mem_of_getElem? (i := 601) (by decide +kernel)) rfl
theorem co_L_feed : Cond.codeWith yL_feed cL_feed 5 (Option.some Jvm.ClassFile.FieldType.int) [((0 : Nat), (9 : Nat), (12 : Nat), (13 : Nat)), ((0 : Nat), (9 : Nat), (16 : Nat), (15 : Nat))] ∈ o_WS := o_mem (List.mem_of_getElem? (i := 602) (by decide +kernel)) rfl
theorem kl_L_13 : Cond.classLink RL 13 "java/lang/IllegalArgumentException" ∈ o_WS := o_mem (List.mem_of_getElem? (i := 603) (by decide +kernel)) rfl
theorem kl_L_15 : Cond.classLink RL 15 "java/lang/IllegalStateException" ∈ o_WS := o_mem (List.mem_of_getElem? (i := 604) (by decide +kernel)) rfl
theorem ml_L_7 : Cond.methodLink RL 7 yX6_feed ∈ o_WS := o_mem (List.mem_of_getElem? (i := 605) (by decide +kernel)) rfl
theorem im_X6_feed : Cond.instanceMethod yX6_feed ∈ o_WS := o_mem (List.mem_of_getElem? (i := 606) (by decide +kernel)) rfl
theorem se_X6_feed : Cond.selects RX6 yX6_feed yX6_feed ∈ o_WS := o_mem (List.mem_of_getElem? (i := 607) (by decide +kernel)) rfl
theorem co_X6_feed : Cond.code yX6_feed cX6_feed 4 (Option.some Jvm.ClassFile.FieldType.int) ∈ o_WS := o_mem (List.mem_of_getElem? (i := 608) (by decide +kernel)) rfl
theorem ml_X6_71 : Cond.methodLink RX6 71 yX4_at ∈ o_WS := o_mem (List.mem_of_getElem? (i := 609) (by decide +kernel)) rfl
theorem ml_X6_75 : Cond.methodLink RX6 75 yX6_isTextByte ∈ o_WS := o_mem (List.mem_of_getElem? (i := 610) (by decide +kernel)) rfl
theorem sm_X6_isTextByte : Cond.static yX6_isTextByte ∈ o_WS := o_mem (List.mem_of_getElem? (i := 611) (by decide +kernel)) rfl
theorem co_X6_isTextByte : Cond.code yX6_isTextByte cX6_isTextByte 1 (Option.some Jvm.ClassFile.FieldType.boolean) ∈ o_WS := o_mem (List.mem_of_getElem? (i := 612) (by decide +kernel)) rfl
theorem kl_X6_79 : Cond.classLink RX6 79 "java/lang/IllegalArgumentException" ∈ o_WS := o_mem (List.mem_of_getElem? (i := 613) (by decide +kernel)) rfl
theorem ml_X6_83 : Cond.methodLink RX6 83 ⟨"java/lang/IllegalArgumentException", "<init>", "(Ljava/lang/String;)V"⟩ ∈ o_WS := o_mem (List.mem_of_getElem? (i := 655) (by decide +kernel)) rfl
theorem kl_X6_86 : Cond.classLink RX6 86 "java/lang/IllegalStateException" ∈ o_WS := o_mem (List.mem_of_getElem? (i := 681) (by decide +kernel)) rfl
theorem ml_X6_90 : Cond.methodLink RX6 90 ⟨"java/lang/IllegalStateException", "<init>", "(Ljava/lang/String;)V"⟩ ∈ o_WS := o_mem (List.mem_of_getElem? (i := 691) (by decide +kernel)) rfl
theorem ml_L_84 : Cond.methodLink RL 84 yL_trim ∈ o_WS := o_mem (List.mem_of_getElem? (i := 697) (by decide +kernel)) rfl
theorem sm_L_trim : Cond.static yL_trim ∈ o_WS := o_mem (List.mem_of_getElem? (i := 698) (by decide +kernel)) rfl
theorem co_L_trim : Cond.codeWith yL_trim cL_trim 4 (Option.some Jvm.ClassFile.FieldType.int) [((0 : Nat), (9 : Nat), (12 : Nat), (13 : Nat))] ∈ o_WS := o_mem (List.mem_of_getElem? (i := 699) (by decide +kernel)) rfl
theorem ml_L_17 : Cond.methodLink RL 17 yX6_trim ∈ o_WS := o_mem (List.mem_of_getElem? (i := 700) (by decide +kernel)) rfl
theorem im_X6_trim : Cond.instanceMethod yX6_trim ∈ o_WS := o_mem (List.mem_of_getElem? (i := 701) (by decide +kernel)) rfl
theorem se_X6_trim : Cond.selects RX6 yX6_trim yX6_trim ∈ o_WS := o_mem (List.mem_of_getElem? (i := 702) (by decide +kernel)) rfl
theorem co_X6_trim : Cond.code yX6_trim cX6_trim 3 (Option.some Jvm.ClassFile.FieldType.int) ∈ o_WS := o_mem (List.mem_of_getElem? (i := 703) (by decide +kernel)) rfl
theorem ml_L_100 : Cond.methodLink RL 100 yL_repair ∈ o_WS := o_mem (List.mem_of_getElem? (i := 705) (by decide +kernel)) rfl
theorem sm_L_repair : Cond.static yL_repair ∈ o_WS := o_mem (List.mem_of_getElem? (i := 706) (by decide +kernel)) rfl
theorem co_L_repair : Cond.codeWith yL_repair cL_repair 5 (Option.some Jvm.ClassFile.FieldType.int) [((0 : Nat), (10 : Nat), (13 : Nat), (25 : Nat))] ∈ o_WS := o_mem (List.mem_of_getElem? (i := 707) (by decide +kernel)) rfl
theorem kl_L_25 : Cond.classLink RL 25 "java/lang/IndexOutOfBoundsException" ∈ o_WS := o_mem (List.mem_of_getElem? (i := 708) (by decide +kernel)) rfl
theorem ml_L_21 : Cond.methodLink RL 21 yX6_repair ∈ o_WS := o_mem (List.mem_of_getElem? (i := 709) (by decide +kernel)) rfl
theorem im_X6_repair : Cond.instanceMethod yX6_repair ∈ o_WS := o_mem (List.mem_of_getElem? (i := 710) (by decide +kernel)) rfl
theorem se_X6_repair : Cond.selects RX6 yX6_repair yX6_repair ∈ o_WS := o_mem (List.mem_of_getElem? (i := 711) (by decide +kernel)) rfl
theorem co_X6_repair : Cond.code yX6_repair cX6_repair 3 (Option.some Jvm.ClassFile.FieldType.int) ∈ o_WS := o_mem (List.mem_of_getElem? (i := 712) (by decide +kernel)) rfl
theorem kl_X6_115 : Cond.classLink RX6 115 "java/lang/IndexOutOfBoundsException" ∈ o_WS := o_mem (List.mem_of_getElem? (i := 713) (by decide +kernel)) rfl
theorem ml_X6_119 : Cond.methodLink RX6 119 ⟨"java/lang/IndexOutOfBoundsException", "<init>", "(Ljava/lang/String;)V"⟩ ∈ o_WS := o_mem (List.mem_of_getElem? (i := 723) (by decide +kernel)) rfl
theorem ml_X6_120 : Cond.methodLink RX6 120 yX3_get ∈ o_WS := o_mem (List.mem_of_getElem? (i := 729) (by decide +kernel)) rfl
theorem im_X3_get : Cond.instanceMethod yX3_get ∈ o_WS := o_mem (List.mem_of_getElem? (i := 730) (by decide +kernel)) rfl
theorem se_X3_get : Cond.selects RX3 yX3_get yX3_get ∈ o_WS := o_mem (List.mem_of_getElem? (i := 731) (by decide +kernel)) rfl
theorem co_X3_get : Cond.code yX3_get cX3_get 3 (Option.some Jvm.ClassFile.FieldType.int) ∈ o_WS := o_mem (List.mem_of_getElem? (i := 732) (by decide +kernel)) rfl
theorem ml_X3_24 : Cond.methodLink RX3 24 yX4_at ∈ o_WS := o_mem (List.mem_of_getElem? (i := 733) (by decide +kernel)) rfl
theorem ml_L_108 : Cond.methodLink RL 108 yL_kind ∈ o_WS := o_mem (List.mem_of_getElem? (i := 734) (by decide +kernel)) rfl
theorem sm_L_kind : Cond.static yL_kind ∈ o_WS := o_mem (List.mem_of_getElem? (i := 735) (by decide +kernel)) rfl
theorem co_L_kind : Cond.codeWith yL_kind cL_kind 4 (Option.some Jvm.ClassFile.FieldType.int) [((0 : Nat), (9 : Nat), (12 : Nat), (25 : Nat))] ∈ o_WS := o_mem (List.mem_of_getElem? (i := 736) (by decide +kernel)) rfl
theorem ml_L_27 : Cond.methodLink RL 27 yX6_kind ∈ o_WS := o_mem (List.mem_of_getElem? (i := 737) (by decide +kernel)) rfl
theorem im_X6_kind : Cond.instanceMethod yX6_kind ∈ o_WS := o_mem (List.mem_of_getElem? (i := 738) (by decide +kernel)) rfl
theorem se_X6_kind : Cond.selects RX6 yX6_kind yX6_kind ∈ o_WS := o_mem (List.mem_of_getElem? (i := 739) (by decide +kernel)) rfl
theorem co_X6_kind : Cond.code yX6_kind cX6_kind 2 (Option.some Jvm.ClassFile.FieldType.int) ∈ o_WS := o_mem (List.mem_of_getElem? (i := 740) (by decide +kernel)) rfl
theorem ml_X6_124 : Cond.methodLink RX6 124 yX6_checkNode ∈ o_WS := o_mem (List.mem_of_getElem? (i := 741) (by decide +kernel)) rfl
theorem im_X6_checkNode : Cond.instanceMethod yX6_checkNode ∈ o_WS := o_mem (List.mem_of_getElem? (i := 743) (by decide +kernel)) rfl
theorem co_X6_checkNode : Cond.code yX6_checkNode cX6_checkNode 2 (Option.none : Option Jvm.ClassFile.FieldType) ∈ o_WS := o_mem (List.mem_of_getElem? (i := 744) (by decide +kernel)) rfl
theorem ml_L_111 : Cond.methodLink RL 111 yL_parent ∈ o_WS := o_mem (List.mem_of_getElem? (i := 746) (by decide +kernel)) rfl
theorem sm_L_parent : Cond.static yL_parent ∈ o_WS := o_mem (List.mem_of_getElem? (i := 747) (by decide +kernel)) rfl
theorem co_L_parent : Cond.codeWith yL_parent cL_parent 4 (Option.some Jvm.ClassFile.FieldType.int) [((0 : Nat), (9 : Nat), (12 : Nat), (25 : Nat))] ∈ o_WS := o_mem (List.mem_of_getElem? (i := 748) (by decide +kernel)) rfl
theorem ml_L_30 : Cond.methodLink RL 30 yX6_parent ∈ o_WS := o_mem (List.mem_of_getElem? (i := 749) (by decide +kernel)) rfl
theorem im_X6_parent : Cond.instanceMethod yX6_parent ∈ o_WS := o_mem (List.mem_of_getElem? (i := 750) (by decide +kernel)) rfl
theorem se_X6_parent : Cond.selects RX6 yX6_parent yX6_parent ∈ o_WS := o_mem (List.mem_of_getElem? (i := 751) (by decide +kernel)) rfl
theorem co_X6_parent : Cond.code yX6_parent cX6_parent 2 (Option.some Jvm.ClassFile.FieldType.int) ∈ o_WS := o_mem (List.mem_of_getElem? (i := 752) (by decide +kernel)) rfl
theorem ml_X6_128 : Cond.methodLink RX6 128 yX5_holder ∈ o_WS := o_mem (List.mem_of_getElem? (i := 753) (by decide +kernel)) rfl
theorem im_X5_holder : Cond.instanceMethod yX5_holder ∈ o_WS := o_mem (List.mem_of_getElem? (i := 754) (by decide +kernel)) rfl
theorem se_X5_holder : Cond.selects RX5 yX5_holder yX5_holder ∈ o_WS := o_mem (List.mem_of_getElem? (i := 755) (by decide +kernel)) rfl
theorem co_X5_holder : Cond.code yX5_holder cX5_holder 4 (Option.some Jvm.ClassFile.FieldType.int) ∈ o_WS := o_mem (List.mem_of_getElem? (i := 756) (by decide +kernel)) rfl
theorem ml_L_114 : Cond.methodLink RL 114 yL_childCount ∈ o_WS := o_mem (List.mem_of_getElem? (i := 757) (by decide +kernel)) rfl
theorem sm_L_childCount : Cond.static yL_childCount ∈ o_WS := o_mem (List.mem_of_getElem? (i := 758) (by decide +kernel)) rfl
theorem co_L_childCount : Cond.codeWith yL_childCount cL_childCount 4 (Option.some Jvm.ClassFile.FieldType.int) [((0 : Nat), (9 : Nat), (12 : Nat), (25 : Nat))] ∈ o_WS := o_mem (List.mem_of_getElem? (i := 759) (by decide +kernel)) rfl
theorem ml_L_33 : Cond.methodLink RL 33 yX6_childCount ∈ o_WS := o_mem (List.mem_of_getElem? (i := 760) (by decide +kernel)) rfl
theorem im_X6_childCount : Cond.instanceMethod yX6_childCount ∈ o_WS := o_mem (List.mem_of_getElem? (i := 761) (by decide +kernel)) rfl
theorem se_X6_childCount : Cond.selects RX6 yX6_childCount yX6_childCount ∈ o_WS := o_mem (List.mem_of_getElem? (i := 762) (by decide +kernel)) rfl
theorem co_X6_childCount : Cond.code yX6_childCount cX6_childCount 2 (Option.some Jvm.ClassFile.FieldType.int) ∈ o_WS := o_mem (List.mem_of_getElem? (i := 763) (by decide +kernel)) rfl
theorem ml_L_117 : Cond.methodLink RL 117 yL_child ∈ o_WS := o_mem (List.mem_of_getElem? (i := 764) (by decide +kernel)) rfl
theorem sm_L_child : Cond.static yL_child ∈ o_WS := o_mem (List.mem_of_getElem? (i := 765) (by decide +kernel)) rfl
theorem co_L_child : Cond.codeWith yL_child cL_child 5 (Option.some Jvm.ClassFile.FieldType.int) [((0 : Nat), (10 : Nat), (13 : Nat), (25 : Nat))] ∈ o_WS := o_mem (List.mem_of_getElem? (i := 766) (by decide +kernel)) rfl
theorem ml_L_36 : Cond.methodLink RL 36 yX6_child ∈ o_WS := o_mem (List.mem_of_getElem? (i := 767) (by decide +kernel)) rfl
theorem im_X6_child : Cond.instanceMethod yX6_child ∈ o_WS := o_mem (List.mem_of_getElem? (i := 768) (by decide +kernel)) rfl
theorem se_X6_child : Cond.selects RX6 yX6_child yX6_child ∈ o_WS := o_mem (List.mem_of_getElem? (i := 769) (by decide +kernel)) rfl
theorem co_X6_child : Cond.code yX6_child cX6_child 4 (Option.some Jvm.ClassFile.FieldType.int) ∈ o_WS := o_mem (List.mem_of_getElem? (i := 770) (by decide +kernel)) rfl
theorem ml_X6_134 : Cond.methodLink RX6 134 yX5_nthChild ∈ o_WS := o_mem (List.mem_of_getElem? (i := 771) (by decide +kernel)) rfl
theorem im_X5_nthChild : Cond.instanceMethod yX5_nthChild ∈ o_WS := o_mem (List.mem_of_getElem? (i := 772) (by decide +kernel)) rfl
theorem se_X5_nthChild : Cond.selects RX5 yX5_nthChild yX5_nthChild ∈ o_WS := o_mem (List.mem_of_getElem? (i := 773) (by decide +kernel)) rfl
theorem co_X5_nthChild : Cond.code yX5_nthChild cX5_nthChild 7 (Option.some Jvm.ClassFile.FieldType.int) ∈ o_WS := o_mem (List.mem_of_getElem? (i := 774) (by decide +kernel)) rfl
theorem ml_L_120 : Cond.methodLink RL 120 yL_line ∈ o_WS := o_mem (List.mem_of_getElem? (i := 776) (by decide +kernel)) rfl
theorem sm_L_line : Cond.static yL_line ∈ o_WS := o_mem (List.mem_of_getElem? (i := 777) (by decide +kernel)) rfl
theorem co_L_line : Cond.codeWith yL_line cL_line 4 (Option.some Jvm.ClassFile.FieldType.int) [((0 : Nat), (9 : Nat), (12 : Nat), (25 : Nat))] ∈ o_WS := o_mem (List.mem_of_getElem? (i := 778) (by decide +kernel)) rfl
theorem ml_L_39 : Cond.methodLink RL 39 yX6_line ∈ o_WS := o_mem (List.mem_of_getElem? (i := 779) (by decide +kernel)) rfl
theorem im_X6_line : Cond.instanceMethod yX6_line ∈ o_WS := o_mem (List.mem_of_getElem? (i := 780) (by decide +kernel)) rfl
theorem se_X6_line : Cond.selects RX6 yX6_line yX6_line ∈ o_WS := o_mem (List.mem_of_getElem? (i := 781) (by decide +kernel)) rfl
theorem co_X6_line : Cond.code yX6_line cX6_line 2 (Option.some Jvm.ClassFile.FieldType.int) ∈ o_WS := o_mem (List.mem_of_getElem? (i := 782) (by decide +kernel)) rfl
theorem ml_L_123 : Cond.methodLink RL 123 yL_column ∈ o_WS := o_mem (List.mem_of_getElem? (i := 783) (by decide +kernel)) rfl
theorem sm_L_column : Cond.static yL_column ∈ o_WS := o_mem (List.mem_of_getElem? (i := 784) (by decide +kernel)) rfl
theorem co_L_column : Cond.codeWith yL_column cL_column 4 (Option.some Jvm.ClassFile.FieldType.int) [((0 : Nat), (9 : Nat), (12 : Nat), (25 : Nat))] ∈ o_WS := o_mem (List.mem_of_getElem? (i := 785) (by decide +kernel)) rfl
theorem ml_L_42 : Cond.methodLink RL 42 yX6_column ∈ o_WS := o_mem (List.mem_of_getElem? (i := 786) (by decide +kernel)) rfl
theorem im_X6_column : Cond.instanceMethod yX6_column ∈ o_WS := o_mem (List.mem_of_getElem? (i := 787) (by decide +kernel)) rfl
theorem se_X6_column : Cond.selects RX6 yX6_column yX6_column ∈ o_WS := o_mem (List.mem_of_getElem? (i := 788) (by decide +kernel)) rfl
theorem co_X6_column : Cond.code yX6_column cX6_column 2 (Option.some Jvm.ClassFile.FieldType.int) ∈ o_WS := o_mem (List.mem_of_getElem? (i := 789) (by decide +kernel)) rfl
theorem ml_L_126 : Cond.methodLink RL 126 yL_value ∈ o_WS := o_mem (List.mem_of_getElem? (i := 790) (by decide +kernel)) rfl
theorem sm_L_value : Cond.static yL_value ∈ o_WS := o_mem (List.mem_of_getElem? (i := 791) (by decide +kernel)) rfl
theorem co_L_value : Cond.codeWith yL_value cL_value 4 (Option.some Jvm.ClassFile.FieldType.int) [((0 : Nat), (9 : Nat), (12 : Nat), (25 : Nat))] ∈ o_WS := o_mem (List.mem_of_getElem? (i := 792) (by decide +kernel)) rfl
theorem ml_L_45 : Cond.methodLink RL 45 yX6_value ∈ o_WS := o_mem (List.mem_of_getElem? (i := 793) (by decide +kernel)) rfl
theorem im_X6_value : Cond.instanceMethod yX6_value ∈ o_WS := o_mem (List.mem_of_getElem? (i := 794) (by decide +kernel)) rfl
theorem se_X6_value : Cond.selects RX6 yX6_value yX6_value ∈ o_WS := o_mem (List.mem_of_getElem? (i := 795) (by decide +kernel)) rfl
theorem co_X6_value : Cond.code yX6_value cX6_value 2 (Option.some Jvm.ClassFile.FieldType.int) ∈ o_WS := o_mem (List.mem_of_getElem? (i := 796) (by decide +kernel)) rfl
theorem ml_L_129 : Cond.methodLink RL 129 yL_letter ∈ o_WS := o_mem (List.mem_of_getElem? (i := 797) (by decide +kernel)) rfl
theorem sm_L_letter : Cond.static yL_letter ∈ o_WS := o_mem (List.mem_of_getElem? (i := 798) (by decide +kernel)) rfl
theorem co_L_letter : Cond.codeWith yL_letter cL_letter 5 (Option.some Jvm.ClassFile.FieldType.int) [((0 : Nat), (10 : Nat), (13 : Nat), (25 : Nat))] ∈ o_WS := o_mem (List.mem_of_getElem? (i := 799) (by decide +kernel)) rfl
theorem ml_L_48 : Cond.methodLink RL 48 yX6_letter ∈ o_WS := o_mem (List.mem_of_getElem? (i := 800) (by decide +kernel)) rfl
theorem im_X6_letter : Cond.instanceMethod yX6_letter ∈ o_WS := o_mem (List.mem_of_getElem? (i := 801) (by decide +kernel)) rfl
theorem se_X6_letter : Cond.selects RX6 yX6_letter yX6_letter ∈ o_WS := o_mem (List.mem_of_getElem? (i := 802) (by decide +kernel)) rfl
theorem co_X6_letter : Cond.code yX6_letter cX6_letter 3 (Option.some Jvm.ClassFile.FieldType.int) ∈ o_WS := o_mem (List.mem_of_getElem? (i := 803) (by decide +kernel)) rfl
theorem ml_L_132 : Cond.methodLink RL 132 yL_depth ∈ o_WS := o_mem (List.mem_of_getElem? (i := 804) (by decide +kernel)) rfl
theorem sm_L_depth : Cond.static yL_depth ∈ o_WS := o_mem (List.mem_of_getElem? (i := 805) (by decide +kernel)) rfl
theorem co_L_depth : Cond.codeWith yL_depth cL_depth 4 (Option.some Jvm.ClassFile.FieldType.int) [((0 : Nat), (9 : Nat), (12 : Nat), (25 : Nat))] ∈ o_WS := o_mem (List.mem_of_getElem? (i := 806) (by decide +kernel)) rfl
theorem ml_L_51 : Cond.methodLink RL 51 yX6_depth ∈ o_WS := o_mem (List.mem_of_getElem? (i := 807) (by decide +kernel)) rfl
theorem im_X6_depth : Cond.instanceMethod yX6_depth ∈ o_WS := o_mem (List.mem_of_getElem? (i := 808) (by decide +kernel)) rfl
theorem se_X6_depth : Cond.selects RX6 yX6_depth yX6_depth ∈ o_WS := o_mem (List.mem_of_getElem? (i := 809) (by decide +kernel)) rfl
theorem co_X6_depth : Cond.code yX6_depth cX6_depth 2 (Option.some Jvm.ClassFile.FieldType.int) ∈ o_WS := o_mem (List.mem_of_getElem? (i := 810) (by decide +kernel)) rfl
theorem ml_L_144 : Cond.methodLink RL 144 yL_remove ∈ o_WS := o_mem (List.mem_of_getElem? (i := 811) (by decide +kernel)) rfl
theorem sm_L_remove : Cond.static yL_remove ∈ o_WS := o_mem (List.mem_of_getElem? (i := 812) (by decide +kernel)) rfl
theorem co_L_remove : Cond.codeWith yL_remove cL_remove 4 (Option.some Jvm.ClassFile.FieldType.int) [((0 : Nat), (9 : Nat), (12 : Nat), (25 : Nat)), ((0 : Nat), (9 : Nat), (15 : Nat), (13 : Nat))] ∈ o_WS := o_mem (List.mem_of_getElem? (i := 813) (by decide +kernel)) rfl
theorem ml_L_54 : Cond.methodLink RL 54 yX6_remove ∈ o_WS := o_mem (List.mem_of_getElem? (i := 814) (by decide +kernel)) rfl
theorem im_X6_remove : Cond.instanceMethod yX6_remove ∈ o_WS := o_mem (List.mem_of_getElem? (i := 815) (by decide +kernel)) rfl
theorem se_X6_remove : Cond.selects RX6 yX6_remove yX6_remove ∈ o_WS := o_mem (List.mem_of_getElem? (i := 816) (by decide +kernel)) rfl
theorem co_X6_remove : Cond.code yX6_remove cX6_remove 2 (Option.some Jvm.ClassFile.FieldType.int) ∈ o_WS := o_mem (List.mem_of_getElem? (i := 817) (by decide +kernel)) rfl
theorem ml_X6_155 : Cond.methodLink RX6 155 yX5_erase ∈ o_WS := o_mem (List.mem_of_getElem? (i := 819) (by decide +kernel)) rfl
theorem im_X5_erase : Cond.instanceMethod yX5_erase ∈ o_WS := o_mem (List.mem_of_getElem? (i := 820) (by decide +kernel)) rfl
theorem se_X5_erase : Cond.selects RX5 yX5_erase yX5_erase ∈ o_WS := o_mem (List.mem_of_getElem? (i := 821) (by decide +kernel)) rfl
theorem co_X5_erase : Cond.code yX5_erase cX5_erase 3 (Option.none : Option Jvm.ClassFile.FieldType) ∈ o_WS := o_mem (List.mem_of_getElem? (i := 822) (by decide +kernel)) rfl
theorem ml_X5_85 : Cond.methodLink RX5 85 yX4_turn ∈ o_WS := o_mem (List.mem_of_getElem? (i := 823) (by decide +kernel)) rfl
theorem im_X4_turn : Cond.instanceMethod yX4_turn ∈ o_WS := o_mem (List.mem_of_getElem? (i := 824) (by decide +kernel)) rfl
theorem se_X4_turn : Cond.selects RX4 yX4_turn yX4_turn ∈ o_WS := o_mem (List.mem_of_getElem? (i := 825) (by decide +kernel)) rfl
theorem co_X4_turn : Cond.code yX4_turn cX4_turn 4 (Option.none : Option Jvm.ClassFile.FieldType) ∈ o_WS := o_mem (List.mem_of_getElem? (i := 826) (by decide +kernel)) rfl
theorem ml_X4_26 : Cond.methodLink RX4 26 yX4_reverse ∈ o_WS := o_mem (List.mem_of_getElem? (i := 827) (by decide +kernel)) rfl
theorem im_X4_reverse : Cond.instanceMethod yX4_reverse ∈ o_WS := o_mem (List.mem_of_getElem? (i := 829) (by decide +kernel)) rfl
theorem co_X4_reverse : Cond.code yX4_reverse cX4_reverse 6 (Option.none : Option Jvm.ClassFile.FieldType) ∈ o_WS := o_mem (List.mem_of_getElem? (i := 830) (by decide +kernel)) rfl
theorem ml_X4_30 : Cond.methodLink RX4 30 yX4_at ∈ o_WS := o_mem (List.mem_of_getElem? (i := 831) (by decide +kernel)) rfl
theorem ml_X4_34 : Cond.methodLink RX4 34 yX4_put ∈ o_WS := o_mem (List.mem_of_getElem? (i := 832) (by decide +kernel)) rfl
theorem ml_L_147 : Cond.methodLink RL 147 yL_move ∈ o_WS := o_mem (List.mem_of_getElem? (i := 833) (by decide +kernel)) rfl
theorem sm_L_move : Cond.static yL_move ∈ o_WS := o_mem (List.mem_of_getElem? (i := 834) (by decide +kernel)) rfl
theorem co_L_move : Cond.codeWith yL_move cL_move 6 (Option.some Jvm.ClassFile.FieldType.int) [((0 : Nat), (12 : Nat), (15 : Nat), (25 : Nat)), ((0 : Nat), (12 : Nat), (19 : Nat), (13 : Nat))] ∈ o_WS := o_mem (List.mem_of_getElem? (i := 835) (by decide +kernel)) rfl
theorem ml_L_57 : Cond.methodLink RL 57 yX6_move ∈ o_WS := o_mem (List.mem_of_getElem? (i := 836) (by decide +kernel)) rfl
theorem im_X6_move : Cond.instanceMethod yX6_move ∈ o_WS := o_mem (List.mem_of_getElem? (i := 837) (by decide +kernel)) rfl
theorem se_X6_move : Cond.selects RX6 yX6_move yX6_move ∈ o_WS := o_mem (List.mem_of_getElem? (i := 838) (by decide +kernel)) rfl
theorem co_X6_move : Cond.code yX6_move cX6_move 5 (Option.some Jvm.ClassFile.FieldType.int) ∈ o_WS := o_mem (List.mem_of_getElem? (i := 839) (by decide +kernel)) rfl
theorem ml_X6_160 : Cond.methodLink RX6 160 yX5_after ∈ o_WS := o_mem (List.mem_of_getElem? (i := 841) (by decide +kernel)) rfl
theorem ml_X6_165 : Cond.methodLink RX6 165 yX5_nesting ∈ o_WS := o_mem (List.mem_of_getElem? (i := 843) (by decide +kernel)) rfl
theorem im_X5_nesting : Cond.instanceMethod yX5_nesting ∈ o_WS := o_mem (List.mem_of_getElem? (i := 844) (by decide +kernel)) rfl
theorem se_X5_nesting : Cond.selects RX5 yX5_nesting yX5_nesting ∈ o_WS := o_mem (List.mem_of_getElem? (i := 845) (by decide +kernel)) rfl
theorem co_X5_nesting : Cond.code yX5_nesting cX5_nesting 2 (Option.some Jvm.ClassFile.FieldType.int) ∈ o_WS := o_mem (List.mem_of_getElem? (i := 846) (by decide +kernel)) rfl
theorem ml_X6_168 : Cond.methodLink RX6 168 yX5_innerNesting ∈ o_WS := o_mem (List.mem_of_getElem? (i := 847) (by decide +kernel)) rfl
theorem im_X5_innerNesting : Cond.instanceMethod yX5_innerNesting ∈ o_WS := o_mem (List.mem_of_getElem? (i := 848) (by decide +kernel)) rfl
theorem se_X5_innerNesting : Cond.selects RX5 yX5_innerNesting yX5_innerNesting ∈ o_WS := o_mem (List.mem_of_getElem? (i := 849) (by decide +kernel)) rfl
theorem co_X5_innerNesting : Cond.code yX5_innerNesting cX5_innerNesting 6 (Option.some Jvm.ClassFile.FieldType.int) ∈ o_WS := o_mem (List.mem_of_getElem? (i := 850) (by decide +kernel)) rfl
theorem ml_X5_77 : Cond.methodLink RX5 77 yX5_nesting ∈ o_WS := o_mem (List.mem_of_getElem? (i := 851) (by decide +kernel)) rfl
theorem ml_X5_80 : Cond.methodLink RX5 80 yJ9_max_7cf53 ∈ o_WS := o_mem (List.mem_of_getElem? (i := 852) (by decide +kernel)) rfl
theorem sm_J9_max_7cf53 : Cond.static yJ9_max_7cf53 ∈ o_WS := o_mem (List.mem_of_getElem? (i := 853) (by decide +kernel)) rfl
theorem co_J9_max_7cf53 : Cond.code yJ9_max_7cf53 cJ9_max_7cf53 2 (Option.some Jvm.ClassFile.FieldType.int) ∈ o_WS := o_mem (List.mem_of_getElem? (i := 854) (by decide +kernel)) rfl
theorem ml_X6_173 : Cond.methodLink RX6 173 yX5_placeFor ∈ o_WS := o_mem (List.mem_of_getElem? (i := 856) (by decide +kernel)) rfl
theorem im_X5_placeFor : Cond.instanceMethod yX5_placeFor ∈ o_WS := o_mem (List.mem_of_getElem? (i := 857) (by decide +kernel)) rfl
theorem se_X5_placeFor : Cond.selects RX5 yX5_placeFor yX5_placeFor ∈ o_WS := o_mem (List.mem_of_getElem? (i := 858) (by decide +kernel)) rfl
theorem co_X5_placeFor : Cond.code yX5_placeFor cX5_placeFor 8 (Option.some Jvm.ClassFile.FieldType.int) ∈ o_WS := o_mem (List.mem_of_getElem? (i := 859) (by decide +kernel)) rfl
theorem ml_X6_179 : Cond.methodLink RX6 179 yX5_carry ∈ o_WS := o_mem (List.mem_of_getElem? (i := 861) (by decide +kernel)) rfl
theorem im_X5_carry : Cond.instanceMethod yX5_carry ∈ o_WS := o_mem (List.mem_of_getElem? (i := 862) (by decide +kernel)) rfl
theorem se_X5_carry : Cond.selects RX5 yX5_carry yX5_carry ∈ o_WS := o_mem (List.mem_of_getElem? (i := 863) (by decide +kernel)) rfl
theorem co_X5_carry : Cond.code yX5_carry cX5_carry 8 (Option.some Jvm.ClassFile.FieldType.int) ∈ o_WS := o_mem (List.mem_of_getElem? (i := 864) (by decide +kernel)) rfl
theorem ml_L_151 : Cond.methodLink RL 151 yL_rename ∈ o_WS := o_mem (List.mem_of_getElem? (i := 865) (by decide +kernel)) rfl
theorem sm_L_rename : Cond.static yL_rename ∈ o_WS := o_mem (List.mem_of_getElem? (i := 866) (by decide +kernel)) rfl
theorem co_L_rename : Cond.codeWith yL_rename cL_rename 6 (Option.some Jvm.ClassFile.FieldType.int) [((0 : Nat), (11 : Nat), (14 : Nat), (25 : Nat)), ((0 : Nat), (11 : Nat), (18 : Nat), (13 : Nat))] ∈ o_WS := o_mem (List.mem_of_getElem? (i := 867) (by decide +kernel)) rfl
theorem ml_L_61 : Cond.methodLink RL 61 yX6_rename ∈ o_WS := o_mem (List.mem_of_getElem? (i := 868) (by decide +kernel)) rfl
theorem im_X6_rename : Cond.instanceMethod yX6_rename ∈ o_WS := o_mem (List.mem_of_getElem? (i := 869) (by decide +kernel)) rfl
theorem se_X6_rename : Cond.selects RX6 yX6_rename yX6_rename ∈ o_WS := o_mem (List.mem_of_getElem? (i := 870) (by decide +kernel)) rfl
theorem co_X6_rename : Cond.code yX6_rename cX6_rename 4 (Option.some Jvm.ClassFile.FieldType.int) ∈ o_WS := o_mem (List.mem_of_getElem? (i := 871) (by decide +kernel)) rfl
theorem ml_X6_182 : Cond.methodLink RX6 182 yX6_isWord ∈ o_WS := o_mem (List.mem_of_getElem? (i := 872) (by decide +kernel)) rfl
theorem sm_X6_isWord : Cond.static yX6_isWord ∈ o_WS := o_mem (List.mem_of_getElem? (i := 873) (by decide +kernel)) rfl
theorem co_X6_isWord : Cond.code yX6_isWord cX6_isWord 3 (Option.some Jvm.ClassFile.FieldType.boolean) ∈ o_WS := o_mem (List.mem_of_getElem? (i := 874) (by decide +kernel)) rfl
theorem ml_X6_215 : Cond.methodLink RX6 215 yX6_isLetter ∈ o_WS := o_mem (List.mem_of_getElem? (i := 875) (by decide +kernel)) rfl
theorem ml_X6_218 : Cond.methodLink RX6 218 yX6_isDigit ∈ o_WS := o_mem (List.mem_of_getElem? (i := 876) (by decide +kernel)) rfl
theorem ml_X6_188 : Cond.methodLink RX6 188 yX5_respell ∈ o_WS := o_mem (List.mem_of_getElem? (i := 878) (by decide +kernel)) rfl
theorem im_X5_respell : Cond.instanceMethod yX5_respell ∈ o_WS := o_mem (List.mem_of_getElem? (i := 879) (by decide +kernel)) rfl
theorem se_X5_respell : Cond.selects RX5 yX5_respell yX5_respell ∈ o_WS := o_mem (List.mem_of_getElem? (i := 880) (by decide +kernel)) rfl
theorem co_X5_respell : Cond.code yX5_respell cX5_respell 5 (Option.none : Option Jvm.ClassFile.FieldType) ∈ o_WS := o_mem (List.mem_of_getElem? (i := 881) (by decide +kernel)) rfl
theorem ml_L_160 : Cond.methodLink RL 160 yL_written ∈ o_WS := o_mem (List.mem_of_getElem? (i := 882) (by decide +kernel)) rfl
theorem sm_L_written : Cond.static yL_written ∈ o_WS := o_mem (List.mem_of_getElem? (i := 883) (by decide +kernel)) rfl
theorem co_L_written : Cond.codeWith yL_written cL_written 4 (Option.some Jvm.ClassFile.FieldType.int) [((0 : Nat), (9 : Nat), (12 : Nat), (25 : Nat))] ∈ o_WS := o_mem (List.mem_of_getElem? (i := 884) (by decide +kernel)) rfl
theorem ml_L_65 : Cond.methodLink RL 65 yX6_written ∈ o_WS := o_mem (List.mem_of_getElem? (i := 885) (by decide +kernel)) rfl
theorem im_X6_written : Cond.instanceMethod yX6_written ∈ o_WS := o_mem (List.mem_of_getElem? (i := 886) (by decide +kernel)) rfl
theorem se_X6_written : Cond.selects RX6 yX6_written yX6_written ∈ o_WS := o_mem (List.mem_of_getElem? (i := 887) (by decide +kernel)) rfl
theorem co_X6_written : Cond.code yX6_written cX6_written 2 (Option.some Jvm.ClassFile.FieldType.int) ∈ o_WS := o_mem (List.mem_of_getElem? (i := 888) (by decide +kernel)) rfl
theorem ml_X6_203 : Cond.methodLink RX6 203 yX2_get ∈ o_WS := o_mem (List.mem_of_getElem? (i := 890) (by decide +kernel)) rfl
theorem im_X2_get : Cond.instanceMethod yX2_get ∈ o_WS := o_mem (List.mem_of_getElem? (i := 891) (by decide +kernel)) rfl
theorem se_X2_get : Cond.selects RX2 yX2_get yX2_get ∈ o_WS := o_mem (List.mem_of_getElem? (i := 892) (by decide +kernel)) rfl
theorem co_X2_get : Cond.code yX2_get cX2_get 2 (Option.some Jvm.ClassFile.FieldType.int) ∈ o_WS := o_mem (List.mem_of_getElem? (i := 893) (by decide +kernel)) rfl
theorem ml_X2_26 : Cond.methodLink RX2 26 yX4_at ∈ o_WS := o_mem (List.mem_of_getElem? (i := 894) (by decide +kernel)) rfl
theorem kl_L_69 : Cond.classLink RL 69 "OffsideParserModel" ∈ o_WS := o_mem (List.mem_of_getElem? (i := 895) (by decide +kernel)) rfl
theorem ib_X7 : Cond.instantiable RX7 32 ∈ o_WS := o_mem (List.mem_of_getElem? (i := 896) (by decide +kernel)) rfl
theorem ml_L_71 : Cond.methodLink RL 71 yX7_init ∈ o_WS := o_mem (List.mem_of_getElem? (i := 897) (by decide +kernel)) rfl
theorem im_X7_init : Cond.instanceMethod yX7_init ∈ o_WS := o_mem (List.mem_of_getElem? (i := 898) (by decide +kernel)) rfl
theorem co_X7_init : Cond.code yX7_init cX7_init 1 (Option.none : Option Jvm.ClassFile.FieldType) ∈ o_WS := o_mem (List.mem_of_getElem? (i := 899) (by decide +kernel)) rfl
theorem ml_X7_1 : Cond.methodLink RX7 1 ⟨"java/lang/Object", "<init>", "()V"⟩ ∈ o_WS := o_mem (List.mem_of_getElem? (i := 900) (by decide +kernel)) rfl
theorem cn_X7_49 : Cond.constant RX7 49 (60000 : Int32) ∈ o_WS := o_mem (List.mem_of_getElem? (i := 901) (by decide +kernel)) rfl
theorem ml_X7_65 : Cond.methodLink RX7 65 yX7_begin ∈ o_WS := o_mem (List.mem_of_getElem? (i := 902) (by decide +kernel)) rfl
theorem im_X7_begin : Cond.instanceMethod yX7_begin ∈ o_WS := o_mem (List.mem_of_getElem? (i := 904) (by decide +kernel)) rfl
theorem co_X7_begin : Cond.code yX7_begin cX7_begin 1 (Option.none : Option Jvm.ClassFile.FieldType) ∈ o_WS := o_mem (List.mem_of_getElem? (i := 905) (by decide +kernel)) rfl
theorem ml_X7_98 : Cond.methodLink RX7 98 yX7_add ∈ o_WS := o_mem (List.mem_of_getElem? (i := 906) (by decide +kernel)) rfl
theorem im_X7_add : Cond.instanceMethod yX7_add ∈ o_WS := o_mem (List.mem_of_getElem? (i := 908) (by decide +kernel)) rfl
theorem co_X7_add : Cond.code yX7_add cX7_add 7 (Option.some Jvm.ClassFile.FieldType.int) ∈ o_WS := o_mem (List.mem_of_getElem? (i := 909) (by decide +kernel)) rfl
theorem ml_X7_102 : Cond.methodLink RX7 102 yX7_countOf ∈ o_WS := o_mem (List.mem_of_getElem? (i := 910) (by decide +kernel)) rfl
theorem im_X7_countOf : Cond.instanceMethod yX7_countOf ∈ o_WS := o_mem (List.mem_of_getElem? (i := 912) (by decide +kernel)) rfl
theorem co_X7_countOf : Cond.code yX7_countOf cX7_countOf 4 (Option.some Jvm.ClassFile.FieldType.int) ∈ o_WS := o_mem (List.mem_of_getElem? (i := 913) (by decide +kernel)) rfl
theorem ml_X7_105 : Cond.methodLink RX7 105 yX7_insert ∈ o_WS := o_mem (List.mem_of_getElem? (i := 914) (by decide +kernel)) rfl
theorem im_X7_insert : Cond.instanceMethod yX7_insert ∈ o_WS := o_mem (List.mem_of_getElem? (i := 916) (by decide +kernel)) rfl
theorem co_X7_insert : Cond.code yX7_insert cX7_insert 5 (Option.none : Option Jvm.ClassFile.FieldType) ∈ o_WS := o_mem (List.mem_of_getElem? (i := 917) (by decide +kernel)) rfl
theorem ml_X7_109 : Cond.methodLink RX7 109 yX7_childOf ∈ o_WS := o_mem (List.mem_of_getElem? (i := 918) (by decide +kernel)) rfl
theorem im_X7_childOf : Cond.instanceMethod yX7_childOf ∈ o_WS := o_mem (List.mem_of_getElem? (i := 920) (by decide +kernel)) rfl
theorem co_X7_childOf : Cond.code yX7_childOf cX7_childOf 5 (Option.some Jvm.ClassFile.FieldType.int) ∈ o_WS := o_mem (List.mem_of_getElem? (i := 921) (by decide +kernel)) rfl
theorem ml_X7_68 : Cond.methodLink RX7 68 yX7_number ∈ o_WS := o_mem (List.mem_of_getElem? (i := 922) (by decide +kernel)) rfl
theorem im_X7_number : Cond.instanceMethod yX7_number ∈ o_WS := o_mem (List.mem_of_getElem? (i := 924) (by decide +kernel)) rfl
theorem co_X7_number : Cond.code yX7_number cX7_number 2 (Option.none : Option Jvm.ClassFile.FieldType) ∈ o_WS := o_mem (List.mem_of_getElem? (i := 925) (by decide +kernel)) rfl
theorem ml_X7_116 : Cond.methodLink RX7 116 yX7_following ∈ o_WS := o_mem (List.mem_of_getElem? (i := 926) (by decide +kernel)) rfl
theorem im_X7_following : Cond.instanceMethod yX7_following ∈ o_WS := o_mem (List.mem_of_getElem? (i := 928) (by decide +kernel)) rfl
theorem co_X7_following : Cond.code yX7_following cX7_following 4 (Option.some Jvm.ClassFile.FieldType.int) ∈ o_WS := o_mem (List.mem_of_getElem? (i := 929) (by decide +kernel)) rfl
theorem fl_X7_71 : Cond.fieldLink RX7 71 "OffsideParserModel" "thrown" "I" ∈ o_WS := o_mem (List.mem_of_getElem? (i := 930) (by decide +kernel)) rfl
theorem fl_X7_9 : Cond.fieldLink RX7 9 "OffsideParserModel" "text" "[I" ∈ o_WS := o_mem (List.mem_of_getElem? (i := 931) (by decide +kernel)) rfl
theorem fl_X7_89 : Cond.fieldLink RX7 89 "OffsideParserModel" "size" "I" ∈ o_WS := o_mem (List.mem_of_getElem? (i := 932) (by decide +kernel)) rfl
theorem fl_X7_92 : Cond.fieldLink RX7 92 "OffsideParserModel" "made" "I" ∈ o_WS := o_mem (List.mem_of_getElem? (i := 933) (by decide +kernel)) rfl
theorem fl_X7_13 : Cond.fieldLink RX7 13 "OffsideParserModel" "kinds" "[I" ∈ o_WS := o_mem (List.mem_of_getElem? (i := 934) (by decide +kernel)) rfl
theorem fl_X7_16 : Cond.fieldLink RX7 16 "OffsideParserModel" "parents" "[I" ∈ o_WS := o_mem (List.mem_of_getElem? (i := 935) (by decide +kernel)) rfl
theorem fl_X7_19 : Cond.fieldLink RX7 19 "OffsideParserModel" "firsts" "[I" ∈ o_WS := o_mem (List.mem_of_getElem? (i := 936) (by decide +kernel)) rfl
theorem fl_X7_22 : Cond.fieldLink RX7 22 "OffsideParserModel" "nexts" "[I" ∈ o_WS := o_mem (List.mem_of_getElem? (i := 937) (by decide +kernel)) rfl
theorem fl_X7_25 : Cond.fieldLink RX7 25 "OffsideParserModel" "lines" "[I" ∈ o_WS := o_mem (List.mem_of_getElem? (i := 938) (by decide +kernel)) rfl
theorem fl_X7_28 : Cond.fieldLink RX7 28 "OffsideParserModel" "columns" "[I" ∈ o_WS := o_mem (List.mem_of_getElem? (i := 939) (by decide +kernel)) rfl
theorem fl_X7_31 : Cond.fieldLink RX7 31 "OffsideParserModel" "values" "[I" ∈ o_WS := o_mem (List.mem_of_getElem? (i := 940) (by decide +kernel)) rfl
theorem fl_X7_34 : Cond.fieldLink RX7 34 "OffsideParserModel" "starts" "[I" ∈ o_WS := o_mem (List.mem_of_getElem? (i := 941) (by decide +kernel)) rfl
theorem fl_X7_37 : Cond.fieldLink RX7 37 "OffsideParserModel" "letters" "[I" ∈ o_WS := o_mem (List.mem_of_getElem? (i := 942) (by decide +kernel)) rfl
theorem fl_X7_113 : Cond.fieldLink RX7 113 "OffsideParserModel" "nodes" "I" ∈ o_WS := o_mem (List.mem_of_getElem? (i := 943) (by decide +kernel)) rfl
theorem fl_X7_40 : Cond.fieldLink RX7 40 "OffsideParserModel" "idOf" "[I" ∈ o_WS := o_mem (List.mem_of_getElem? (i := 944) (by decide +kernel)) rfl
theorem fl_X7_43 : Cond.fieldLink RX7 43 "OffsideParserModel" "numberOf" "[I" ∈ o_WS := o_mem (List.mem_of_getElem? (i := 945) (by decide +kernel)) rfl
theorem fl_X7_95 : Cond.fieldLink RX7 95 "OffsideParserModel" "repairs" "I" ∈ o_WS := o_mem (List.mem_of_getElem? (i := 946) (by decide +kernel)) rfl
theorem fl_X7_46 : Cond.fieldLink RX7 46 "OffsideParserModel" "repairParts" "[I" ∈ o_WS := o_mem (List.mem_of_getElem? (i := 947) (by decide +kernel)) rfl
theorem fl_X7_50 : Cond.fieldLink RX7 50 "OffsideParserModel" "output" "[I" ∈ o_WS := o_mem (List.mem_of_getElem? (i := 948) (by decide +kernel)) rfl
theorem fl_X7_231 : Cond.fieldLink RX7 231 "OffsideParserModel" "written" "I" ∈ o_WS := o_mem (List.mem_of_getElem? (i := 949) (by decide +kernel)) rfl
theorem fl_X7_53 : Cond.fieldLink RX7 53 "OffsideParserModel" "fed" "[I" ∈ o_WS := o_mem (List.mem_of_getElem? (i := 950) (by decide +kernel)) rfl
theorem fl_X7_125 : Cond.fieldLink RX7 125 "OffsideParserModel" "open" "I" ∈ o_WS := o_mem (List.mem_of_getElem? (i := 951) (by decide +kernel)) rfl
theorem fl_X7_56 : Cond.fieldLink RX7 56 "OffsideParserModel" "openIds" "[I" ∈ o_WS := o_mem (List.mem_of_getElem? (i := 952) (by decide +kernel)) rfl
theorem fl_X7_59 : Cond.fieldLink RX7 59 "OffsideParserModel" "openColumns" "[I" ∈ o_WS := o_mem (List.mem_of_getElem? (i := 953) (by decide +kernel)) rfl
theorem fl_X7_62 : Cond.fieldLink RX7 62 "OffsideParserModel" "items" "[I" ∈ o_WS := o_mem (List.mem_of_getElem? (i := 954) (by decide +kernel)) rfl
theorem fl_X7_136 : Cond.fieldLink RX7 136 "OffsideParserModel" "hasColon" "Z" ∈ o_WS := o_mem (List.mem_of_getElem? (i := 955) (by decide +kernel)) rfl
theorem fl_X7_150 : Cond.fieldLink RX7 150 "OffsideParserModel" "token" "I" ∈ o_WS := o_mem (List.mem_of_getElem? (i := 956) (by decide +kernel)) rfl
theorem fl_X7_153 : Cond.fieldLink RX7 153 "OffsideParserModel" "start" "I" ∈ o_WS := o_mem (List.mem_of_getElem? (i := 957) (by decide +kernel)) rfl
theorem fl_X7_156 : Cond.fieldLink RX7 156 "OffsideParserModel" "end" "I" ∈ o_WS := o_mem (List.mem_of_getElem? (i := 958) (by decide +kernel)) rfl
theorem fl_X7_119 : Cond.fieldLink RX7 119 "OffsideParserModel" "line" "I" ∈ o_WS := o_mem (List.mem_of_getElem? (i := 959) (by decide +kernel)) rfl
theorem fl_X7_122 : Cond.fieldLink RX7 122 "OffsideParserModel" "column" "I" ∈ o_WS := o_mem (List.mem_of_getElem? (i := 960) (by decide +kernel)) rfl
theorem fl_X7_159 : Cond.fieldLink RX7 159 "OffsideParserModel" "isFirst" "Z" ∈ o_WS := o_mem (List.mem_of_getElem? (i := 961) (by decide +kernel)) rfl
theorem ml_L_80 : Cond.methodLink RL 80 yX7_thrown ∈ o_WS := o_mem (List.mem_of_getElem? (i := 1027) (by decide +kernel)) rfl
theorem im_X7_thrown : Cond.instanceMethod yX7_thrown ∈ o_WS := o_mem (List.mem_of_getElem? (i := 1028) (by decide +kernel)) rfl
theorem se_X7_thrown : Cond.selects RX7 yX7_thrown yX7_thrown ∈ o_WS := o_mem (List.mem_of_getElem? (i := 1029) (by decide +kernel)) rfl
theorem co_X7_thrown : Cond.code yX7_thrown cX7_thrown 1 (Option.some Jvm.ClassFile.FieldType.int) ∈ o_WS := o_mem (List.mem_of_getElem? (i := 1030) (by decide +kernel)) rfl
theorem ml_L_79 : Cond.methodLink RL 79 yX7_feed ∈ o_WS := o_mem (List.mem_of_getElem? (i := 1031) (by decide +kernel)) rfl
theorem im_X7_feed : Cond.instanceMethod yX7_feed ∈ o_WS := o_mem (List.mem_of_getElem? (i := 1032) (by decide +kernel)) rfl
theorem se_X7_feed : Cond.selects RX7 yX7_feed yX7_feed ∈ o_WS := o_mem (List.mem_of_getElem? (i := 1033) (by decide +kernel)) rfl
theorem co_X7_feed : Cond.code yX7_feed cX7_feed 5 (Option.some Jvm.ClassFile.FieldType.int) ∈ o_WS := o_mem (List.mem_of_getElem? (i := 1034) (by decide +kernel)) rfl
theorem ml_X7_81 : Cond.methodLink RX7 81 yX7_take ∈ o_WS := o_mem (List.mem_of_getElem? (i := 1035) (by decide +kernel)) rfl
theorem im_X7_take : Cond.instanceMethod yX7_take ∈ o_WS := o_mem (List.mem_of_getElem? (i := 1037) (by decide +kernel)) rfl
theorem co_X7_take : Cond.code yX7_take cX7_take 5 (Option.some Jvm.ClassFile.FieldType.int) ∈ o_WS := o_mem (List.mem_of_getElem? (i := 1038) (by decide +kernel)) rfl
theorem ml_X7_77 : Cond.methodLink RX7 77 yX7_byteOf ∈ o_WS := o_mem (List.mem_of_getElem? (i := 1039) (by decide +kernel)) rfl
theorem sm_X7_byteOf : Cond.static yX7_byteOf ∈ o_WS := o_mem (List.mem_of_getElem? (i := 1040) (by decide +kernel)) rfl
theorem co_X7_byteOf : Cond.code yX7_byteOf cX7_byteOf 3 (Option.some Jvm.ClassFile.FieldType.int) ∈ o_WS := o_mem (List.mem_of_getElem? (i := 1041) (by decide +kernel)) rfl
theorem cl_X7_75 : Cond.constantLong RX7 75 (255 : Int64) ∈ o_WS := o_mem (List.mem_of_getElem? (i := 1042) (by decide +kernel)) rfl
theorem ml_X7_85 : Cond.methodLink RX7 85 yX7_fail ∈ o_WS := o_mem (List.mem_of_getElem? (i := 1043) (by decide +kernel)) rfl
theorem im_X7_fail : Cond.instanceMethod yX7_fail ∈ o_WS := o_mem (List.mem_of_getElem? (i := 1045) (by decide +kernel)) rfl
theorem co_X7_fail : Cond.code yX7_fail cX7_fail 2 (Option.some Jvm.ClassFile.FieldType.int) ∈ o_WS := o_mem (List.mem_of_getElem? (i := 1046) (by decide +kernel)) rfl
theorem ml_L_87 : Cond.methodLink RL 87 yX7_trim ∈ o_WS := o_mem (List.mem_of_getElem? (i := 1047) (by decide +kernel)) rfl
theorem im_X7_trim : Cond.instanceMethod yX7_trim ∈ o_WS := o_mem (List.mem_of_getElem? (i := 1048) (by decide +kernel)) rfl
theorem se_X7_trim : Cond.selects RX7 yX7_trim yX7_trim ∈ o_WS := o_mem (List.mem_of_getElem? (i := 1049) (by decide +kernel)) rfl
theorem co_X7_trim : Cond.code yX7_trim cX7_trim 3 (Option.some Jvm.ClassFile.FieldType.int) ∈ o_WS := o_mem (List.mem_of_getElem? (i := 1050) (by decide +kernel)) rfl
theorem ml_L_91 : Cond.methodLink RL 91 yX7_length ∈ o_WS := o_mem (List.mem_of_getElem? (i := 1051) (by decide +kernel)) rfl
theorem im_X7_length : Cond.instanceMethod yX7_length ∈ o_WS := o_mem (List.mem_of_getElem? (i := 1052) (by decide +kernel)) rfl
theorem se_X7_length : Cond.selects RX7 yX7_length yX7_length ∈ o_WS := o_mem (List.mem_of_getElem? (i := 1053) (by decide +kernel)) rfl
theorem co_X7_length : Cond.code yX7_length cX7_length 1 (Option.some Jvm.ClassFile.FieldType.int) ∈ o_WS := o_mem (List.mem_of_getElem? (i := 1054) (by decide +kernel)) rfl
theorem ml_L_95 : Cond.methodLink RL 95 yX7_parse ∈ o_WS := o_mem (List.mem_of_getElem? (i := 1055) (by decide +kernel)) rfl
theorem im_X7_parse : Cond.instanceMethod yX7_parse ∈ o_WS := o_mem (List.mem_of_getElem? (i := 1056) (by decide +kernel)) rfl
theorem se_X7_parse : Cond.selects RX7 yX7_parse yX7_parse ∈ o_WS := o_mem (List.mem_of_getElem? (i := 1057) (by decide +kernel)) rfl
theorem co_X7_parse : Cond.code yX7_parse cX7_parse 8 (Option.some Jvm.ClassFile.FieldType.int) ∈ o_WS := o_mem (List.mem_of_getElem? (i := 1058) (by decide +kernel)) rfl
theorem ml_X7_132 : Cond.methodLink RX7 132 yX7_push ∈ o_WS := o_mem (List.mem_of_getElem? (i := 1059) (by decide +kernel)) rfl
theorem im_X7_push : Cond.instanceMethod yX7_push ∈ o_WS := o_mem (List.mem_of_getElem? (i := 1061) (by decide +kernel)) rfl
theorem co_X7_push : Cond.code yX7_push cX7_push 3 (Option.none : Option Jvm.ClassFile.FieldType) ∈ o_WS := o_mem (List.mem_of_getElem? (i := 1062) (by decide +kernel)) rfl
theorem ml_X7_140 : Cond.methodLink RX7 140 yX7_isLetter ∈ o_WS := o_mem (List.mem_of_getElem? (i := 1063) (by decide +kernel)) rfl
theorem sm_X7_isLetter : Cond.static yX7_isLetter ∈ o_WS := o_mem (List.mem_of_getElem? (i := 1064) (by decide +kernel)) rfl
theorem co_X7_isLetter : Cond.code yX7_isLetter cX7_isLetter 1 (Option.some Jvm.ClassFile.FieldType.boolean) ∈ o_WS := o_mem (List.mem_of_getElem? (i := 1065) (by decide +kernel)) rfl
theorem ml_X7_144 : Cond.methodLink RX7 144 yX7_isDigit ∈ o_WS := o_mem (List.mem_of_getElem? (i := 1066) (by decide +kernel)) rfl
theorem sm_X7_isDigit : Cond.static yX7_isDigit ∈ o_WS := o_mem (List.mem_of_getElem? (i := 1067) (by decide +kernel)) rfl
theorem co_X7_isDigit : Cond.code yX7_isDigit cX7_isDigit 1 (Option.some Jvm.ClassFile.FieldType.boolean) ∈ o_WS := o_mem (List.mem_of_getElem? (i := 1068) (by decide +kernel)) rfl
theorem ml_X7_147 : Cond.methodLink RX7 147 yX7_isSign ∈ o_WS := o_mem (List.mem_of_getElem? (i := 1069) (by decide +kernel)) rfl
theorem sm_X7_isSign : Cond.static yX7_isSign ∈ o_WS := o_mem (List.mem_of_getElem? (i := 1070) (by decide +kernel)) rfl
theorem co_X7_isSign : Cond.code yX7_isSign cX7_isSign 1 (Option.some Jvm.ClassFile.FieldType.boolean) ∈ o_WS := o_mem (List.mem_of_getElem? (i := 1071) (by decide +kernel)) rfl
theorem ml_X7_162 : Cond.methodLink RX7 162 yX7_accept ∈ o_WS := o_mem (List.mem_of_getElem? (i := 1072) (by decide +kernel)) rfl
theorem im_X7_accept : Cond.instanceMethod yX7_accept ∈ o_WS := o_mem (List.mem_of_getElem? (i := 1074) (by decide +kernel)) rfl
theorem co_X7_accept : Cond.code yX7_accept cX7_accept 3 (Option.none : Option Jvm.ClassFile.FieldType) ∈ o_WS := o_mem (List.mem_of_getElem? (i := 1075) (by decide +kernel)) rfl
theorem ml_X7_169 : Cond.methodLink RX7 169 yX7_isGroupOpen ∈ o_WS := o_mem (List.mem_of_getElem? (i := 1076) (by decide +kernel)) rfl
theorem im_X7_isGroupOpen : Cond.instanceMethod yX7_isGroupOpen ∈ o_WS := o_mem (List.mem_of_getElem? (i := 1078) (by decide +kernel)) rfl
theorem co_X7_isGroupOpen : Cond.code yX7_isGroupOpen cX7_isGroupOpen 1 (Option.some Jvm.ClassFile.FieldType.boolean) ∈ o_WS := o_mem (List.mem_of_getElem? (i := 1079) (by decide +kernel)) rfl
theorem ml_X7_128 : Cond.methodLink RX7 128 yX7_top ∈ o_WS := o_mem (List.mem_of_getElem? (i := 1080) (by decide +kernel)) rfl
theorem im_X7_top : Cond.instanceMethod yX7_top ∈ o_WS := o_mem (List.mem_of_getElem? (i := 1082) (by decide +kernel)) rfl
theorem co_X7_top : Cond.code yX7_top cX7_top 1 (Option.some Jvm.ClassFile.FieldType.int) ∈ o_WS := o_mem (List.mem_of_getElem? (i := 1083) (by decide +kernel)) rfl
theorem ml_X7_173 : Cond.methodLink RX7 173 yX7_isPart ∈ o_WS := o_mem (List.mem_of_getElem? (i := 1084) (by decide +kernel)) rfl
theorem im_X7_isPart : Cond.instanceMethod yX7_isPart ∈ o_WS := o_mem (List.mem_of_getElem? (i := 1086) (by decide +kernel)) rfl
theorem co_X7_isPart : Cond.code yX7_isPart cX7_isPart 1 (Option.some Jvm.ClassFile.FieldType.boolean) ∈ o_WS := o_mem (List.mem_of_getElem? (i := 1087) (by decide +kernel)) rfl
theorem ml_X7_176 : Cond.methodLink RX7 176 yX7_addPart ∈ o_WS := o_mem (List.mem_of_getElem? (i := 1088) (by decide +kernel)) rfl
theorem im_X7_addPart : Cond.instanceMethod yX7_addPart ∈ o_WS := o_mem (List.mem_of_getElem? (i := 1090) (by decide +kernel)) rfl
theorem co_X7_addPart : Cond.code yX7_addPart cX7_addPart 5 (Option.none : Option Jvm.ClassFile.FieldType) ∈ o_WS := o_mem (List.mem_of_getElem? (i := 1091) (by decide +kernel)) rfl
theorem ml_X7_165 : Cond.methodLink RX7 165 yX7_repair ∈ o_WS := o_mem (List.mem_of_getElem? (i := 1092) (by decide +kernel)) rfl
theorem im_X7_repair : Cond.instanceMethod yX7_repair ∈ o_WS := o_mem (List.mem_of_getElem? (i := 1094) (by decide +kernel)) rfl
theorem co_X7_repair : Cond.code yX7_repair cX7_repair 2 (Option.none : Option Jvm.ClassFile.FieldType) ∈ o_WS := o_mem (List.mem_of_getElem? (i := 1095) (by decide +kernel)) rfl
theorem cl_X7_191 : Cond.constantLong RX7 191 (10 : Int64) ∈ o_WS := o_mem (List.mem_of_getElem? (i := 1096) (by decide +kernel)) rfl
theorem cl_X7_193 : Cond.constantLong RX7 193 (48 : Int64) ∈ o_WS := o_mem (List.mem_of_getElem? (i := 1097) (by decide +kernel)) rfl
theorem cl_X7_195 : Cond.constantLong RX7 195 (1000000000 : Int64) ∈ o_WS := o_mem (List.mem_of_getElem? (i := 1098) (by decide +kernel)) rfl
theorem ml_X7_179 : Cond.methodLink RX7 179 yX7_align ∈ o_WS := o_mem (List.mem_of_getElem? (i := 1099) (by decide +kernel)) rfl
theorem im_X7_align : Cond.instanceMethod yX7_align ∈ o_WS := o_mem (List.mem_of_getElem? (i := 1101) (by decide +kernel)) rfl
theorem co_X7_align : Cond.code yX7_align cX7_align 3 (Option.none : Option Jvm.ClassFile.FieldType) ∈ o_WS := o_mem (List.mem_of_getElem? (i := 1102) (by decide +kernel)) rfl
theorem ml_X7_182 : Cond.methodLink RX7 182 yX7_act ∈ o_WS := o_mem (List.mem_of_getElem? (i := 1103) (by decide +kernel)) rfl
theorem im_X7_act : Cond.instanceMethod yX7_act ∈ o_WS := o_mem (List.mem_of_getElem? (i := 1105) (by decide +kernel)) rfl
theorem co_X7_act : Cond.code yX7_act cX7_act 1 (Option.none : Option Jvm.ClassFile.FieldType) ∈ o_WS := o_mem (List.mem_of_getElem? (i := 1106) (by decide +kernel)) rfl
theorem ml_X7_185 : Cond.methodLink RX7 185 yX7_addToItem ∈ o_WS := o_mem (List.mem_of_getElem? (i := 1107) (by decide +kernel)) rfl
theorem im_X7_addToItem : Cond.instanceMethod yX7_addToItem ∈ o_WS := o_mem (List.mem_of_getElem? (i := 1109) (by decide +kernel)) rfl
theorem co_X7_addToItem : Cond.code yX7_addToItem cX7_addToItem 1 (Option.none : Option Jvm.ClassFile.FieldType) ∈ o_WS := o_mem (List.mem_of_getElem? (i := 1110) (by decide +kernel)) rfl
theorem ml_X7_188 : Cond.methodLink RX7 188 yX7_close ∈ o_WS := o_mem (List.mem_of_getElem? (i := 1111) (by decide +kernel)) rfl
theorem im_X7_close : Cond.instanceMethod yX7_close ∈ o_WS := o_mem (List.mem_of_getElem? (i := 1113) (by decide +kernel)) rfl
theorem co_X7_close : Cond.code yX7_close cX7_close 2 (Option.none : Option Jvm.ClassFile.FieldType) ∈ o_WS := o_mem (List.mem_of_getElem? (i := 1114) (by decide +kernel)) rfl
theorem ml_L_99 : Cond.methodLink RL 99 yX7_repairCount ∈ o_WS := o_mem (List.mem_of_getElem? (i := 1115) (by decide +kernel)) rfl
theorem im_X7_repairCount : Cond.instanceMethod yX7_repairCount ∈ o_WS := o_mem (List.mem_of_getElem? (i := 1116) (by decide +kernel)) rfl
theorem se_X7_repairCount : Cond.selects RX7 yX7_repairCount yX7_repairCount ∈ o_WS := o_mem (List.mem_of_getElem? (i := 1117) (by decide +kernel)) rfl
theorem co_X7_repairCount : Cond.code yX7_repairCount cX7_repairCount 1 (Option.some Jvm.ClassFile.FieldType.int) ∈ o_WS := o_mem (List.mem_of_getElem? (i := 1118) (by decide +kernel)) rfl
theorem ml_L_103 : Cond.methodLink RL 103 yX7_repair_ ∈ o_WS := o_mem (List.mem_of_getElem? (i := 1119) (by decide +kernel)) rfl
theorem im_X7_repair_ : Cond.instanceMethod yX7_repair_ ∈ o_WS := o_mem (List.mem_of_getElem? (i := 1120) (by decide +kernel)) rfl
theorem se_X7_repair_ : Cond.selects RX7 yX7_repair_ yX7_repair_ ∈ o_WS := o_mem (List.mem_of_getElem? (i := 1121) (by decide +kernel)) rfl
theorem co_X7_repair_ : Cond.code yX7_repair_ cX7_repair_ 3 (Option.some Jvm.ClassFile.FieldType.int) ∈ o_WS := o_mem (List.mem_of_getElem? (i := 1122) (by decide +kernel)) rfl
theorem ml_L_107 : Cond.methodLink RL 107 yX7_nodeCount ∈ o_WS := o_mem (List.mem_of_getElem? (i := 1123) (by decide +kernel)) rfl
theorem im_X7_nodeCount : Cond.instanceMethod yX7_nodeCount ∈ o_WS := o_mem (List.mem_of_getElem? (i := 1124) (by decide +kernel)) rfl
theorem se_X7_nodeCount : Cond.selects RX7 yX7_nodeCount yX7_nodeCount ∈ o_WS := o_mem (List.mem_of_getElem? (i := 1125) (by decide +kernel)) rfl
theorem co_X7_nodeCount : Cond.code yX7_nodeCount cX7_nodeCount 1 (Option.some Jvm.ClassFile.FieldType.int) ∈ o_WS := o_mem (List.mem_of_getElem? (i := 1126) (by decide +kernel)) rfl
theorem ml_L_110 : Cond.methodLink RL 110 yX7_kind ∈ o_WS := o_mem (List.mem_of_getElem? (i := 1127) (by decide +kernel)) rfl
theorem im_X7_kind : Cond.instanceMethod yX7_kind ∈ o_WS := o_mem (List.mem_of_getElem? (i := 1128) (by decide +kernel)) rfl
theorem se_X7_kind : Cond.selects RX7 yX7_kind yX7_kind ∈ o_WS := o_mem (List.mem_of_getElem? (i := 1129) (by decide +kernel)) rfl
theorem co_X7_kind : Cond.code yX7_kind cX7_kind 2 (Option.some Jvm.ClassFile.FieldType.int) ∈ o_WS := o_mem (List.mem_of_getElem? (i := 1130) (by decide +kernel)) rfl
theorem ml_X7_197 : Cond.methodLink RX7 197 yX7_isNode ∈ o_WS := o_mem (List.mem_of_getElem? (i := 1131) (by decide +kernel)) rfl
theorem im_X7_isNode : Cond.instanceMethod yX7_isNode ∈ o_WS := o_mem (List.mem_of_getElem? (i := 1133) (by decide +kernel)) rfl
theorem co_X7_isNode : Cond.code yX7_isNode cX7_isNode 2 (Option.some Jvm.ClassFile.FieldType.boolean) ∈ o_WS := o_mem (List.mem_of_getElem? (i := 1134) (by decide +kernel)) rfl
theorem ml_L_113 : Cond.methodLink RL 113 yX7_parent ∈ o_WS := o_mem (List.mem_of_getElem? (i := 1135) (by decide +kernel)) rfl
theorem im_X7_parent : Cond.instanceMethod yX7_parent ∈ o_WS := o_mem (List.mem_of_getElem? (i := 1136) (by decide +kernel)) rfl
theorem se_X7_parent : Cond.selects RX7 yX7_parent yX7_parent ∈ o_WS := o_mem (List.mem_of_getElem? (i := 1137) (by decide +kernel)) rfl
theorem co_X7_parent : Cond.code yX7_parent cX7_parent 2 (Option.some Jvm.ClassFile.FieldType.int) ∈ o_WS := o_mem (List.mem_of_getElem? (i := 1138) (by decide +kernel)) rfl
theorem ml_L_116 : Cond.methodLink RL 116 yX7_childCount ∈ o_WS := o_mem (List.mem_of_getElem? (i := 1139) (by decide +kernel)) rfl
theorem im_X7_childCount : Cond.instanceMethod yX7_childCount ∈ o_WS := o_mem (List.mem_of_getElem? (i := 1140) (by decide +kernel)) rfl
theorem se_X7_childCount : Cond.selects RX7 yX7_childCount yX7_childCount ∈ o_WS := o_mem (List.mem_of_getElem? (i := 1141) (by decide +kernel)) rfl
theorem co_X7_childCount : Cond.code yX7_childCount cX7_childCount 2 (Option.some Jvm.ClassFile.FieldType.int) ∈ o_WS := o_mem (List.mem_of_getElem? (i := 1142) (by decide +kernel)) rfl
theorem ml_L_119 : Cond.methodLink RL 119 yX7_child ∈ o_WS := o_mem (List.mem_of_getElem? (i := 1143) (by decide +kernel)) rfl
theorem im_X7_child : Cond.instanceMethod yX7_child ∈ o_WS := o_mem (List.mem_of_getElem? (i := 1144) (by decide +kernel)) rfl
theorem se_X7_child : Cond.selects RX7 yX7_child yX7_child ∈ o_WS := o_mem (List.mem_of_getElem? (i := 1145) (by decide +kernel)) rfl
theorem co_X7_child : Cond.code yX7_child cX7_child 3 (Option.some Jvm.ClassFile.FieldType.int) ∈ o_WS := o_mem (List.mem_of_getElem? (i := 1146) (by decide +kernel)) rfl
theorem ml_L_122 : Cond.methodLink RL 122 yX7_line ∈ o_WS := o_mem (List.mem_of_getElem? (i := 1147) (by decide +kernel)) rfl
theorem im_X7_line : Cond.instanceMethod yX7_line ∈ o_WS := o_mem (List.mem_of_getElem? (i := 1148) (by decide +kernel)) rfl
theorem se_X7_line : Cond.selects RX7 yX7_line yX7_line ∈ o_WS := o_mem (List.mem_of_getElem? (i := 1149) (by decide +kernel)) rfl
theorem co_X7_line : Cond.code yX7_line cX7_line 2 (Option.some Jvm.ClassFile.FieldType.int) ∈ o_WS := o_mem (List.mem_of_getElem? (i := 1150) (by decide +kernel)) rfl
theorem ml_L_125 : Cond.methodLink RL 125 yX7_column ∈ o_WS := o_mem (List.mem_of_getElem? (i := 1151) (by decide +kernel)) rfl
theorem im_X7_column : Cond.instanceMethod yX7_column ∈ o_WS := o_mem (List.mem_of_getElem? (i := 1152) (by decide +kernel)) rfl
theorem se_X7_column : Cond.selects RX7 yX7_column yX7_column ∈ o_WS := o_mem (List.mem_of_getElem? (i := 1153) (by decide +kernel)) rfl
theorem co_X7_column : Cond.code yX7_column cX7_column 2 (Option.some Jvm.ClassFile.FieldType.int) ∈ o_WS := o_mem (List.mem_of_getElem? (i := 1154) (by decide +kernel)) rfl
theorem ml_L_128 : Cond.methodLink RL 128 yX7_value ∈ o_WS := o_mem (List.mem_of_getElem? (i := 1155) (by decide +kernel)) rfl
theorem im_X7_value : Cond.instanceMethod yX7_value ∈ o_WS := o_mem (List.mem_of_getElem? (i := 1156) (by decide +kernel)) rfl
theorem se_X7_value : Cond.selects RX7 yX7_value yX7_value ∈ o_WS := o_mem (List.mem_of_getElem? (i := 1157) (by decide +kernel)) rfl
theorem co_X7_value : Cond.code yX7_value cX7_value 2 (Option.some Jvm.ClassFile.FieldType.int) ∈ o_WS := o_mem (List.mem_of_getElem? (i := 1158) (by decide +kernel)) rfl
theorem ml_L_131 : Cond.methodLink RL 131 yX7_letter ∈ o_WS := o_mem (List.mem_of_getElem? (i := 1159) (by decide +kernel)) rfl
theorem im_X7_letter : Cond.instanceMethod yX7_letter ∈ o_WS := o_mem (List.mem_of_getElem? (i := 1160) (by decide +kernel)) rfl
theorem se_X7_letter : Cond.selects RX7 yX7_letter yX7_letter ∈ o_WS := o_mem (List.mem_of_getElem? (i := 1161) (by decide +kernel)) rfl
theorem co_X7_letter : Cond.code yX7_letter cX7_letter 4 (Option.some Jvm.ClassFile.FieldType.int) ∈ o_WS := o_mem (List.mem_of_getElem? (i := 1162) (by decide +kernel)) rfl
theorem ml_L_134 : Cond.methodLink RL 134 yX7_depth ∈ o_WS := o_mem (List.mem_of_getElem? (i := 1163) (by decide +kernel)) rfl
theorem im_X7_depth : Cond.instanceMethod yX7_depth ∈ o_WS := o_mem (List.mem_of_getElem? (i := 1164) (by decide +kernel)) rfl
theorem se_X7_depth : Cond.selects RX7 yX7_depth yX7_depth ∈ o_WS := o_mem (List.mem_of_getElem? (i := 1165) (by decide +kernel)) rfl
theorem co_X7_depth : Cond.code yX7_depth cX7_depth 2 (Option.some Jvm.ClassFile.FieldType.int) ∈ o_WS := o_mem (List.mem_of_getElem? (i := 1166) (by decide +kernel)) rfl
theorem ml_X7_200 : Cond.methodLink RX7 200 yX7_depthOf ∈ o_WS := o_mem (List.mem_of_getElem? (i := 1167) (by decide +kernel)) rfl
theorem im_X7_depthOf : Cond.instanceMethod yX7_depthOf ∈ o_WS := o_mem (List.mem_of_getElem? (i := 1169) (by decide +kernel)) rfl
theorem co_X7_depthOf : Cond.code yX7_depthOf cX7_depthOf 5 (Option.some Jvm.ClassFile.FieldType.int) ∈ o_WS := o_mem (List.mem_of_getElem? (i := 1170) (by decide +kernel)) rfl
theorem ml_L_139 : Cond.methodLink RL 139 yX7_find ∈ o_WS := o_mem (List.mem_of_getElem? (i := 1171) (by decide +kernel)) rfl
theorem im_X7_find : Cond.instanceMethod yX7_find ∈ o_WS := o_mem (List.mem_of_getElem? (i := 1172) (by decide +kernel)) rfl
theorem se_X7_find : Cond.selects RX7 yX7_find yX7_find ∈ o_WS := o_mem (List.mem_of_getElem? (i := 1173) (by decide +kernel)) rfl
theorem co_X7_find : Cond.code yX7_find cX7_find 7 (Option.some Jvm.ClassFile.FieldType.int) ∈ o_WS := o_mem (List.mem_of_getElem? (i := 1174) (by decide +kernel)) rfl
theorem ml_X7_204 : Cond.methodLink RX7 204 yX7_isFed ∈ o_WS := o_mem (List.mem_of_getElem? (i := 1175) (by decide +kernel)) rfl
theorem im_X7_isFed : Cond.instanceMethod yX7_isFed ∈ o_WS := o_mem (List.mem_of_getElem? (i := 1177) (by decide +kernel)) rfl
theorem co_X7_isFed : Cond.code yX7_isFed cX7_isFed 4 (Option.some Jvm.ClassFile.FieldType.boolean) ∈ o_WS := o_mem (List.mem_of_getElem? (i := 1178) (by decide +kernel)) rfl
theorem ml_L_143 : Cond.methodLink RL 143 yX7_wordCount ∈ o_WS := o_mem (List.mem_of_getElem? (i := 1179) (by decide +kernel)) rfl
theorem im_X7_wordCount : Cond.instanceMethod yX7_wordCount ∈ o_WS := o_mem (List.mem_of_getElem? (i := 1180) (by decide +kernel)) rfl
theorem se_X7_wordCount : Cond.selects RX7 yX7_wordCount yX7_wordCount ∈ o_WS := o_mem (List.mem_of_getElem? (i := 1181) (by decide +kernel)) rfl
theorem co_X7_wordCount : Cond.code yX7_wordCount cX7_wordCount 1 (Option.some Jvm.ClassFile.FieldType.int) ∈ o_WS := o_mem (List.mem_of_getElem? (i := 1182) (by decide +kernel)) rfl
theorem ml_X7_211 : Cond.methodLink RX7 211 yX7_words ∈ o_WS := o_mem (List.mem_of_getElem? (i := 1183) (by decide +kernel)) rfl
theorem im_X7_words : Cond.instanceMethod yX7_words ∈ o_WS := o_mem (List.mem_of_getElem? (i := 1185) (by decide +kernel)) rfl
theorem co_X7_words : Cond.code yX7_words cX7_words 5 (Option.some Jvm.ClassFile.FieldType.int) ∈ o_WS := o_mem (List.mem_of_getElem? (i := 1186) (by decide +kernel)) rfl
theorem ml_X7_208 : Cond.methodLink RX7 208 yX7_areSame ∈ o_WS := o_mem (List.mem_of_getElem? (i := 1187) (by decide +kernel)) rfl
theorem im_X7_areSame : Cond.instanceMethod yX7_areSame ∈ o_WS := o_mem (List.mem_of_getElem? (i := 1189) (by decide +kernel)) rfl
theorem co_X7_areSame : Cond.code yX7_areSame cX7_areSame 4 (Option.some Jvm.ClassFile.FieldType.boolean) ∈ o_WS := o_mem (List.mem_of_getElem? (i := 1190) (by decide +kernel)) rfl
theorem ml_L_146 : Cond.methodLink RL 146 yX7_remove ∈ o_WS := o_mem (List.mem_of_getElem? (i := 1191) (by decide +kernel)) rfl
theorem im_X7_remove : Cond.instanceMethod yX7_remove ∈ o_WS := o_mem (List.mem_of_getElem? (i := 1192) (by decide +kernel)) rfl
theorem se_X7_remove : Cond.selects RX7 yX7_remove yX7_remove ∈ o_WS := o_mem (List.mem_of_getElem? (i := 1193) (by decide +kernel)) rfl
theorem co_X7_remove : Cond.code yX7_remove cX7_remove 2 (Option.some Jvm.ClassFile.FieldType.int) ∈ o_WS := o_mem (List.mem_of_getElem? (i := 1194) (by decide +kernel)) rfl
theorem ml_X7_214 : Cond.methodLink RX7 214 yX7_isItem ∈ o_WS := o_mem (List.mem_of_getElem? (i := 1195) (by decide +kernel)) rfl
theorem im_X7_isItem : Cond.instanceMethod yX7_isItem ∈ o_WS := o_mem (List.mem_of_getElem? (i := 1197) (by decide +kernel)) rfl
theorem co_X7_isItem : Cond.code yX7_isItem cX7_isItem 2 (Option.some Jvm.ClassFile.FieldType.boolean) ∈ o_WS := o_mem (List.mem_of_getElem? (i := 1198) (by decide +kernel)) rfl
theorem ml_X7_217 : Cond.methodLink RX7 217 yX7_takeOut ∈ o_WS := o_mem (List.mem_of_getElem? (i := 1199) (by decide +kernel)) rfl
theorem im_X7_takeOut : Cond.instanceMethod yX7_takeOut ∈ o_WS := o_mem (List.mem_of_getElem? (i := 1201) (by decide +kernel)) rfl
theorem co_X7_takeOut : Cond.code yX7_takeOut cX7_takeOut 4 (Option.none : Option Jvm.ClassFile.FieldType) ∈ o_WS := o_mem (List.mem_of_getElem? (i := 1202) (by decide +kernel)) rfl
theorem ml_L_150 : Cond.methodLink RL 150 yX7_move ∈ o_WS := o_mem (List.mem_of_getElem? (i := 1203) (by decide +kernel)) rfl
theorem im_X7_move : Cond.instanceMethod yX7_move ∈ o_WS := o_mem (List.mem_of_getElem? (i := 1204) (by decide +kernel)) rfl
theorem se_X7_move : Cond.selects RX7 yX7_move yX7_move ∈ o_WS := o_mem (List.mem_of_getElem? (i := 1205) (by decide +kernel)) rfl
theorem co_X7_move : Cond.code yX7_move cX7_move 7 (Option.some Jvm.ClassFile.FieldType.int) ∈ o_WS := o_mem (List.mem_of_getElem? (i := 1206) (by decide +kernel)) rfl
theorem ml_X7_225 : Cond.methodLink RX7 225 yX7_isWithin ∈ o_WS := o_mem (List.mem_of_getElem? (i := 1207) (by decide +kernel)) rfl
theorem im_X7_isWithin : Cond.instanceMethod yX7_isWithin ∈ o_WS := o_mem (List.mem_of_getElem? (i := 1209) (by decide +kernel)) rfl
theorem co_X7_isWithin : Cond.code yX7_isWithin cX7_isWithin 4 (Option.some Jvm.ClassFile.FieldType.boolean) ∈ o_WS := o_mem (List.mem_of_getElem? (i := 1210) (by decide +kernel)) rfl
theorem ml_X7_228 : Cond.methodLink RX7 228 yX7_heightOf ∈ o_WS := o_mem (List.mem_of_getElem? (i := 1211) (by decide +kernel)) rfl
theorem im_X7_heightOf : Cond.instanceMethod yX7_heightOf ∈ o_WS := o_mem (List.mem_of_getElem? (i := 1213) (by decide +kernel)) rfl
theorem co_X7_heightOf : Cond.code yX7_heightOf cX7_heightOf 4 (Option.some Jvm.ClassFile.FieldType.int) ∈ o_WS := o_mem (List.mem_of_getElem? (i := 1214) (by decide +kernel)) rfl
theorem ml_X7_220 : Cond.methodLink RX7 220 yJ9_max_7cf53 ∈ o_WS := o_mem (List.mem_of_getElem? (i := 1215) (by decide +kernel)) rfl
theorem ml_L_154 : Cond.methodLink RL 154 yX7_rename ∈ o_WS := o_mem (List.mem_of_getElem? (i := 1216) (by decide +kernel)) rfl
theorem im_X7_rename : Cond.instanceMethod yX7_rename ∈ o_WS := o_mem (List.mem_of_getElem? (i := 1217) (by decide +kernel)) rfl
theorem se_X7_rename : Cond.selects RX7 yX7_rename yX7_rename ∈ o_WS := o_mem (List.mem_of_getElem? (i := 1218) (by decide +kernel)) rfl
theorem co_X7_rename : Cond.code yX7_rename cX7_rename 8 (Option.some Jvm.ClassFile.FieldType.int) ∈ o_WS := o_mem (List.mem_of_getElem? (i := 1219) (by decide +kernel)) rfl
theorem ml_L_159 : Cond.methodLink RL 159 yX7_write ∈ o_WS := o_mem (List.mem_of_getElem? (i := 1220) (by decide +kernel)) rfl
theorem im_X7_write : Cond.instanceMethod yX7_write ∈ o_WS := o_mem (List.mem_of_getElem? (i := 1221) (by decide +kernel)) rfl
theorem se_X7_write : Cond.selects RX7 yX7_write yX7_write ∈ o_WS := o_mem (List.mem_of_getElem? (i := 1222) (by decide +kernel)) rfl
theorem co_X7_write : Cond.code yX7_write cX7_write 3 (Option.some Jvm.ClassFile.FieldType.int) ∈ o_WS := o_mem (List.mem_of_getElem? (i := 1223) (by decide +kernel)) rfl
theorem ml_X7_250 : Cond.methodLink RX7 250 yX7_putLine ∈ o_WS := o_mem (List.mem_of_getElem? (i := 1224) (by decide +kernel)) rfl
theorem im_X7_putLine : Cond.instanceMethod yX7_putLine ∈ o_WS := o_mem (List.mem_of_getElem? (i := 1226) (by decide +kernel)) rfl
theorem co_X7_putLine : Cond.code yX7_putLine cX7_putLine 7 (Option.none : Option Jvm.ClassFile.FieldType) ∈ o_WS := o_mem (List.mem_of_getElem? (i := 1227) (by decide +kernel)) rfl
theorem ml_X7_237 : Cond.methodLink RX7 237 yX7_put ∈ o_WS := o_mem (List.mem_of_getElem? (i := 1228) (by decide +kernel)) rfl
theorem im_X7_put : Cond.instanceMethod yX7_put ∈ o_WS := o_mem (List.mem_of_getElem? (i := 1230) (by decide +kernel)) rfl
theorem co_X7_put : Cond.code yX7_put cX7_put 2 (Option.none : Option Jvm.ClassFile.FieldType) ∈ o_WS := o_mem (List.mem_of_getElem? (i := 1231) (by decide +kernel)) rfl
theorem ml_X7_247 : Cond.methodLink RX7 247 yX7_lastOf ∈ o_WS := o_mem (List.mem_of_getElem? (i := 1232) (by decide +kernel)) rfl
theorem im_X7_lastOf : Cond.instanceMethod yX7_lastOf ∈ o_WS := o_mem (List.mem_of_getElem? (i := 1234) (by decide +kernel)) rfl
theorem co_X7_lastOf : Cond.code yX7_lastOf cX7_lastOf 2 (Option.some Jvm.ClassFile.FieldType.int) ∈ o_WS := o_mem (List.mem_of_getElem? (i := 1235) (by decide +kernel)) rfl
theorem ml_X7_243 : Cond.methodLink RX7 243 yX7_putAll ∈ o_WS := o_mem (List.mem_of_getElem? (i := 1236) (by decide +kernel)) rfl
theorem im_X7_putAll : Cond.instanceMethod yX7_putAll ∈ o_WS := o_mem (List.mem_of_getElem? (i := 1238) (by decide +kernel)) rfl
theorem co_X7_putAll : Cond.code yX7_putAll cX7_putAll 5 (Option.none : Option Jvm.ClassFile.FieldType) ∈ o_WS := o_mem (List.mem_of_getElem? (i := 1239) (by decide +kernel)) rfl
theorem ml_X7_240 : Cond.methodLink RX7 240 yX7_putNode ∈ o_WS := o_mem (List.mem_of_getElem? (i := 1240) (by decide +kernel)) rfl
theorem im_X7_putNode : Cond.instanceMethod yX7_putNode ∈ o_WS := o_mem (List.mem_of_getElem? (i := 1242) (by decide +kernel)) rfl
theorem co_X7_putNode : Cond.code yX7_putNode cX7_putNode 3 (Option.none : Option Jvm.ClassFile.FieldType) ∈ o_WS := o_mem (List.mem_of_getElem? (i := 1243) (by decide +kernel)) rfl
theorem ml_X7_234 : Cond.methodLink RX7 234 yX7_putNumber ∈ o_WS := o_mem (List.mem_of_getElem? (i := 1244) (by decide +kernel)) rfl
theorem im_X7_putNumber : Cond.instanceMethod yX7_putNumber ∈ o_WS := o_mem (List.mem_of_getElem? (i := 1246) (by decide +kernel)) rfl
theorem co_X7_putNumber : Cond.code yX7_putNumber cX7_putNumber 2 (Option.none : Option Jvm.ClassFile.FieldType) ∈ o_WS := o_mem (List.mem_of_getElem? (i := 1247) (by decide +kernel)) rfl
theorem ml_L_162 : Cond.methodLink RL 162 yX7_written ∈ o_WS := o_mem (List.mem_of_getElem? (i := 1248) (by decide +kernel)) rfl
theorem im_X7_written : Cond.instanceMethod yX7_written ∈ o_WS := o_mem (List.mem_of_getElem? (i := 1249) (by decide +kernel)) rfl
theorem se_X7_written : Cond.selects RX7 yX7_written yX7_written ∈ o_WS := o_mem (List.mem_of_getElem? (i := 1250) (by decide +kernel)) rfl
theorem co_X7_written : Cond.code yX7_written cX7_written 2 (Option.some Jvm.ClassFile.FieldType.int) ∈ o_WS := o_mem (List.mem_of_getElem? (i := 1251) (by decide +kernel)) rfl
theorem ml_L_167 : Cond.methodLink RL 167 yX7_digest ∈ o_WS := o_mem (List.mem_of_getElem? (i := 1252) (by decide +kernel)) rfl
theorem im_X7_digest : Cond.instanceMethod yX7_digest ∈ o_WS := o_mem (List.mem_of_getElem? (i := 1253) (by decide +kernel)) rfl
theorem se_X7_digest : Cond.selects RX7 yX7_digest yX7_digest ∈ o_WS := o_mem (List.mem_of_getElem? (i := 1254) (by decide +kernel)) rfl
theorem co_X7_digest : Cond.code yX7_digest cX7_digest 6 (Option.some Jvm.ClassFile.FieldType.long) ∈ o_WS := o_mem (List.mem_of_getElem? (i := 1255) (by decide +kernel)) rfl
theorem cl_X7_254 : Cond.constantLong RX7 254 (2263 : Int64) ∈ o_WS := o_mem (List.mem_of_getElem? (i := 1256) (by decide +kernel)) rfl
theorem cl_X7_256 : Cond.constantLong RX7 256 (31 : Int64) ∈ o_WS := o_mem (List.mem_of_getElem? (i := 1257) (by decide +kernel)) rfl
theorem cl_L_72 : Cond.constantLong RL 72 (4294967295 : Int64) ∈ o_WS := o_mem (List.mem_of_getElem? (i := 1258) (by decide +kernel)) rfl
