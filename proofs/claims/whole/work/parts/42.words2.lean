abbrev cOn_step : ByteArray := prog_1_method_2_code
abbrev yOn_step : MethodName := ⟨"OnceNamed", "step", "(IIIII)I"⟩
abbrev cOn_go : ByteArray := prog_1_method_3_code
abbrev yOn_go : MethodName := ⟨"OnceNamed", "go", "(II)V"⟩
abbrev cOn_fork : ByteArray := prog_1_method_4_code
abbrev yOn_fork : MethodName := ⟨"OnceNamed", "fork", "(IIII)V"⟩
abbrev cOn_stop : ByteArray := prog_1_method_5_code
abbrev yOn_stop : MethodName := ⟨"OnceNamed", "stop", "(I)V"⟩
abbrev cOn_start : ByteArray := prog_1_method_6_code
abbrev yOn_start : MethodName := ⟨"OnceNamed", "start", "(II)V"⟩
abbrev cOn_build : ByteArray := prog_1_method_7_code
abbrev yOn_build : MethodName := ⟨"OnceNamed", "build", "()I"⟩
abbrev cOn_propagate : ByteArray := prog_1_method_8_code
abbrev yOn_propagate : MethodName := ⟨"OnceNamed", "propagate", "()I"⟩
abbrev cOn_parent : ByteArray := prog_1_method_9_code
abbrev yOn_parent : MethodName := ⟨"OnceNamed", "parent", "(I)I"⟩
abbrev cOn_dominates : ByteArray := prog_1_method_10_code
abbrev yOn_dominates : MethodName := ⟨"OnceNamed", "dominates", "(II)Z"⟩
abbrev cOn_frontier : ByteArray := prog_1_method_11_code
abbrev yOn_frontier : MethodName := ⟨"OnceNamed", "frontier", "(II)Z"⟩
abbrev cOn_meeting : ByteArray := prog_1_method_12_code
abbrev yOn_meeting : MethodName := ⟨"OnceNamed", "meeting", "(II)I"⟩
abbrev cOn_source : ByteArray := prog_1_method_13_code
abbrev yOn_source : MethodName := ⟨"OnceNamed", "source", "(III)I"⟩
abbrev cOn_sets : ByteArray := prog_1_method_14_code
abbrev yOn_sets : MethodName := ⟨"OnceNamed", "sets", "(II)I"⟩
abbrev cOn_use : ByteArray := prog_1_method_15_code
abbrev yOn_use : MethodName := ⟨"OnceNamed", "use", "(III)I"⟩
abbrev cOn_alter : ByteArray := prog_1_method_16_code
abbrev yOn_alter : MethodName := ⟨"OnceNamed", "alter", "(IIII)V"⟩
abbrev cOn_turn : ByteArray := prog_1_method_17_code
abbrev yOn_turn : MethodName := ⟨"OnceNamed", "turn", "(IIII)V"⟩
abbrev cOn_valid : ByteArray := prog_1_method_18_code
abbrev yOn_valid : MethodName := ⟨"OnceNamed", "valid", "()Z"⟩
abbrev cOn_copies : ByteArray := prog_1_method_19_code
abbrev yOn_copies : MethodName := ⟨"OnceNamed", "copies", "(II)I"⟩
abbrev cOn_run : ByteArray := prog_1_method_20_code
abbrev yOn_run : MethodName := ⟨"OnceNamed", "run", "(I)I"⟩
abbrev cOn_said : ByteArray := prog_1_method_21_code
abbrev yOn_said : MethodName := ⟨"OnceNamed", "said", "(I)I"⟩
abbrev cOn_same : ByteArray := prog_1_method_22_code
abbrev yOn_same : MethodName := ⟨"OnceNamed", "same", "(I)Z"⟩
abbrev cOn_giveEnd : ByteArray := prog_1_method_23_code
abbrev yOn_giveEnd : MethodName := ⟨"OnceNamed", "giveEnd", "(IIII)V"⟩
abbrev cOn_nameUsed : ByteArray := prog_1_method_24_code
abbrev yOn_nameUsed : MethodName := ⟨"OnceNamed", "nameUsed", "(III)I"⟩
abbrev cOn_requireBlock : ByteArray := prog_1_method_25_code
abbrev yOn_requireBlock : MethodName := ⟨"OnceNamed", "requireBlock", "(I)V"⟩
abbrev cOn_requireBlockOrEntry : ByteArray := prog_1_method_26_code
abbrev yOn_requireBlockOrEntry : MethodName := ⟨"OnceNamed", "requireBlockOrEntry", "(I)V"⟩
abbrev cOn_requireVariable : ByteArray := prog_1_method_27_code
abbrev yOn_requireVariable : MethodName := ⟨"OnceNamed", "requireVariable", "(I)V"⟩
abbrev cOn_requireStepParts : ByteArray := prog_1_method_28_code
abbrev yOn_requireStepParts : MethodName := ⟨"OnceNamed", "requireStepParts", "(IIII)V"⟩
abbrev cOn_requireStep : ByteArray := prog_1_method_29_code
abbrev yOn_requireStep : MethodName := ⟨"OnceNamed", "requireStep", "(II)V"⟩
abbrev cOn_requireUse : ByteArray := prog_1_method_30_code
abbrev yOn_requireUse : MethodName := ⟨"OnceNamed", "requireUse", "(III)V"⟩
abbrev cOn_requireMeetingUse : ByteArray := prog_1_method_31_code
abbrev yOn_requireMeetingUse : MethodName := ⟨"OnceNamed", "requireMeetingUse", "(III)V"⟩
abbrev cOn_requireThere : ByteArray := prog_1_method_32_code
abbrev yOn_requireThere : MethodName := ⟨"OnceNamed", "requireThere", "(I)V"⟩
abbrev cOn_requireName : ByteArray := prog_1_method_33_code
abbrev yOn_requireName : MethodName := ⟨"OnceNamed", "requireName", "(I)V"⟩
abbrev cOn_requireForm : ByteArray := prog_1_method_34_code
abbrev yOn_requireForm : MethodName := ⟨"OnceNamed", "requireForm", "()V"⟩
abbrev cOn_requireRunnable : ByteArray := prog_1_method_35_code
abbrev yOn_requireRunnable : MethodName := ⟨"OnceNamed", "requireRunnable", "(I)V"⟩
theorem kw_267 : Cond.fieldLink "OnceNamed" 18 "OnceNamed" "blocks" "I" ∈ xW := List.mem_filter.mpr ⟨List.mem_append_right _ (List.mem_append_right _ (List.mem_append_left _ (List.mem_of_getElem? (i := 27) rfl))), rfl⟩
theorem kw_416 : Cond.code yOn_requireBlock cOn_requireBlock 2 none ∈ xW := List.mem_filter.mpr ⟨List.mem_append_right _ (List.mem_append_right _ (List.mem_append_left _ (List.mem_of_getElem? (i := 176) rfl))), rfl⟩
theorem kw_417 : Cond.classLink "OnceNamed" 234 "java/lang/IllegalArgumentException" ∈ xW := List.mem_filter.mpr ⟨List.mem_append_right _ (List.mem_append_right _ (List.mem_append_left _ (List.mem_of_getElem? (i := 177) rfl))), rfl⟩
theorem kw_15 : Cond.initialized "java/lang/IllegalArgumentException" ∈ xW := List.mem_filter.mpr ⟨List.mem_append_right _ (List.mem_append_left _ (List.mem_of_getElem? (i := 15) rfl)), rfl⟩
theorem kw_495 : Cond.code yOn_requireVariable cOn_requireVariable 1 none ∈ xW := List.mem_filter.mpr ⟨List.mem_append_right _ (List.mem_append_right _ (List.mem_append_right _ (List.mem_append_left _ (List.mem_of_getElem? (i := 15) rfl)))), rfl⟩
theorem kw_489 : Cond.code yOn_requireStepParts cOn_requireStepParts 4 none ∈ xW := List.mem_filter.mpr ⟨List.mem_append_right _ (List.mem_append_right _ (List.mem_append_right _ (List.mem_append_left _ (List.mem_of_getElem? (i := 9) rfl)))), rfl⟩
theorem kw_492 : Cond.methodLink "OnceNamed" 247 yProgram_setsVariable ∈ xW := List.mem_filter.mpr ⟨List.mem_append_right _ (List.mem_append_right _ (List.mem_append_right _ (List.mem_append_left _ (List.mem_of_getElem? (i := 12) rfl)))), rfl⟩
theorem kw_497 : Cond.methodLink "OnceNamed" 251 yProgram_usesFirst ∈ xW := List.mem_filter.mpr ⟨List.mem_append_right _ (List.mem_append_right _ (List.mem_append_right _ (List.mem_append_left _ (List.mem_of_getElem? (i := 17) rfl)))), rfl⟩
theorem kw_498 : Cond.methodLink "OnceNamed" 254 yProgram_usesSecond ∈ xW := List.mem_filter.mpr ⟨List.mem_append_right _ (List.mem_append_right _ (List.mem_append_right _ (List.mem_append_left _ (List.mem_of_getElem? (i := 18) rfl)))), rfl⟩
theorem kw_493 : Cond.methodLink "OnceNamed" 109 yOn_requireVariable ∈ xW := List.mem_filter.mpr ⟨List.mem_append_right _ (List.mem_append_right _ (List.mem_append_right _ (List.mem_append_left _ (List.mem_of_getElem? (i := 13) rfl)))), rfl⟩
theorem kw_494 : Cond.static yOn_requireVariable ∈ xW := List.mem_filter.mpr ⟨List.mem_append_right _ (List.mem_append_right _ (List.mem_append_right _ (List.mem_append_left _ (List.mem_of_getElem? (i := 14) rfl)))), rfl⟩
theorem kw_268 : Cond.fieldLink "OnceNamed" 27 "OnceNamed" "program" "LOnceNamed$Program;" ∈ xW := List.mem_filter.mpr ⟨List.mem_append_right _ (List.mem_append_right _ (List.mem_append_left _ (List.mem_of_getElem? (i := 28) rfl))), rfl⟩
theorem kw_276 : Cond.fieldLink "OnceNamed" 76 "OnceNamed" "formStands" "Z" ∈ xW := List.mem_filter.mpr ⟨List.mem_append_right _ (List.mem_append_right _ (List.mem_append_left _ (List.mem_of_getElem? (i := 36) rfl))), rfl⟩
theorem kw_412 : Cond.code yOn_step cOn_step 6 (some .int) ∈ xW := List.mem_filter.mpr ⟨List.mem_append_right _ (List.mem_append_right _ (List.mem_append_left _ (List.mem_of_getElem? (i := 172) rfl))), rfl⟩
theorem kw_413 : Cond.methodLink "OnceNamed" 84 yOn_requireBlock ∈ xW := List.mem_filter.mpr ⟨List.mem_append_right _ (List.mem_append_right _ (List.mem_append_left _ (List.mem_of_getElem? (i := 173) rfl))), rfl⟩
theorem kw_415 : Cond.instanceMethod yOn_requireBlock ∈ xW := List.mem_filter.mpr ⟨List.mem_append_right _ (List.mem_append_right _ (List.mem_append_left _ (List.mem_of_getElem? (i := 175) rfl))), rfl⟩
theorem ks_1_14 : Cond.selects "OnceNamed" yOn_requireBlock yOn_requireBlock ∈ xW := List.mem_filter.mpr ⟨List.mem_append_left _ (List.mem_map.mpr ⟨(⟨"OnceNamed", "requireBlock", "(I)V"⟩, 10), List.mem_append_left _ (List.mem_of_getElem? (i := 14) rfl), rfl⟩), rfl⟩
theorem kw_487 : Cond.methodLink "OnceNamed" 87 yOn_requireStepParts ∈ xW := List.mem_filter.mpr ⟨List.mem_append_right _ (List.mem_append_right _ (List.mem_append_right _ (List.mem_append_left _ (List.mem_of_getElem? (i := 7) rfl)))), rfl⟩
theorem kw_488 : Cond.static yOn_requireStepParts ∈ xW := List.mem_filter.mpr ⟨List.mem_append_right _ (List.mem_append_right _ (List.mem_append_right _ (List.mem_append_left _ (List.mem_of_getElem? (i := 8) rfl)))), rfl⟩
theorem kw_499 : Cond.methodLink "OnceNamed" 91 yProgram_stepsOf ∈ xW := List.mem_filter.mpr ⟨List.mem_append_right _ (List.mem_append_right _ (List.mem_append_right _ (List.mem_append_left _ (List.mem_of_getElem? (i := 19) rfl)))), rfl⟩
theorem kw_516 : Cond.methodLink "OnceNamed" 102 yProgram_addStep ∈ xW := List.mem_filter.mpr ⟨List.mem_append_right _ (List.mem_append_right _ (List.mem_append_right _ (List.mem_append_left _ (List.mem_of_getElem? (i := 36) rfl)))), rfl⟩
theorem kw_517 : Cond.instanceMethod yProgram_addStep ∈ xW := List.mem_filter.mpr ⟨List.mem_append_right _ (List.mem_append_right _ (List.mem_append_right _ (List.mem_append_left _ (List.mem_of_getElem? (i := 37) rfl)))), rfl⟩
theorem kw_518 : Cond.selects "OnceNamed$Program" yProgram_addStep yProgram_addStep ∈ xW := List.mem_filter.mpr ⟨List.mem_append_right _ (List.mem_append_right _ (List.mem_append_right _ (List.mem_append_left _ (List.mem_of_getElem? (i := 38) rfl)))), rfl⟩
theorem kw_500 : Cond.classLink "OnceNamed" 95 "java/lang/IllegalStateException" ∈ xW := List.mem_filter.mpr ⟨List.mem_append_right _ (List.mem_append_right _ (List.mem_append_right _ (List.mem_append_left _ (List.mem_of_getElem? (i := 20) rfl)))), rfl⟩
theorem kw_16 : Cond.initialized "java/lang/IllegalStateException" ∈ xW := List.mem_filter.mpr ⟨List.mem_append_right _ (List.mem_append_left _ (List.mem_of_getElem? (i := 16) rfl)), rfl⟩
theorem kw_269 : Cond.fieldLink "OnceNamed" 34 "OnceNamed" "graph" "LOnceNamed$Graph;" ∈ xW := List.mem_filter.mpr ⟨List.mem_append_right _ (List.mem_append_right _ (List.mem_append_left _ (List.mem_of_getElem? (i := 29) rfl))), rfl⟩
theorem kw_530 : Cond.code yOn_giveEnd cOn_giveEnd 5 none ∈ xW := List.mem_filter.mpr ⟨List.mem_append_right _ (List.mem_append_right _ (List.mem_append_right _ (List.mem_append_left _ (List.mem_of_getElem? (i := 50) rfl)))), rfl⟩
theorem kw_531 : Cond.methodLink "OnceNamed" 225 yProgram_changeEnd ∈ xW := List.mem_filter.mpr ⟨List.mem_append_right _ (List.mem_append_right _ (List.mem_append_right _ (List.mem_append_left _ (List.mem_of_getElem? (i := 51) rfl)))), rfl⟩
theorem kw_532 : Cond.instanceMethod yProgram_changeEnd ∈ xW := List.mem_filter.mpr ⟨List.mem_append_right _ (List.mem_append_right _ (List.mem_append_right _ (List.mem_append_left _ (List.mem_of_getElem? (i := 52) rfl)))), rfl⟩
theorem kw_533 : Cond.selects "OnceNamed$Program" yProgram_changeEnd yProgram_changeEnd ∈ xW := List.mem_filter.mpr ⟨List.mem_append_right _ (List.mem_append_right _ (List.mem_append_right _ (List.mem_append_left _ (List.mem_of_getElem? (i := 53) rfl)))), rfl⟩
theorem kw_229 : Cond.methodLink "OnceNamed" 80 yGraph_survey ∈ xW := List.mem_filter.mpr ⟨List.mem_append_right _ (List.mem_append_left _ (List.mem_of_getElem? (i := 229) rfl)), rfl⟩
theorem kw_230 : Cond.instanceMethod yGraph_survey ∈ xW := List.mem_filter.mpr ⟨List.mem_append_right _ (List.mem_append_left _ (List.mem_of_getElem? (i := 230) rfl)), rfl⟩
theorem kw_231 : Cond.selects "OnceNamed$Graph" yGraph_survey yGraph_survey ∈ xW := List.mem_filter.mpr ⟨List.mem_append_right _ (List.mem_append_left _ (List.mem_of_getElem? (i := 231) rfl)), rfl⟩
theorem kw_526 : Cond.code yOn_go cOn_go 3 none ∈ xW := List.mem_filter.mpr ⟨List.mem_append_right _ (List.mem_append_right _ (List.mem_append_right _ (List.mem_append_left _ (List.mem_of_getElem? (i := 46) rfl)))), rfl⟩
theorem kw_527 : Cond.methodLink "OnceNamed" 106 yOn_giveEnd ∈ xW := List.mem_filter.mpr ⟨List.mem_append_right _ (List.mem_append_right _ (List.mem_append_right _ (List.mem_append_left _ (List.mem_of_getElem? (i := 47) rfl)))), rfl⟩
theorem kw_529 : Cond.instanceMethod yOn_giveEnd ∈ xW := List.mem_filter.mpr ⟨List.mem_append_right _ (List.mem_append_right _ (List.mem_append_right _ (List.mem_append_left _ (List.mem_of_getElem? (i := 49) rfl)))), rfl⟩
theorem ks_2_0 : Cond.selects "OnceNamed" yOn_giveEnd yOn_giveEnd ∈ xW := List.mem_filter.mpr ⟨List.mem_append_left _ (List.mem_map.mpr ⟨(⟨"OnceNamed", "giveEnd", "(IIII)V"⟩, 10), List.mem_append_right _ (List.mem_append_left _ (List.mem_of_getElem? (i := 0) rfl)), rfl⟩), rfl⟩
theorem kw_541 : Cond.code yOn_fork cOn_fork 5 none ∈ xW := List.mem_filter.mpr ⟨List.mem_append_right _ (List.mem_append_right _ (List.mem_append_right _ (List.mem_append_left _ (List.mem_of_getElem? (i := 61) rfl)))), rfl⟩
theorem kw_548 : Cond.code yOn_stop cOn_stop 2 none ∈ xW := List.mem_filter.mpr ⟨List.mem_append_right _ (List.mem_append_right _ (List.mem_append_right _ (List.mem_append_left _ (List.mem_of_getElem? (i := 68) rfl)))), rfl⟩
theorem kw_555 : Cond.code yOn_start cOn_start 3 none ∈ xW := List.mem_filter.mpr ⟨List.mem_append_right _ (List.mem_append_right _ (List.mem_append_right _ (List.mem_append_left _ (List.mem_of_getElem? (i := 75) rfl)))), rfl⟩
theorem kw_556 : Cond.methodLink "OnceNamed" 112 yProgram_changeStart ∈ xW := List.mem_filter.mpr ⟨List.mem_append_right _ (List.mem_append_right _ (List.mem_append_right _ (List.mem_append_left _ (List.mem_of_getElem? (i := 76) rfl)))), rfl⟩
theorem kw_557 : Cond.instanceMethod yProgram_changeStart ∈ xW := List.mem_filter.mpr ⟨List.mem_append_right _ (List.mem_append_right _ (List.mem_append_right _ (List.mem_append_left _ (List.mem_of_getElem? (i := 77) rfl)))), rfl⟩
theorem kw_558 : Cond.selects "OnceNamed$Program" yProgram_changeStart yProgram_changeStart ∈ xW := List.mem_filter.mpr ⟨List.mem_append_right _ (List.mem_append_right _ (List.mem_append_right _ (List.mem_append_left _ (List.mem_of_getElem? (i := 78) rfl)))), rfl⟩
theorem kw_270 : Cond.fieldLink "OnceNamed" 43 "OnceNamed" "named" "LOnceNamed$NamedForm;" ∈ xW := List.mem_filter.mpr ⟨List.mem_append_right _ (List.mem_append_right _ (List.mem_append_left _ (List.mem_of_getElem? (i := 30) rfl))), rfl⟩
theorem kw_301 : Cond.code yOn_build cOn_build 1 (some .int) ∈ xW := List.mem_filter.mpr ⟨List.mem_append_right _ (List.mem_append_right _ (List.mem_append_left _ (List.mem_of_getElem? (i := 61) rfl))), rfl⟩
theorem kw_302 : Cond.methodLink "OnceNamed" 116 yNamedForm_assemble ∈ xW := List.mem_filter.mpr ⟨List.mem_append_right _ (List.mem_append_right _ (List.mem_append_left _ (List.mem_of_getElem? (i := 62) rfl))), rfl⟩
theorem kw_303 : Cond.instanceMethod yNamedForm_assemble ∈ xW := List.mem_filter.mpr ⟨List.mem_append_right _ (List.mem_append_right _ (List.mem_append_left _ (List.mem_of_getElem? (i := 63) rfl))), rfl⟩
theorem kw_304 : Cond.selects "OnceNamed$NamedForm" yNamedForm_assemble yNamedForm_assemble ∈ xW := List.mem_filter.mpr ⟨List.mem_append_right _ (List.mem_append_right _ (List.mem_append_left _ (List.mem_of_getElem? (i := 64) rfl))), rfl⟩
theorem kw_571 : Cond.code yOn_requireForm cOn_requireForm 1 none ∈ xW := List.mem_filter.mpr ⟨List.mem_append_right _ (List.mem_append_right _ (List.mem_append_right _ (List.mem_append_left _ (List.mem_of_getElem? (i := 91) rfl)))), rfl⟩
theorem kw_572 : Cond.classLink "OnceNamed" 268 "java/lang/UnsupportedOperationException" ∈ xW := List.mem_filter.mpr ⟨List.mem_append_right _ (List.mem_append_right _ (List.mem_append_right _ (List.mem_append_left _ (List.mem_of_getElem? (i := 92) rfl)))), rfl⟩
theorem kw_18 : Cond.initialized "java/lang/UnsupportedOperationException" ∈ xW := List.mem_filter.mpr ⟨List.mem_append_right _ (List.mem_append_left _ (List.mem_of_getElem? (i := 18) rfl)), rfl⟩
theorem kw_567 : Cond.code yOn_propagate cOn_propagate 1 (some .int) ∈ xW := List.mem_filter.mpr ⟨List.mem_append_right _ (List.mem_append_right _ (List.mem_append_right _ (List.mem_append_left _ (List.mem_of_getElem? (i := 87) rfl)))), rfl⟩
theorem kw_568 : Cond.methodLink "OnceNamed" 120 yOn_requireForm ∈ xW := List.mem_filter.mpr ⟨List.mem_append_right _ (List.mem_append_right _ (List.mem_append_right _ (List.mem_append_left _ (List.mem_of_getElem? (i := 88) rfl)))), rfl⟩
theorem kw_570 : Cond.instanceMethod yOn_requireForm ∈ xW := List.mem_filter.mpr ⟨List.mem_append_right _ (List.mem_append_right _ (List.mem_append_right _ (List.mem_append_left _ (List.mem_of_getElem? (i := 90) rfl)))), rfl⟩
theorem ks_2_1 : Cond.selects "OnceNamed" yOn_requireForm yOn_requireForm ∈ xW := List.mem_filter.mpr ⟨List.mem_append_left _ (List.mem_map.mpr ⟨(⟨"OnceNamed", "requireForm", "()V"⟩, 10), List.mem_append_right _ (List.mem_append_left _ (List.mem_of_getElem? (i := 1) rfl)), rfl⟩), rfl⟩
theorem kw_588 : Cond.methodLink "OnceNamed" 123 yNamedForm_isSound ∈ xW := List.mem_filter.mpr ⟨List.mem_append_right _ (List.mem_append_right _ (List.mem_append_right _ (List.mem_append_left _ (List.mem_of_getElem? (i := 108) rfl)))), rfl⟩
theorem kw_589 : Cond.instanceMethod yNamedForm_isSound ∈ xW := List.mem_filter.mpr ⟨List.mem_append_right _ (List.mem_append_right _ (List.mem_append_right _ (List.mem_append_left _ (List.mem_of_getElem? (i := 109) rfl)))), rfl⟩
theorem kw_590 : Cond.selects "OnceNamed$NamedForm" yNamedForm_isSound yNamedForm_isSound ∈ xW := List.mem_filter.mpr ⟨List.mem_append_right _ (List.mem_append_right _ (List.mem_append_right _ (List.mem_append_left _ (List.mem_of_getElem? (i := 110) rfl)))), rfl⟩
theorem kw_609 : Cond.methodLink "OnceNamed" 129 yNamedForm_dropCopies ∈ xW := List.mem_filter.mpr ⟨List.mem_append_right _ (List.mem_append_right _ (List.mem_append_right _ (List.mem_append_left _ (List.mem_of_getElem? (i := 129) rfl)))), rfl⟩
theorem kw_610 : Cond.instanceMethod yNamedForm_dropCopies ∈ xW := List.mem_filter.mpr ⟨List.mem_append_right _ (List.mem_append_right _ (List.mem_append_right _ (List.mem_append_left _ (List.mem_of_getElem? (i := 130) rfl)))), rfl⟩
theorem kw_611 : Cond.selects "OnceNamed$NamedForm" yNamedForm_dropCopies yNamedForm_dropCopies ∈ xW := List.mem_filter.mpr ⟨List.mem_append_right _ (List.mem_append_right _ (List.mem_append_right _ (List.mem_append_left _ (List.mem_of_getElem? (i := 131) rfl)))), rfl⟩
theorem kw_631 : Cond.code yOn_parent cOn_parent 2 (some .int) ∈ xW := List.mem_filter.mpr ⟨List.mem_append_right _ (List.mem_append_right _ (List.mem_append_right _ (List.mem_append_left _ (List.mem_of_getElem? (i := 151) rfl)))), rfl⟩
theorem kw_632 : Cond.methodLink "OnceNamed" 132 yGraph_parentOf ∈ xW := List.mem_filter.mpr ⟨List.mem_append_right _ (List.mem_append_right _ (List.mem_append_right _ (List.mem_append_left _ (List.mem_of_getElem? (i := 152) rfl)))), rfl⟩
theorem kw_639 : Cond.code yOn_dominates cOn_dominates 3 (some .boolean) ∈ xW := List.mem_filter.mpr ⟨List.mem_append_right _ (List.mem_append_right _ (List.mem_append_right _ (List.mem_append_left _ (List.mem_of_getElem? (i := 159) rfl)))), rfl⟩
theorem kw_640 : Cond.methodLink "OnceNamed" 135 yGraph_hasBelow ∈ xW := List.mem_filter.mpr ⟨List.mem_append_right _ (List.mem_append_right _ (List.mem_append_right _ (List.mem_append_left _ (List.mem_of_getElem? (i := 160) rfl)))), rfl⟩
theorem kw_647 : Cond.code yOn_frontier cOn_frontier 3 (some .boolean) ∈ xW := List.mem_filter.mpr ⟨List.mem_append_right _ (List.mem_append_right _ (List.mem_append_right _ (List.mem_append_left _ (List.mem_of_getElem? (i := 167) rfl)))), rfl⟩
theorem kw_648 : Cond.methodLink "OnceNamed" 139 yGraph_frontierOf ∈ xW := List.mem_filter.mpr ⟨List.mem_append_right _ (List.mem_append_right _ (List.mem_append_right _ (List.mem_append_left _ (List.mem_of_getElem? (i := 168) rfl)))), rfl⟩
theorem kw_649 : Cond.instanceMethod yGraph_frontierOf ∈ xW := List.mem_filter.mpr ⟨List.mem_append_right _ (List.mem_append_right _ (List.mem_append_right _ (List.mem_append_left _ (List.mem_of_getElem? (i := 169) rfl)))), rfl⟩
theorem kw_650 : Cond.selects "OnceNamed$Graph" yGraph_frontierOf yGraph_frontierOf ∈ xW := List.mem_filter.mpr ⟨List.mem_append_right _ (List.mem_append_right _ (List.mem_append_right _ (List.mem_append_left _ (List.mem_of_getElem? (i := 170) rfl)))), rfl⟩
theorem kw_652 : Cond.methodLink "OnceNamed" 142 yOn_has ∈ xW := List.mem_filter.mpr ⟨List.mem_append_right _ (List.mem_append_right _ (List.mem_append_right _ (List.mem_append_left _ (List.mem_of_getElem? (i := 172) rfl)))), rfl⟩
theorem kw_659 : Cond.code yOn_meeting cOn_meeting 3 (some .int) ∈ xW := List.mem_filter.mpr ⟨List.mem_append_right _ (List.mem_append_right _ (List.mem_append_right _ (List.mem_append_left _ (List.mem_of_getElem? (i := 179) rfl)))), rfl⟩
theorem kw_660 : Cond.methodLink "OnceNamed" 145 yNamedForm_meetingName ∈ xW := List.mem_filter.mpr ⟨List.mem_append_right _ (List.mem_append_right _ (List.mem_append_right _ (List.mem_append_left _ (List.mem_of_getElem? (i := 180) rfl)))), rfl⟩
theorem kw_678 : Cond.code yOn_requireBlockOrEntry cOn_requireBlockOrEntry 2 none ∈ xW := List.mem_filter.mpr ⟨List.mem_append_right _ (List.mem_append_right _ (List.mem_append_right _ (List.mem_append_left _ (List.mem_of_getElem? (i := 198) rfl)))), rfl⟩
theorem kw_674 : Cond.code yOn_requireMeetingUse cOn_requireMeetingUse 4 none ∈ xW := List.mem_filter.mpr ⟨List.mem_append_right _ (List.mem_append_right _ (List.mem_append_right _ (List.mem_append_left _ (List.mem_of_getElem? (i := 194) rfl)))), rfl⟩
theorem kw_675 : Cond.methodLink "OnceNamed" 183 yOn_requireBlockOrEntry ∈ xW := List.mem_filter.mpr ⟨List.mem_append_right _ (List.mem_append_right _ (List.mem_append_right _ (List.mem_append_left _ (List.mem_of_getElem? (i := 195) rfl)))), rfl⟩
theorem kw_677 : Cond.instanceMethod yOn_requireBlockOrEntry ∈ xW := List.mem_filter.mpr ⟨List.mem_append_right _ (List.mem_append_right _ (List.mem_append_right _ (List.mem_append_left _ (List.mem_of_getElem? (i := 197) rfl)))), rfl⟩
theorem ks_2_8 : Cond.selects "OnceNamed" yOn_requireBlockOrEntry yOn_requireBlockOrEntry ∈ xW := List.mem_filter.mpr ⟨List.mem_append_left _ (List.mem_map.mpr ⟨(⟨"OnceNamed", "requireBlockOrEntry", "(I)V"⟩, 10), List.mem_append_right _ (List.mem_append_left _ (List.mem_of_getElem? (i := 8) rfl)), rfl⟩), rfl⟩
theorem kw_670 : Cond.code yOn_source cOn_source 4 (some .int) ∈ xW := List.mem_filter.mpr ⟨List.mem_append_right _ (List.mem_append_right _ (List.mem_append_right _ (List.mem_append_left _ (List.mem_of_getElem? (i := 190) rfl)))), rfl⟩
theorem kw_671 : Cond.methodLink "OnceNamed" 148 yOn_requireMeetingUse ∈ xW := List.mem_filter.mpr ⟨List.mem_append_right _ (List.mem_append_right _ (List.mem_append_right _ (List.mem_append_left _ (List.mem_of_getElem? (i := 191) rfl)))), rfl⟩
theorem kw_673 : Cond.instanceMethod yOn_requireMeetingUse ∈ xW := List.mem_filter.mpr ⟨List.mem_append_right _ (List.mem_append_right _ (List.mem_append_right _ (List.mem_append_left _ (List.mem_of_getElem? (i := 193) rfl)))), rfl⟩
theorem ks_2_7 : Cond.selects "OnceNamed" yOn_requireMeetingUse yOn_requireMeetingUse ∈ xW := List.mem_filter.mpr ⟨List.mem_append_left _ (List.mem_map.mpr ⟨(⟨"OnceNamed", "requireMeetingUse", "(III)V"⟩, 10), List.mem_append_right _ (List.mem_append_left _ (List.mem_of_getElem? (i := 7) rfl)), rfl⟩), rfl⟩
theorem kw_680 : Cond.methodLink "OnceNamed" 152 yNamedForm_meetingUse ∈ xW := List.mem_filter.mpr ⟨List.mem_append_right _ (List.mem_append_right _ (List.mem_append_right _ (List.mem_append_left _ (List.mem_of_getElem? (i := 200) rfl)))), rfl⟩
theorem kw_694 : Cond.code yOn_requireStep cOn_requireStep 3 none ∈ xW := List.mem_filter.mpr ⟨List.mem_append_right _ (List.mem_append_right _ (List.mem_append_right _ (List.mem_append_left _ (List.mem_of_getElem? (i := 214) rfl)))), rfl⟩
theorem kw_690 : Cond.code yOn_sets cOn_sets 3 (some .int) ∈ xW := List.mem_filter.mpr ⟨List.mem_append_right _ (List.mem_append_right _ (List.mem_append_right _ (List.mem_append_left _ (List.mem_of_getElem? (i := 210) rfl)))), rfl⟩
theorem kw_691 : Cond.methodLink "OnceNamed" 156 yOn_requireStep ∈ xW := List.mem_filter.mpr ⟨List.mem_append_right _ (List.mem_append_right _ (List.mem_append_right _ (List.mem_append_left _ (List.mem_of_getElem? (i := 211) rfl)))), rfl⟩
theorem kw_693 : Cond.instanceMethod yOn_requireStep ∈ xW := List.mem_filter.mpr ⟨List.mem_append_right _ (List.mem_append_right _ (List.mem_append_right _ (List.mem_append_left _ (List.mem_of_getElem? (i := 213) rfl)))), rfl⟩
theorem ks_2_9 : Cond.selects "OnceNamed" yOn_requireStep yOn_requireStep ∈ xW := List.mem_filter.mpr ⟨List.mem_append_left _ (List.mem_map.mpr ⟨(⟨"OnceNamed", "requireStep", "(II)V"⟩, 10), List.mem_append_right _ (List.mem_append_left _ (List.mem_of_getElem? (i := 9) rfl)), rfl⟩), rfl⟩
theorem kw_696 : Cond.methodLink "OnceNamed" 159 yNamedForm_nameSet ∈ xW := List.mem_filter.mpr ⟨List.mem_append_right _ (List.mem_append_right _ (List.mem_append_right _ (List.mem_append_left _ (List.mem_of_getElem? (i := 216) rfl)))), rfl⟩
theorem kw_710 : Cond.code yOn_requireUse cOn_requireUse 4 none ∈ xW := List.mem_filter.mpr ⟨List.mem_append_right _ (List.mem_append_right _ (List.mem_append_right _ (List.mem_append_left _ (List.mem_of_getElem? (i := 230) rfl)))), rfl⟩
theorem kw_715 : Cond.code yOn_nameUsed cOn_nameUsed 4 (some .int) ∈ xW := List.mem_filter.mpr ⟨List.mem_append_right _ (List.mem_append_right _ (List.mem_append_right _ (List.mem_append_left _ (List.mem_of_getElem? (i := 235) rfl)))), rfl⟩
theorem kw_720 : Cond.methodLink "OnceNamed" 231 yNamedForm_stepUse ∈ xW := List.mem_filter.mpr ⟨List.mem_append_right _ (List.mem_append_right _ (List.mem_append_right _ (List.mem_append_right _ (List.mem_append_left _ (List.mem_of_getElem? (i := 0) rfl))))), rfl⟩
theorem kw_716 : Cond.methodLink "OnceNamed" 228 yNamedForm_endUse ∈ xW := List.mem_filter.mpr ⟨List.mem_append_right _ (List.mem_append_right _ (List.mem_append_right _ (List.mem_append_left _ (List.mem_of_getElem? (i := 236) rfl)))), rfl⟩
theorem kw_706 : Cond.code yOn_use cOn_use 4 (some .int) ∈ xW := List.mem_filter.mpr ⟨List.mem_append_right _ (List.mem_append_right _ (List.mem_append_right _ (List.mem_append_left _ (List.mem_of_getElem? (i := 226) rfl)))), rfl⟩
theorem kw_707 : Cond.methodLink "OnceNamed" 162 yOn_requireUse ∈ xW := List.mem_filter.mpr ⟨List.mem_append_right _ (List.mem_append_right _ (List.mem_append_right _ (List.mem_append_left _ (List.mem_of_getElem? (i := 227) rfl)))), rfl⟩
theorem kw_709 : Cond.instanceMethod yOn_requireUse ∈ xW := List.mem_filter.mpr ⟨List.mem_append_right _ (List.mem_append_right _ (List.mem_append_right _ (List.mem_append_left _ (List.mem_of_getElem? (i := 229) rfl)))), rfl⟩
theorem ks_2_10 : Cond.selects "OnceNamed" yOn_requireUse yOn_requireUse ∈ xW := List.mem_filter.mpr ⟨List.mem_append_left _ (List.mem_map.mpr ⟨(⟨"OnceNamed", "requireUse", "(III)V"⟩, 10), List.mem_append_right _ (List.mem_append_left _ (List.mem_of_getElem? (i := 10) rfl)), rfl⟩), rfl⟩
theorem kw_712 : Cond.methodLink "OnceNamed" 165 yOn_nameUsed ∈ xW := List.mem_filter.mpr ⟨List.mem_append_right _ (List.mem_append_right _ (List.mem_append_right _ (List.mem_append_left _ (List.mem_of_getElem? (i := 232) rfl)))), rfl⟩
theorem kw_714 : Cond.instanceMethod yOn_nameUsed ∈ xW := List.mem_filter.mpr ⟨List.mem_append_right _ (List.mem_append_right _ (List.mem_append_right _ (List.mem_append_left _ (List.mem_of_getElem? (i := 234) rfl)))), rfl⟩
theorem ks_2_11 : Cond.selects "OnceNamed" yOn_nameUsed yOn_nameUsed ∈ xW := List.mem_filter.mpr ⟨List.mem_append_left _ (List.mem_map.mpr ⟨(⟨"OnceNamed", "nameUsed", "(III)I"⟩, 10), List.mem_append_right _ (List.mem_append_left _ (List.mem_of_getElem? (i := 11) rfl)), rfl⟩), rfl⟩
theorem kw_733 : Cond.code yOn_requireThere cOn_requireThere 1 none ∈ xW := List.mem_filter.mpr ⟨List.mem_append_right _ (List.mem_append_right _ (List.mem_append_right _ (List.mem_append_right _ (List.mem_append_left _ (List.mem_of_getElem? (i := 13) rfl))))), rfl⟩
theorem kw_738 : Cond.code yOn_requireName cOn_requireName 2 none ∈ xW := List.mem_filter.mpr ⟨List.mem_append_right _ (List.mem_append_right _ (List.mem_append_right _ (List.mem_append_right _ (List.mem_append_left _ (List.mem_of_getElem? (i := 18) rfl))))), rfl⟩
theorem kw_739 : Cond.methodLink "OnceNamed" 263 yNamedForm_hasName ∈ xW := List.mem_filter.mpr ⟨List.mem_append_right _ (List.mem_append_right _ (List.mem_append_right _ (List.mem_append_right _ (List.mem_append_left _ (List.mem_of_getElem? (i := 19) rfl))))), rfl⟩
theorem kw_740 : Cond.instanceMethod yNamedForm_hasName ∈ xW := List.mem_filter.mpr ⟨List.mem_append_right _ (List.mem_append_right _ (List.mem_append_right _ (List.mem_append_right _ (List.mem_append_left _ (List.mem_of_getElem? (i := 20) rfl))))), rfl⟩
theorem kw_741 : Cond.selects "OnceNamed$NamedForm" yNamedForm_hasName yNamedForm_hasName ∈ xW := List.mem_filter.mpr ⟨List.mem_append_right _ (List.mem_append_right _ (List.mem_append_right _ (List.mem_append_right _ (List.mem_append_left _ (List.mem_of_getElem? (i := 21) rfl))))), rfl⟩
theorem kw_730 : Cond.code yOn_alter cOn_alter 5 none ∈ xW := List.mem_filter.mpr ⟨List.mem_append_right _ (List.mem_append_right _ (List.mem_append_right _ (List.mem_append_right _ (List.mem_append_left _ (List.mem_of_getElem? (i := 10) rfl))))), rfl⟩
theorem kw_731 : Cond.methodLink "OnceNamed" 168 yOn_requireThere ∈ xW := List.mem_filter.mpr ⟨List.mem_append_right _ (List.mem_append_right _ (List.mem_append_right _ (List.mem_append_right _ (List.mem_append_left _ (List.mem_of_getElem? (i := 11) rfl))))), rfl⟩
theorem kw_732 : Cond.static yOn_requireThere ∈ xW := List.mem_filter.mpr ⟨List.mem_append_right _ (List.mem_append_right _ (List.mem_append_right _ (List.mem_append_right _ (List.mem_append_left _ (List.mem_of_getElem? (i := 12) rfl))))), rfl⟩
theorem kw_735 : Cond.methodLink "OnceNamed" 171 yOn_requireName ∈ xW := List.mem_filter.mpr ⟨List.mem_append_right _ (List.mem_append_right _ (List.mem_append_right _ (List.mem_append_right _ (List.mem_append_left _ (List.mem_of_getElem? (i := 15) rfl))))), rfl⟩
theorem kw_737 : Cond.instanceMethod yOn_requireName ∈ xW := List.mem_filter.mpr ⟨List.mem_append_right _ (List.mem_append_right _ (List.mem_append_right _ (List.mem_append_right _ (List.mem_append_left _ (List.mem_of_getElem? (i := 17) rfl))))), rfl⟩
theorem ks_2_12 : Cond.selects "OnceNamed" yOn_requireName yOn_requireName ∈ xW := List.mem_filter.mpr ⟨List.mem_append_left _ (List.mem_map.mpr ⟨(⟨"OnceNamed", "requireName", "(I)V"⟩, 10), List.mem_append_right _ (List.mem_append_left _ (List.mem_of_getElem? (i := 12) rfl)), rfl⟩), rfl⟩
theorem kw_748 : Cond.methodLink "OnceNamed" 177 yNamedForm_changeStepUse ∈ xW := List.mem_filter.mpr ⟨List.mem_append_right _ (List.mem_append_right _ (List.mem_append_right _ (List.mem_append_right _ (List.mem_append_left _ (List.mem_of_getElem? (i := 28) rfl))))), rfl⟩
theorem kw_749 : Cond.instanceMethod yNamedForm_changeStepUse ∈ xW := List.mem_filter.mpr ⟨List.mem_append_right _ (List.mem_append_right _ (List.mem_append_right _ (List.mem_append_right _ (List.mem_append_left _ (List.mem_of_getElem? (i := 29) rfl))))), rfl⟩
theorem kw_750 : Cond.selects "OnceNamed$NamedForm" yNamedForm_changeStepUse yNamedForm_changeStepUse ∈ xW := List.mem_filter.mpr ⟨List.mem_append_right _ (List.mem_append_right _ (List.mem_append_right _ (List.mem_append_right _ (List.mem_append_left _ (List.mem_of_getElem? (i := 30) rfl))))), rfl⟩
theorem kw_744 : Cond.methodLink "OnceNamed" 174 yNamedForm_changeEndUse ∈ xW := List.mem_filter.mpr ⟨List.mem_append_right _ (List.mem_append_right _ (List.mem_append_right _ (List.mem_append_right _ (List.mem_append_left _ (List.mem_of_getElem? (i := 24) rfl))))), rfl⟩
theorem kw_745 : Cond.instanceMethod yNamedForm_changeEndUse ∈ xW := List.mem_filter.mpr ⟨List.mem_append_right _ (List.mem_append_right _ (List.mem_append_right _ (List.mem_append_right _ (List.mem_append_left _ (List.mem_of_getElem? (i := 25) rfl))))), rfl⟩
theorem kw_746 : Cond.selects "OnceNamed$NamedForm" yNamedForm_changeEndUse yNamedForm_changeEndUse ∈ xW := List.mem_filter.mpr ⟨List.mem_append_right _ (List.mem_append_right _ (List.mem_append_right _ (List.mem_append_right _ (List.mem_append_left _ (List.mem_of_getElem? (i := 26) rfl))))), rfl⟩
theorem kw_758 : Cond.code yOn_turn cOn_turn 5 none ∈ xW := List.mem_filter.mpr ⟨List.mem_append_right _ (List.mem_append_right _ (List.mem_append_right _ (List.mem_append_right _ (List.mem_append_left _ (List.mem_of_getElem? (i := 38) rfl))))), rfl⟩
theorem kw_759 : Cond.methodLink "OnceNamed" 180 yNamedForm_changeMeetingUse ∈ xW := List.mem_filter.mpr ⟨List.mem_append_right _ (List.mem_append_right _ (List.mem_append_right _ (List.mem_append_right _ (List.mem_append_left _ (List.mem_of_getElem? (i := 39) rfl))))), rfl⟩
theorem kw_760 : Cond.instanceMethod yNamedForm_changeMeetingUse ∈ xW := List.mem_filter.mpr ⟨List.mem_append_right _ (List.mem_append_right _ (List.mem_append_right _ (List.mem_append_right _ (List.mem_append_left _ (List.mem_of_getElem? (i := 40) rfl))))), rfl⟩
theorem kw_761 : Cond.selects "OnceNamed$NamedForm" yNamedForm_changeMeetingUse yNamedForm_changeMeetingUse ∈ xW := List.mem_filter.mpr ⟨List.mem_append_right _ (List.mem_append_right _ (List.mem_append_right _ (List.mem_append_right _ (List.mem_append_left _ (List.mem_of_getElem? (i := 41) rfl))))), rfl⟩
theorem kw_769 : Cond.code yOn_valid cOn_valid 1 (some .boolean) ∈ xW := List.mem_filter.mpr ⟨List.mem_append_right _ (List.mem_append_right _ (List.mem_append_right _ (List.mem_append_right _ (List.mem_append_left _ (List.mem_of_getElem? (i := 49) rfl))))), rfl⟩
theorem kw_271 : Cond.fieldLink "OnceNamed" 50 "OnceNamed" "plan" "LOnceNamed$CopyPlan;" ∈ xW := List.mem_filter.mpr ⟨List.mem_append_right _ (List.mem_append_right _ (List.mem_append_left _ (List.mem_of_getElem? (i := 31) rfl))), rfl⟩
theorem kw_776 : Cond.code yOn_copies cOn_copies 3 (some .int) ∈ xW := List.mem_filter.mpr ⟨List.mem_append_right _ (List.mem_append_right _ (List.mem_append_right _ (List.mem_append_right _ (List.mem_append_left _ (List.mem_of_getElem? (i := 56) rfl))))), rfl⟩
theorem kw_777 : Cond.methodLink "OnceNamed" 186 yCopyPlan_draw ∈ xW := List.mem_filter.mpr ⟨List.mem_append_right _ (List.mem_append_right _ (List.mem_append_right _ (List.mem_append_right _ (List.mem_append_left _ (List.mem_of_getElem? (i := 57) rfl))))), rfl⟩
theorem kw_807 : Cond.methodLink "OnceNamed" 190 yCopyPlan_length ∈ xW := List.mem_filter.mpr ⟨List.mem_append_right _ (List.mem_append_right _ (List.mem_append_right _ (List.mem_append_right _ (List.mem_append_left _ (List.mem_of_getElem? (i := 87) rfl))))), rfl⟩
theorem kw_822 : Cond.code yOn_requireRunnable cOn_requireRunnable 2 none ∈ xW := List.mem_filter.mpr ⟨List.mem_append_right _ (List.mem_append_right _ (List.mem_append_right _ (List.mem_append_right _ (List.mem_append_left _ (List.mem_of_getElem? (i := 102) rfl))))), rfl⟩
theorem kw_272 : Cond.fieldLink "OnceNamed" 59 "OnceNamed" "runner" "LOnceNamed$Runner;" ∈ xW := List.mem_filter.mpr ⟨List.mem_append_right _ (List.mem_append_right _ (List.mem_append_left _ (List.mem_of_getElem? (i := 32) rfl))), rfl⟩
theorem kw_273 : Cond.fieldLink "OnceNamed" 66 "OnceNamed" "latest" "LOnceNamed$Talk;" ∈ xW := List.mem_filter.mpr ⟨List.mem_append_right _ (List.mem_append_right _ (List.mem_append_left _ (List.mem_of_getElem? (i := 33) rfl))), rfl⟩
theorem kw_818 : Cond.code yOn_run cOn_run 2 (some .int) ∈ xW := List.mem_filter.mpr ⟨List.mem_append_right _ (List.mem_append_right _ (List.mem_append_right _ (List.mem_append_right _ (List.mem_append_left _ (List.mem_of_getElem? (i := 98) rfl))))), rfl⟩
theorem kw_819 : Cond.methodLink "OnceNamed" 193 yOn_requireRunnable ∈ xW := List.mem_filter.mpr ⟨List.mem_append_right _ (List.mem_append_right _ (List.mem_append_right _ (List.mem_append_right _ (List.mem_append_left _ (List.mem_of_getElem? (i := 99) rfl))))), rfl⟩
theorem kw_821 : Cond.instanceMethod yOn_requireRunnable ∈ xW := List.mem_filter.mpr ⟨List.mem_append_right _ (List.mem_append_right _ (List.mem_append_right _ (List.mem_append_right _ (List.mem_append_left _ (List.mem_of_getElem? (i := 101) rfl))))), rfl⟩
theorem ks_3_3 : Cond.selects "OnceNamed" yOn_requireRunnable yOn_requireRunnable ∈ xW := List.mem_filter.mpr ⟨List.mem_append_left _ (List.mem_map.mpr ⟨(⟨"OnceNamed", "requireRunnable", "(I)V"⟩, 10), List.mem_append_right _ (List.mem_append_right _ (List.mem_append_left _ (List.mem_of_getElem? (i := 3) rfl))), rfl⟩), rfl⟩
theorem kw_824 : Cond.methodLink "OnceNamed" 196 yRunner_perform ∈ xW := List.mem_filter.mpr ⟨List.mem_append_right _ (List.mem_append_right _ (List.mem_append_right _ (List.mem_append_right _ (List.mem_append_left _ (List.mem_of_getElem? (i := 104) rfl))))), rfl⟩
theorem kw_825 : Cond.instanceMethod yRunner_perform ∈ xW := List.mem_filter.mpr ⟨List.mem_append_right _ (List.mem_append_right _ (List.mem_append_right _ (List.mem_append_right _ (List.mem_append_left _ (List.mem_of_getElem? (i := 105) rfl))))), rfl⟩
theorem kw_826 : Cond.selects "OnceNamed$Runner" yRunner_perform yRunner_perform ∈ xW := List.mem_filter.mpr ⟨List.mem_append_right _ (List.mem_append_right _ (List.mem_append_right _ (List.mem_append_right _ (List.mem_append_left _ (List.mem_of_getElem? (i := 106) rfl))))), rfl⟩
theorem kw_918 : Cond.methodLink "OnceNamed" 200 yTalk_outcome ∈ xW := List.mem_filter.mpr ⟨List.mem_append_right _ (List.mem_append_right _ (List.mem_append_right _ (List.mem_append_right _ (List.mem_append_left _ (List.mem_of_getElem? (i := 198) rfl))))), rfl⟩
theorem kw_936 : Cond.methodLink "OnceNamed" 210 yTalk_size ∈ xW := List.mem_filter.mpr ⟨List.mem_append_right _ (List.mem_append_right _ (List.mem_append_right _ (List.mem_append_right _ (List.mem_append_left _ (List.mem_of_getElem? (i := 216) rfl))))), rfl⟩
theorem kw_937 : Cond.instanceMethod yTalk_size ∈ xW := List.mem_filter.mpr ⟨List.mem_append_right _ (List.mem_append_right _ (List.mem_append_right _ (List.mem_append_right _ (List.mem_append_left _ (List.mem_of_getElem? (i := 217) rfl))))), rfl⟩
theorem kw_938 : Cond.selects "OnceNamed$Talk" yTalk_size yTalk_size ∈ xW := List.mem_filter.mpr ⟨List.mem_append_right _ (List.mem_append_right _ (List.mem_append_right _ (List.mem_append_right _ (List.mem_append_left _ (List.mem_of_getElem? (i := 218) rfl))))), rfl⟩
theorem kw_919 : Cond.classLink "OnceNamed" 203 "java/lang/ArithmeticException" ∈ xW := List.mem_filter.mpr ⟨List.mem_append_right _ (List.mem_append_right _ (List.mem_append_right _ (List.mem_append_right _ (List.mem_append_left _ (List.mem_of_getElem? (i := 199) rfl))))), rfl⟩
theorem kw_19 : Cond.initialized "java/lang/ArithmeticException" ∈ xW := List.mem_filter.mpr ⟨List.mem_append_right _ (List.mem_append_left _ (List.mem_of_getElem? (i := 19) rfl)), rfl⟩
theorem kw_947 : Cond.code yOn_said cOn_said 2 (some .int) ∈ xW := List.mem_filter.mpr ⟨List.mem_append_right _ (List.mem_append_right _ (List.mem_append_right _ (List.mem_append_right _ (List.mem_append_left _ (List.mem_of_getElem? (i := 227) rfl))))), rfl⟩
theorem kw_948 : Cond.classLink "OnceNamed" 213 "java/lang/IndexOutOfBoundsException" ∈ xW := List.mem_filter.mpr ⟨List.mem_append_right _ (List.mem_append_right _ (List.mem_append_right _ (List.mem_append_right _ (List.mem_append_left _ (List.mem_of_getElem? (i := 228) rfl))))), rfl⟩
theorem kw_20 : Cond.initialized "java/lang/IndexOutOfBoundsException" ∈ xW := List.mem_filter.mpr ⟨List.mem_append_right _ (List.mem_append_left _ (List.mem_of_getElem? (i := 20) rfl)), rfl⟩
theorem kw_964 : Cond.methodLink "OnceNamed" 218 yTalk_number ∈ xW := List.mem_filter.mpr ⟨List.mem_append_right _ (List.mem_append_right _ (List.mem_append_right _ (List.mem_append_right _ (List.mem_append_right _ (List.mem_append_left _ (List.mem_of_getElem? (i := 4) rfl)))))), rfl⟩
theorem kw_965 : Cond.instanceMethod yTalk_number ∈ xW := List.mem_filter.mpr ⟨List.mem_append_right _ (List.mem_append_right _ (List.mem_append_right _ (List.mem_append_right _ (List.mem_append_right _ (List.mem_append_left _ (List.mem_of_getElem? (i := 5) rfl)))))), rfl⟩
theorem kw_966 : Cond.selects "OnceNamed$Talk" yTalk_number yTalk_number ∈ xW := List.mem_filter.mpr ⟨List.mem_append_right _ (List.mem_append_right _ (List.mem_append_right _ (List.mem_append_right _ (List.mem_append_right _ (List.mem_append_left _ (List.mem_of_getElem? (i := 6) rfl)))))), rfl⟩
theorem kw_274 : Cond.fieldLink "OnceNamed" 70 "OnceNamed" "talkOfProgram" "LOnceNamed$Talk;" ∈ xW := List.mem_filter.mpr ⟨List.mem_append_right _ (List.mem_append_right _ (List.mem_append_left _ (List.mem_of_getElem? (i := 34) rfl))), rfl⟩
theorem kw_275 : Cond.fieldLink "OnceNamed" 73 "OnceNamed" "talkOfForm" "LOnceNamed$Talk;" ∈ xW := List.mem_filter.mpr ⟨List.mem_append_right _ (List.mem_append_right _ (List.mem_append_left _ (List.mem_of_getElem? (i := 35) rfl))), rfl⟩
theorem kw_974 : Cond.code yOn_same cOn_same 2 (some .boolean) ∈ xW := List.mem_filter.mpr ⟨List.mem_append_right _ (List.mem_append_right _ (List.mem_append_right _ (List.mem_append_right _ (List.mem_append_right _ (List.mem_append_left _ (List.mem_of_getElem? (i := 14) rfl)))))), rfl⟩
theorem kw_975 : Cond.methodLink "OnceNamed" 221 yTalk_isLike ∈ xW := List.mem_filter.mpr ⟨List.mem_append_right _ (List.mem_append_right _ (List.mem_append_right _ (List.mem_append_right _ (List.mem_append_right _ (List.mem_append_left _ (List.mem_of_getElem? (i := 15) rfl)))))), rfl⟩
theorem kw_976 : Cond.instanceMethod yTalk_isLike ∈ xW := List.mem_filter.mpr ⟨List.mem_append_right _ (List.mem_append_right _ (List.mem_append_right _ (List.mem_append_right _ (List.mem_append_right _ (List.mem_append_left _ (List.mem_of_getElem? (i := 16) rfl)))))), rfl⟩
theorem kw_977 : Cond.selects "OnceNamed$Talk" yTalk_isLike yTalk_isLike ∈ xW := List.mem_filter.mpr ⟨List.mem_append_right _ (List.mem_append_right _ (List.mem_append_right _ (List.mem_append_right _ (List.mem_append_right _ (List.mem_append_left _ (List.mem_of_getElem? (i := 17) rfl)))))), rfl⟩
theorem xat_0 : ∀ w ∈ Bundle.ownAtoms "OnceNamed" 238 (xEx 0) xNm, w ∈ xW ∨ w ∈ xKd ∨ w = xUn ∨ w = xSn ∨ w = xUs ∨ w = xSs := xat_of _ (by decide +kernel)
theorem xat_1 : ∀ w ∈ Bundle.ownAtoms "OnceNamed" 99 (xEx 1) xNm, w ∈ xW ∨ w ∈ xKd ∨ w = xUn ∨ w = xSn ∨ w = xUs ∨ w = xSs := xat_of _ (by decide +kernel)
theorem xat_2 : ∀ w ∈ Bundle.ownAtoms "OnceNamed" 272 (xEx 2) xNm, w ∈ xW ∨ w ∈ xKd ∨ w = xUn ∨ w = xSn ∨ w = xUs ∨ w = xSs := xat_of _ (by decide +kernel)
theorem xat_3 : ∀ w ∈ Bundle.ownAtoms "OnceNamed" 207 (xEx 3) xNm, w ∈ xW ∨ w ∈ xKd ∨ w = xUn ∨ w = xSn ∨ w = xUs ∨ w = xSs := xat_of _ (by decide +kernel)
theorem xat_4 : ∀ w ∈ Bundle.ownAtoms "OnceNamed" 217 (xEx 4) xNm, w ∈ xW ∨ w ∈ xKd ∨ w = xUn ∨ w = xSn ∨ w = xUs ∨ w = xSs := xat_of _ (by decide +kernel)
