/-! The words that every method of ours is given: those of the tables that hold in every later state too -/
def xW : List Cond := lw_tbl.filter goodWord
theorem xW_good : ∀ w ∈ xW, goodWord w = true := fun _ h => (List.mem_filter.mp h).2
theorem xW_in : ∀ w ∈ xW, w ∈ lw_tbl := fun _ h => (List.mem_filter.mp h).1
theorem goodX {a : Cond} {ws : List Cond} (h : ∀ w ∈ ws, w ∈ xW) : GoodIn (a :: xW) ws := fun w hw => ⟨List.mem_cons_of_mem _ (h w hw), good_of_word (xW_good w (h w hw))⟩
theorem goodB {a cd : Cond} (h : cd ∈ xW) : GoodIn (a :: xW) (cd :: xW) := goodX (List.forall_mem_cons.mpr ⟨h, fun _ h => h⟩)
theorem goodV {a cd : Cond} {own C : String} {idx : Nat} {y : MethodName} (h1 : Cond.methodLink own idx y ∈ xW) (h2 : Cond.instanceMethod y ∈ xW) (h3 : Cond.selects C y y ∈ xW) (h4 : Cond.initialized C ∈ xW) (h5 : cd ∈ xW) : GoodIn (a :: xW) (wsV own idx C y (cd :: xW)) :=
  goodX (List.forall_mem_cons.mpr ⟨h1, List.forall_mem_cons.mpr ⟨h2, List.forall_mem_cons.mpr ⟨h3, List.forall_mem_cons.mpr ⟨h4, List.forall_mem_cons.mpr ⟨h5, fun _ h => h⟩⟩⟩⟩⟩)
theorem goodS {a cd : Cond} {own : String} {idx : Nat} {y : MethodName} (h1 : Cond.methodLink own idx y ∈ xW) (h2 : Cond.static y ∈ xW) (h3 : Cond.initialized y.cls ∈ xW) (h5 : cd ∈ xW) : GoodIn (a :: xW) (va_wsS own idx y (cd :: xW)) :=
  goodX (List.forall_mem_cons.mpr ⟨h1, List.forall_mem_cons.mpr ⟨h2, List.forall_mem_cons.mpr ⟨h3, List.forall_mem_cons.mpr ⟨h5, fun _ h => h⟩⟩⟩⟩)
abbrev cArrays_fill : ByteArray := prog_22_method_103_code
abbrev yArrays_fill : MethodName := ⟨"java/util/Arrays", "fill", "([II)V"⟩
abbrev cInteger_bitCount : ByteArray := prog_15_method_49_code
abbrev yInteger_bitCount : MethodName := ⟨"java/lang/Integer", "bitCount", "(I)I"⟩
abbrev cOn_has : ByteArray := prog_1_method_36_code
abbrev yOn_has : MethodName := ⟨"OnceNamed", "has", "(II)Z"⟩
abbrev cProgram_setsVariable : ByteArray := prog_5_method_2_code
abbrev yProgram_setsVariable : MethodName := ⟨"OnceNamed$Program", "setsVariable", "(I)Z"⟩
abbrev cProgram_usesFirst : ByteArray := prog_5_method_3_code
abbrev yProgram_usesFirst : MethodName := ⟨"OnceNamed$Program", "usesFirst", "(I)Z"⟩
abbrev cProgram_usesSecond : ByteArray := prog_5_method_4_code
abbrev yProgram_usesSecond : MethodName := ⟨"OnceNamed$Program", "usesSecond", "(I)Z"⟩
abbrev cProgram_blockCount : ByteArray := prog_5_method_5_code
abbrev yProgram_blockCount : MethodName := ⟨"OnceNamed$Program", "blockCount", "()I"⟩
abbrev cProgram_stepsOf : ByteArray := prog_5_method_6_code
abbrev yProgram_stepsOf : MethodName := ⟨"OnceNamed$Program", "stepsOf", "(I)I"⟩
abbrev cProgram_addStep : ByteArray := prog_5_method_7_code
abbrev yProgram_addStep : MethodName := ⟨"OnceNamed$Program", "addStep", "(IIIII)V"⟩
abbrev cProgram_changeEnd : ByteArray := prog_5_method_8_code
abbrev yProgram_changeEnd : MethodName := ⟨"OnceNamed$Program", "changeEnd", "(IIII)V"⟩
abbrev cProgram_changeStart : ByteArray := prog_5_method_9_code
abbrev yProgram_changeStart : MethodName := ⟨"OnceNamed$Program", "changeStart", "(II)V"⟩
abbrev cProgram_startOf : ByteArray := prog_5_method_10_code
abbrev yProgram_startOf : MethodName := ⟨"OnceNamed$Program", "startOf", "(I)I"⟩
abbrev cProgram_kindOf : ByteArray := prog_5_method_11_code
abbrev yProgram_kindOf : MethodName := ⟨"OnceNamed$Program", "kindOf", "(II)I"⟩
abbrev cProgram_numberPut : ByteArray := prog_5_method_12_code
abbrev yProgram_numberPut : MethodName := ⟨"OnceNamed$Program", "numberPut", "(II)I"⟩
abbrev cProgram_variableSet : ByteArray := prog_5_method_13_code
abbrev yProgram_variableSet : MethodName := ⟨"OnceNamed$Program", "variableSet", "(II)I"⟩
abbrev cProgram_firstVariable : ByteArray := prog_5_method_14_code
abbrev yProgram_firstVariable : MethodName := ⟨"OnceNamed$Program", "firstVariable", "(II)I"⟩
abbrev cProgram_secondVariable : ByteArray := prog_5_method_15_code
abbrev yProgram_secondVariable : MethodName := ⟨"OnceNamed$Program", "secondVariable", "(II)I"⟩
abbrev cProgram_variableOfFork : ByteArray := prog_5_method_16_code
abbrev yProgram_variableOfFork : MethodName := ⟨"OnceNamed$Program", "variableOfFork", "(I)I"⟩
abbrev cProgram_blockAfter : ByteArray := prog_5_method_17_code
abbrev yProgram_blockAfter : MethodName := ⟨"OnceNamed$Program", "blockAfter", "(IZ)I"⟩
abbrev cProgram_followers : ByteArray := prog_5_method_18_code
abbrev yProgram_followers : MethodName := ⟨"OnceNamed$Program", "followers", "(I)I"⟩
abbrev cProgram_setsInBlock : ByteArray := prog_5_method_19_code
abbrev yProgram_setsInBlock : MethodName := ⟨"OnceNamed$Program", "setsInBlock", "(II)Z"⟩
abbrev cTalk_begin : ByteArray := prog_7_method_2_code
abbrev yTalk_begin : MethodName := ⟨"OnceNamed$Talk", "begin", "()V"⟩
abbrev cTalk_say : ByteArray := prog_7_method_3_code
abbrev yTalk_say : MethodName := ⟨"OnceNamed$Talk", "say", "(I)V"⟩
abbrev cTalk_fail : ByteArray := prog_7_method_4_code
abbrev yTalk_fail : MethodName := ⟨"OnceNamed$Talk", "fail", "(I)V"⟩
abbrev cTalk_outcome : ByteArray := prog_7_method_5_code
abbrev yTalk_outcome : MethodName := ⟨"OnceNamed$Talk", "outcome", "()I"⟩
abbrev cTalk_size : ByteArray := prog_7_method_6_code
abbrev yTalk_size : MethodName := ⟨"OnceNamed$Talk", "size", "()I"⟩
abbrev cTalk_number : ByteArray := prog_7_method_7_code
abbrev yTalk_number : MethodName := ⟨"OnceNamed$Talk", "number", "(I)I"⟩
abbrev cTalk_isLike : ByteArray := prog_7_method_8_code
abbrev yTalk_isLike : MethodName := ⟨"OnceNamed$Talk", "isLike", "(LOnceNamed$Talk;)Z"⟩
abbrev cGraph_survey : ByteArray := prog_3_method_2_code
abbrev yGraph_survey : MethodName := ⟨"OnceNamed$Graph", "survey", "(LOnceNamed$Program;)V"⟩
abbrev cGraph_reachedWithout : ByteArray := prog_3_method_3_code
abbrev yGraph_reachedWithout : MethodName := ⟨"OnceNamed$Graph", "reachedWithout", "(LOnceNamed$Program;I)I"⟩
abbrev cGraph_findForerunners : ByteArray := prog_3_method_4_code
abbrev yGraph_findForerunners : MethodName := ⟨"OnceNamed$Graph", "findForerunners", "(LOnceNamed$Program;)V"⟩
abbrev cGraph_nearestAbove : ByteArray := prog_3_method_5_code
abbrev yGraph_nearestAbove : MethodName := ⟨"OnceNamed$Graph", "nearestAbove", "(I)I"⟩
abbrev cGraph_findFrontier : ByteArray := prog_3_method_6_code
abbrev yGraph_findFrontier : MethodName := ⟨"OnceNamed$Graph", "findFrontier", "(I)I"⟩
abbrev cGraph_findOrder : ByteArray := prog_3_method_7_code
abbrev yGraph_findOrder : MethodName := ⟨"OnceNamed$Graph", "findOrder", "()V"⟩
abbrev cGraph_parentOf : ByteArray := prog_3_method_8_code
abbrev yGraph_parentOf : MethodName := ⟨"OnceNamed$Graph", "parentOf", "(I)I"⟩
abbrev cGraph_hasBelow : ByteArray := prog_3_method_9_code
abbrev yGraph_hasBelow : MethodName := ⟨"OnceNamed$Graph", "hasBelow", "(II)Z"⟩
abbrev cGraph_frontierOf : ByteArray := prog_3_method_10_code
abbrev yGraph_frontierOf : MethodName := ⟨"OnceNamed$Graph", "frontierOf", "(I)I"⟩
abbrev cGraph_frontierOfAll : ByteArray := prog_3_method_11_code
abbrev yGraph_frontierOfAll : MethodName := ⟨"OnceNamed$Graph", "frontierOfAll", "(I)I"⟩
abbrev cGraph_leadsTo : ByteArray := prog_3_method_12_code
abbrev yGraph_leadsTo : MethodName := ⟨"OnceNamed$Graph", "leadsTo", "(II)Z"⟩
abbrev cGraph_reachedCount : ByteArray := prog_3_method_13_code
abbrev yGraph_reachedCount : MethodName := ⟨"OnceNamed$Graph", "reachedCount", "()I"⟩
abbrev cGraph_inOrder : ByteArray := prog_3_method_14_code
abbrev yGraph_inOrder : MethodName := ⟨"OnceNamed$Graph", "inOrder", "(I)I"⟩
abbrev cNamedForm_assemble : ByteArray := prog_4_method_2_code
abbrev yNamedForm_assemble : MethodName := ⟨"OnceNamed$NamedForm", "assemble", "()I"⟩
abbrev cNamedForm_forgetAll : ByteArray := prog_4_method_3_code
abbrev yNamedForm_forgetAll : MethodName := ⟨"OnceNamed$NamedForm", "forgetAll", "()V"⟩
abbrev cNamedForm_markMeetings : ByteArray := prog_4_method_4_code
abbrev yNamedForm_markMeetings : MethodName := ⟨"OnceNamed$NamedForm", "markMeetings", "(I)V"⟩
abbrev cNamedForm_newName : ByteArray := prog_4_method_5_code
abbrev yNamedForm_newName : MethodName := ⟨"OnceNamed$NamedForm", "newName", "(III)I"⟩
abbrev cNamedForm_lastName : ByteArray := prog_4_method_6_code
abbrev yNamedForm_lastName : MethodName := ⟨"OnceNamed$NamedForm", "lastName", "(II)I"⟩
abbrev cNamedForm_nameBlock : ByteArray := prog_4_method_7_code
abbrev yNamedForm_nameBlock : MethodName := ⟨"OnceNamed$NamedForm", "nameBlock", "(I)V"⟩
abbrev cNamedForm_nameStep : ByteArray := prog_4_method_8_code
abbrev yNamedForm_nameStep : MethodName := ⟨"OnceNamed$NamedForm", "nameStep", "(II)V"⟩
abbrev cNamedForm_findMeetingUses : ByteArray := prog_4_method_9_code
abbrev yNamedForm_findMeetingUses : MethodName := ⟨"OnceNamed$NamedForm", "findMeetingUses", "()V"⟩
abbrev cNamedForm_findUsesOfMeeting : ByteArray := prog_4_method_10_code
abbrev yNamedForm_findUsesOfMeeting : MethodName := ⟨"OnceNamed$NamedForm", "findUsesOfMeeting", "(II)V"⟩
abbrev cNamedForm_useOfMeeting : ByteArray := prog_4_method_11_code
abbrev yNamedForm_useOfMeeting : MethodName := ⟨"OnceNamed$NamedForm", "useOfMeeting", "(III)I"⟩
abbrev cNamedForm_isSound : ByteArray := prog_4_method_12_code
abbrev yNamedForm_isSound : MethodName := ⟨"OnceNamed$NamedForm", "isSound", "()Z"⟩
abbrev cNamedForm_isBlockSound : ByteArray := prog_4_method_13_code
abbrev yNamedForm_isBlockSound : MethodName := ⟨"OnceNamed$NamedForm", "isBlockSound", "(I)Z"⟩
abbrev cNamedForm_areMeetingsSound : ByteArray := prog_4_method_14_code
abbrev yNamedForm_areMeetingsSound : MethodName := ⟨"OnceNamed$NamedForm", "areMeetingsSound", "(I)Z"⟩
abbrev cNamedForm_isUseSound : ByteArray := prog_4_method_15_code
abbrev yNamedForm_isUseSound : MethodName := ⟨"OnceNamed$NamedForm", "isUseSound", "(III)Z"⟩
abbrev cNamedForm_dropCopies : ByteArray := prog_4_method_16_code
abbrev yNamedForm_dropCopies : MethodName := ⟨"OnceNamed$NamedForm", "dropCopies", "()I"⟩
abbrev cNamedForm_dropCopiesOf : ByteArray := prog_4_method_17_code
abbrev yNamedForm_dropCopiesOf : MethodName := ⟨"OnceNamed$NamedForm", "dropCopiesOf", "(I)I"⟩
abbrev cNamedForm_replaceAll : ByteArray := prog_4_method_18_code
abbrev yNamedForm_replaceAll : MethodName := ⟨"OnceNamed$NamedForm", "replaceAll", "([I)V"⟩
abbrev cNamedForm_hasName : ByteArray := prog_4_method_19_code
abbrev yNamedForm_hasName : MethodName := ⟨"OnceNamed$NamedForm", "hasName", "(I)Z"⟩
abbrev cNamedForm_entryName : ByteArray := prog_4_method_20_code
abbrev yNamedForm_entryName : MethodName := ⟨"OnceNamed$NamedForm", "entryName", "(I)I"⟩
abbrev cNamedForm_meetingName : ByteArray := prog_4_method_21_code
abbrev yNamedForm_meetingName : MethodName := ⟨"OnceNamed$NamedForm", "meetingName", "(II)I"⟩
abbrev cNamedForm_meetingUse : ByteArray := prog_4_method_22_code
abbrev yNamedForm_meetingUse : MethodName := ⟨"OnceNamed$NamedForm", "meetingUse", "(III)I"⟩
abbrev cNamedForm_nameSet : ByteArray := prog_4_method_23_code
abbrev yNamedForm_nameSet : MethodName := ⟨"OnceNamed$NamedForm", "nameSet", "(II)I"⟩
abbrev cNamedForm_stepUse : ByteArray := prog_4_method_24_code
abbrev yNamedForm_stepUse : MethodName := ⟨"OnceNamed$NamedForm", "stepUse", "(III)I"⟩
abbrev cNamedForm_endUse : ByteArray := prog_4_method_25_code
abbrev yNamedForm_endUse : MethodName := ⟨"OnceNamed$NamedForm", "endUse", "(I)I"⟩
abbrev cNamedForm_changeEndUse : ByteArray := prog_4_method_26_code
abbrev yNamedForm_changeEndUse : MethodName := ⟨"OnceNamed$NamedForm", "changeEndUse", "(II)V"⟩
abbrev cNamedForm_changeStepUse : ByteArray := prog_4_method_27_code
abbrev yNamedForm_changeStepUse : MethodName := ⟨"OnceNamed$NamedForm", "changeStepUse", "(IIII)V"⟩
abbrev cNamedForm_changeMeetingUse : ByteArray := prog_4_method_28_code
abbrev yNamedForm_changeMeetingUse : MethodName := ⟨"OnceNamed$NamedForm", "changeMeetingUse", "(IIII)V"⟩
abbrev cCopyPlan_draw : ByteArray := prog_2_method_2_code
abbrev yCopyPlan_draw : MethodName := ⟨"OnceNamed$CopyPlan", "draw", "(LOnceNamed$NamedForm;II)V"⟩
abbrev cCopyPlan_length : ByteArray := prog_2_method_3_code
abbrev yCopyPlan_length : MethodName := ⟨"OnceNamed$CopyPlan", "length", "()I"⟩
abbrev cCopyPlan_to : ByteArray := prog_2_method_4_code
abbrev yCopyPlan_to : MethodName := ⟨"OnceNamed$CopyPlan", "to", "(I)I"⟩
abbrev cCopyPlan_from : ByteArray := prog_2_method_5_code
abbrev yCopyPlan_from : MethodName := ⟨"OnceNamed$CopyPlan", "from", "(I)I"⟩
abbrev cCopyPlan_collect : ByteArray := prog_2_method_6_code
abbrev yCopyPlan_collect : MethodName := ⟨"OnceNamed$CopyPlan", "collect", "(LOnceNamed$NamedForm;II)V"⟩
abbrev cCopyPlan_freeMove : ByteArray := prog_2_method_7_code
abbrev yCopyPlan_freeMove : MethodName := ⟨"OnceNamed$CopyPlan", "freeMove", "()I"⟩
abbrev cCopyPlan_isAwaited : ByteArray := prog_2_method_8_code
abbrev yCopyPlan_isAwaited : MethodName := ⟨"OnceNamed$CopyPlan", "isAwaited", "(I)Z"⟩
abbrev cCopyPlan_copy : ByteArray := prog_2_method_9_code
abbrev yCopyPlan_copy : MethodName := ⟨"OnceNamed$CopyPlan", "copy", "(II)V"⟩
abbrev cCopyPlan_remove : ByteArray := prog_2_method_10_code
abbrev yCopyPlan_remove : MethodName := ⟨"OnceNamed$CopyPlan", "remove", "(I)V"⟩
abbrev cCopyPlan_readFromCopy : ByteArray := prog_2_method_11_code
abbrev yCopyPlan_readFromCopy : MethodName := ⟨"OnceNamed$CopyPlan", "readFromCopy", "()V"⟩
abbrev cRunner_perform : ByteArray := prog_6_method_2_code
abbrev yRunner_perform : MethodName := ⟨"OnceNamed$Runner", "perform", "(ILOnceNamed$Talk;)V"⟩
abbrev cRunner_enterProgram : ByteArray := prog_6_method_3_code
abbrev yRunner_enterProgram : MethodName := ⟨"OnceNamed$Runner", "enterProgram", "()V"⟩
abbrev cRunner_setAtOnce : ByteArray := prog_6_method_4_code
abbrev yRunner_setAtOnce : MethodName := ⟨"OnceNamed$Runner", "setAtOnce", "(II)V"⟩
abbrev cRunner_setByCopies : ByteArray := prog_6_method_5_code
abbrev yRunner_setByCopies : MethodName := ⟨"OnceNamed$Runner", "setByCopies", "(II)V"⟩
abbrev cRunner_valueOf : ByteArray := prog_6_method_6_code
abbrev yRunner_valueOf : MethodName := ⟨"OnceNamed$Runner", "valueOf", "(I)I"⟩
abbrev cRunner_placeOf : ByteArray := prog_6_method_7_code
abbrev yRunner_placeOf : MethodName := ⟨"OnceNamed$Runner", "placeOf", "(I)I"⟩
abbrev cRunner_doSteps : ByteArray := prog_6_method_8_code
abbrev yRunner_doSteps : MethodName := ⟨"OnceNamed$Runner", "doSteps", "(ILOnceNamed$Talk;)V"⟩
abbrev cRunner_doStep : ByteArray := prog_6_method_9_code
abbrev yRunner_doStep : MethodName := ⟨"OnceNamed$Runner", "doStep", "(IIIIILOnceNamed$Talk;)V"⟩
abbrev cRunner_reckon : ByteArray := prog_6_method_10_code
abbrev yRunner_reckon : MethodName := ⟨"OnceNamed$Runner", "reckon", "(III)I"⟩
abbrev cRunner_nextBlock : ByteArray := prog_6_method_11_code
abbrev yRunner_nextBlock : MethodName := ⟨"OnceNamed$Runner", "nextBlock", "(I)I"⟩
abbrev cMd_thrown : ByteArray := prog_9_method_2_code
abbrev yMd_thrown : MethodName := ⟨"OnceNamedModel", "thrown", "()I"⟩
abbrev cMd_noBlock : ByteArray := prog_9_method_3_code
abbrev yMd_noBlock : MethodName := ⟨"OnceNamedModel", "noBlock", "(I)Z"⟩
abbrev cMd_noVariable : ByteArray := prog_9_method_4_code
abbrev yMd_noVariable : MethodName := ⟨"OnceNamedModel", "noVariable", "(I)Z"⟩
abbrev cMd_step : ByteArray := prog_9_method_5_code
abbrev yMd_step : MethodName := ⟨"OnceNamedModel", "step", "(IIIII)I"⟩
abbrev cMd_go : ByteArray := prog_9_method_6_code
abbrev yMd_go : MethodName := ⟨"OnceNamedModel", "go", "(II)V"⟩
abbrev cMd_fork : ByteArray := prog_9_method_7_code
abbrev yMd_fork : MethodName := ⟨"OnceNamedModel", "fork", "(IIII)V"⟩
abbrev cMd_stop : ByteArray := prog_9_method_8_code
abbrev yMd_stop : MethodName := ⟨"OnceNamedModel", "stop", "(I)V"⟩
abbrev cMd_start : ByteArray := prog_9_method_9_code
abbrev yMd_start : MethodName := ⟨"OnceNamedModel", "start", "(II)V"⟩
abbrev cMd_has : ByteArray := prog_9_method_10_code
abbrev yMd_has : MethodName := ⟨"OnceNamedModel", "has", "(II)Z"⟩
abbrev cMd_follows : ByteArray := prog_9_method_11_code
abbrev yMd_follows : MethodName := ⟨"OnceNamedModel", "follows", "(II)Z"⟩
abbrev cMd_reachedWithout : ByteArray := prog_9_method_12_code
abbrev yMd_reachedWithout : MethodName := ⟨"OnceNamedModel", "reachedWithout", "(I)I"⟩
abbrev cMd_look : ByteArray := prog_9_method_13_code
abbrev yMd_look : MethodName := ⟨"OnceNamedModel", "look", "()V"⟩
abbrev cMd_countOf : ByteArray := prog_9_method_14_code
abbrev yMd_countOf : MethodName := ⟨"OnceNamedModel", "countOf", "(I)I"⟩
abbrev cMd_parentOf : ByteArray := prog_9_method_15_code
abbrev yMd_parentOf : MethodName := ⟨"OnceNamedModel", "parentOf", "(I)I"⟩
abbrev cMd_strictly : ByteArray := prog_9_method_16_code
abbrev yMd_strictly : MethodName := ⟨"OnceNamedModel", "strictly", "(II)Z"⟩
abbrev cMd_inFrontier : ByteArray := prog_9_method_17_code
abbrev yMd_inFrontier : MethodName := ⟨"OnceNamedModel", "inFrontier", "(II)Z"⟩
abbrev cMd_parent : ByteArray := prog_9_method_18_code
abbrev yMd_parent : MethodName := ⟨"OnceNamedModel", "parent", "(I)I"⟩
abbrev cMd_dominates : ByteArray := prog_9_method_19_code
abbrev yMd_dominates : MethodName := ⟨"OnceNamedModel", "dominates", "(II)Z"⟩
abbrev cMd_frontier : ByteArray := prog_9_method_20_code
abbrev yMd_frontier : MethodName := ⟨"OnceNamedModel", "frontier", "(II)Z"⟩
abbrev cMd_setsVariable : ByteArray := prog_9_method_21_code
abbrev yMd_setsVariable : MethodName := ⟨"OnceNamedModel", "setsVariable", "(II)Z"⟩
abbrev cMd_findMeetings : ByteArray := prog_9_method_22_code
abbrev yMd_findMeetings : MethodName := ⟨"OnceNamedModel", "findMeetings", "()V"⟩
abbrev cMd_newName : ByteArray := prog_9_method_23_code
abbrev yMd_newName : MethodName := ⟨"OnceNamedModel", "newName", "(III)I"⟩
abbrev cMd_nameBlockOf : ByteArray := prog_9_method_24_code
abbrev yMd_nameBlockOf : MethodName := ⟨"OnceNamedModel", "nameBlockOf", "(I)V"⟩
abbrev cMd_giveNames : ByteArray := prog_9_method_25_code
abbrev yMd_giveNames : MethodName := ⟨"OnceNamedModel", "giveNames", "()V"⟩
abbrev cMd_latest : ByteArray := prog_9_method_26_code
abbrev yMd_latest : MethodName := ⟨"OnceNamedModel", "latest", "(III)I"⟩
abbrev cMd_giveUses : ByteArray := prog_9_method_27_code
abbrev yMd_giveUses : MethodName := ⟨"OnceNamedModel", "giveUses", "(I)V"⟩
abbrev cMd_build : ByteArray := prog_9_method_28_code
abbrev yMd_build : MethodName := ⟨"OnceNamedModel", "build", "()I"⟩
abbrev cMd_before : ByteArray := prog_9_method_29_code
abbrev yMd_before : MethodName := ⟨"OnceNamedModel", "before", "(III)Z"⟩
abbrev cMd_isValid : ByteArray := prog_9_method_30_code
abbrev yMd_isValid : MethodName := ⟨"OnceNamedModel", "isValid", "()Z"⟩
abbrev cMd_valid : ByteArray := prog_9_method_31_code
abbrev yMd_valid : MethodName := ⟨"OnceNamedModel", "valid", "()Z"⟩
abbrev cMd_behind : ByteArray := prog_9_method_32_code
abbrev yMd_behind : MethodName := ⟨"OnceNamedModel", "behind", "(I)I"⟩
abbrev cMd_propagate : ByteArray := prog_9_method_33_code
abbrev yMd_propagate : MethodName := ⟨"OnceNamedModel", "propagate", "()I"⟩
abbrev cMd_meeting : ByteArray := prog_9_method_34_code
abbrev yMd_meeting : MethodName := ⟨"OnceNamedModel", "meeting", "(II)I"⟩
abbrev cMd_sourceOf : ByteArray := prog_9_method_35_code
abbrev yMd_sourceOf : MethodName := ⟨"OnceNamedModel", "sourceOf", "(III)I"⟩
abbrev cMd_source : ByteArray := prog_9_method_36_code
abbrev yMd_source : MethodName := ⟨"OnceNamedModel", "source", "(III)I"⟩
abbrev cMd_noStep : ByteArray := prog_9_method_37_code
abbrev yMd_noStep : MethodName := ⟨"OnceNamedModel", "noStep", "(II)Z"⟩
abbrev cMd_sets : ByteArray := prog_9_method_38_code
abbrev yMd_sets : MethodName := ⟨"OnceNamedModel", "sets", "(II)I"⟩
abbrev cMd_noUse : ByteArray := prog_9_method_39_code
abbrev yMd_noUse : MethodName := ⟨"OnceNamedModel", "noUse", "(III)Z"⟩
abbrev cMd_useOf : ByteArray := prog_9_method_40_code
abbrev yMd_useOf : MethodName := ⟨"OnceNamedModel", "useOf", "(III)I"⟩
abbrev cMd_use : ByteArray := prog_9_method_41_code
abbrev yMd_use : MethodName := ⟨"OnceNamedModel", "use", "(III)I"⟩
abbrev cMd_noName : ByteArray := prog_9_method_42_code
abbrev yMd_noName : MethodName := ⟨"OnceNamedModel", "noName", "(I)Z"⟩
abbrev cMd_alter : ByteArray := prog_9_method_43_code
abbrev yMd_alter : MethodName := ⟨"OnceNamedModel", "alter", "(IIII)V"⟩
abbrev cMd_turn : ByteArray := prog_9_method_44_code
abbrev yMd_turn : MethodName := ⟨"OnceNamedModel", "turn", "(IIII)V"⟩
abbrev cMd_meetingWith : ByteArray := prog_9_method_45_code
abbrev yMd_meetingWith : MethodName := ⟨"OnceNamedModel", "meetingWith", "(II)I"⟩
abbrev cMd_copies : ByteArray := prog_9_method_46_code
abbrev yMd_copies : MethodName := ⟨"OnceNamedModel", "copies", "(II)I"⟩
abbrev cMd_fail : ByteArray := prog_9_method_47_code
abbrev yMd_fail : MethodName := ⟨"OnceNamedModel", "fail", "(I)V"⟩
abbrev cMd_say : ByteArray := prog_9_method_48_code
abbrev yMd_say : MethodName := ⟨"OnceNamedModel", "say", "(I)V"⟩
abbrev cMd_result : ByteArray := prog_9_method_49_code
abbrev yMd_result : MethodName := ⟨"OnceNamedModel", "result", "(III)I"⟩
abbrev cMd_doSteps : ByteArray := prog_9_method_50_code
abbrev yMd_doSteps : MethodName := ⟨"OnceNamedModel", "doSteps", "(IZ)V"⟩
abbrev cMd_meet : ByteArray := prog_9_method_51_code
abbrev yMd_meet : MethodName := ⟨"OnceNamedModel", "meet", "(II)V"⟩
abbrev cMd_runInto : ByteArray := prog_9_method_52_code
abbrev yMd_runInto : MethodName := ⟨"OnceNamedModel", "runInto", "(IZ)V"⟩
abbrev cMd_run : ByteArray := prog_9_method_53_code
abbrev yMd_run : MethodName := ⟨"OnceNamedModel", "run", "(I)I"⟩
abbrev cMd_said : ByteArray := prog_9_method_54_code
abbrev yMd_said : MethodName := ⟨"OnceNamedModel", "said", "(I)I"⟩
abbrev cMd_same : ByteArray := prog_9_method_55_code
abbrev yMd_same : MethodName := ⟨"OnceNamedModel", "same", "(I)Z"⟩
theorem kw_277 : Cond.laysFinal "OnceNamed" "OnceNamed" "blocks" "I" ∈ xW := List.mem_filter.mpr ⟨List.mem_append_right _ (List.mem_append_right _ (List.mem_append_left _ (List.mem_of_getElem? (i := 37) rfl))), rfl⟩
theorem kw_279 : Cond.laysFinal "OnceNamed" "OnceNamed" "program" "LOnceNamed$Program;" ∈ xW := List.mem_filter.mpr ⟨List.mem_append_right _ (List.mem_append_right _ (List.mem_append_left _ (List.mem_of_getElem? (i := 39) rfl))), rfl⟩
theorem kw_281 : Cond.laysFinal "OnceNamed" "OnceNamed" "graph" "LOnceNamed$Graph;" ∈ xW := List.mem_filter.mpr ⟨List.mem_append_right _ (List.mem_append_right _ (List.mem_append_left _ (List.mem_of_getElem? (i := 41) rfl))), rfl⟩
theorem kw_283 : Cond.laysFinal "OnceNamed" "OnceNamed" "named" "LOnceNamed$NamedForm;" ∈ xW := List.mem_filter.mpr ⟨List.mem_append_right _ (List.mem_append_right _ (List.mem_append_left _ (List.mem_of_getElem? (i := 43) rfl))), rfl⟩
theorem kw_285 : Cond.laysFinal "OnceNamed" "OnceNamed" "plan" "LOnceNamed$CopyPlan;" ∈ xW := List.mem_filter.mpr ⟨List.mem_append_right _ (List.mem_append_right _ (List.mem_append_left _ (List.mem_of_getElem? (i := 45) rfl))), rfl⟩
theorem kw_287 : Cond.laysFinal "OnceNamed" "OnceNamed" "runner" "LOnceNamed$Runner;" ∈ xW := List.mem_filter.mpr ⟨List.mem_append_right _ (List.mem_append_right _ (List.mem_append_left _ (List.mem_of_getElem? (i := 47) rfl))), rfl⟩
theorem kw_289 : Cond.laysFinal "OnceNamed" "OnceNamed" "latest" "LOnceNamed$Talk;" ∈ xW := List.mem_filter.mpr ⟨List.mem_append_right _ (List.mem_append_right _ (List.mem_append_left _ (List.mem_of_getElem? (i := 49) rfl))), rfl⟩
theorem kw_291 : Cond.laysFinal "OnceNamed" "OnceNamed" "talkOfProgram" "LOnceNamed$Talk;" ∈ xW := List.mem_filter.mpr ⟨List.mem_append_right _ (List.mem_append_right _ (List.mem_append_left _ (List.mem_of_getElem? (i := 51) rfl))), rfl⟩
theorem kw_293 : Cond.laysFinal "OnceNamed" "OnceNamed" "talkOfForm" "LOnceNamed$Talk;" ∈ xW := List.mem_filter.mpr ⟨List.mem_append_right _ (List.mem_append_right _ (List.mem_append_left _ (List.mem_of_getElem? (i := 53) rfl))), rfl⟩
theorem kw_295 : Cond.lays "OnceNamed" "OnceNamed" "formStands" "Z" ∈ xW := List.mem_filter.mpr ⟨List.mem_append_right _ (List.mem_append_right _ (List.mem_append_left _ (List.mem_of_getElem? (i := 55) rfl))), rfl⟩
theorem kw_54 : Cond.laysFinal "OnceNamed$Program" "OnceNamed$Program" "blocks" "I" ∈ xW := List.mem_filter.mpr ⟨List.mem_append_right _ (List.mem_append_left _ (List.mem_of_getElem? (i := 54) rfl)), rfl⟩
theorem kw_56 : Cond.laysFinal "OnceNamed$Program" "OnceNamed$Program" "stepCount" "[I" ∈ xW := List.mem_filter.mpr ⟨List.mem_append_right _ (List.mem_append_left _ (List.mem_of_getElem? (i := 56) rfl)), rfl⟩
theorem kw_58 : Cond.laysFinal "OnceNamed$Program" "OnceNamed$Program" "kind" "[I" ∈ xW := List.mem_filter.mpr ⟨List.mem_append_right _ (List.mem_append_left _ (List.mem_of_getElem? (i := 58) rfl)), rfl⟩
theorem kw_60 : Cond.laysFinal "OnceNamed$Program" "OnceNamed$Program" "target" "[I" ∈ xW := List.mem_filter.mpr ⟨List.mem_append_right _ (List.mem_append_left _ (List.mem_of_getElem? (i := 60) rfl)), rfl⟩
theorem kw_62 : Cond.laysFinal "OnceNamed$Program" "OnceNamed$Program" "first" "[I" ∈ xW := List.mem_filter.mpr ⟨List.mem_append_right _ (List.mem_append_left _ (List.mem_of_getElem? (i := 62) rfl)), rfl⟩
theorem kw_64 : Cond.laysFinal "OnceNamed$Program" "OnceNamed$Program" "second" "[I" ∈ xW := List.mem_filter.mpr ⟨List.mem_append_right _ (List.mem_append_left _ (List.mem_of_getElem? (i := 64) rfl)), rfl⟩
theorem kw_66 : Cond.laysFinal "OnceNamed$Program" "OnceNamed$Program" "forkVariable" "[I" ∈ xW := List.mem_filter.mpr ⟨List.mem_append_right _ (List.mem_append_left _ (List.mem_of_getElem? (i := 66) rfl)), rfl⟩
theorem kw_68 : Cond.laysFinal "OnceNamed$Program" "OnceNamed$Program" "yes" "[I" ∈ xW := List.mem_filter.mpr ⟨List.mem_append_right _ (List.mem_append_left _ (List.mem_of_getElem? (i := 68) rfl)), rfl⟩
theorem kw_70 : Cond.laysFinal "OnceNamed$Program" "OnceNamed$Program" "no" "[I" ∈ xW := List.mem_filter.mpr ⟨List.mem_append_right _ (List.mem_append_left _ (List.mem_of_getElem? (i := 70) rfl)), rfl⟩
theorem kw_72 : Cond.laysFinal "OnceNamed$Program" "OnceNamed$Program" "starts" "[I" ∈ xW := List.mem_filter.mpr ⟨List.mem_append_right _ (List.mem_append_left _ (List.mem_of_getElem? (i := 72) rfl)), rfl⟩
theorem kw_91 : Cond.laysFinal "OnceNamed$Graph" "OnceNamed$Graph" "blocks" "I" ∈ xW := List.mem_filter.mpr ⟨List.mem_append_right _ (List.mem_append_left _ (List.mem_of_getElem? (i := 91) rfl)), rfl⟩
theorem kw_93 : Cond.laysFinal "OnceNamed$Graph" "OnceNamed$Graph" "forerunners" "[I" ∈ xW := List.mem_filter.mpr ⟨List.mem_append_right _ (List.mem_append_left _ (List.mem_of_getElem? (i := 93) rfl)), rfl⟩
theorem kw_95 : Cond.laysFinal "OnceNamed$Graph" "OnceNamed$Graph" "below" "[I" ∈ xW := List.mem_filter.mpr ⟨List.mem_append_right _ (List.mem_append_left _ (List.mem_of_getElem? (i := 95) rfl)), rfl⟩
theorem kw_97 : Cond.laysFinal "OnceNamed$Graph" "OnceNamed$Graph" "frontiers" "[I" ∈ xW := List.mem_filter.mpr ⟨List.mem_append_right _ (List.mem_append_left _ (List.mem_of_getElem? (i := 97) rfl)), rfl⟩
theorem kw_99 : Cond.laysFinal "OnceNamed$Graph" "OnceNamed$Graph" "parents" "[I" ∈ xW := List.mem_filter.mpr ⟨List.mem_append_right _ (List.mem_append_left _ (List.mem_of_getElem? (i := 99) rfl)), rfl⟩
theorem kw_101 : Cond.laysFinal "OnceNamed$Graph" "OnceNamed$Graph" "order" "[I" ∈ xW := List.mem_filter.mpr ⟨List.mem_append_right _ (List.mem_append_left _ (List.mem_of_getElem? (i := 101) rfl)), rfl⟩
theorem kw_103 : Cond.laysFinal "OnceNamed$Graph" "OnceNamed$Graph" "waiting" "[I" ∈ xW := List.mem_filter.mpr ⟨List.mem_append_right _ (List.mem_append_left _ (List.mem_of_getElem? (i := 103) rfl)), rfl⟩
theorem kw_105 : Cond.lays "OnceNamed$Graph" "OnceNamed$Graph" "orderSize" "I" ∈ xW := List.mem_filter.mpr ⟨List.mem_append_right _ (List.mem_append_left _ (List.mem_of_getElem? (i := 105) rfl)), rfl⟩
theorem kw_107 : Cond.lays "OnceNamed$Graph" "OnceNamed$Graph" "reached" "I" ∈ xW := List.mem_filter.mpr ⟨List.mem_append_right _ (List.mem_append_left _ (List.mem_of_getElem? (i := 107) rfl)), rfl⟩
theorem kw_134 : Cond.laysFinal "OnceNamed$NamedForm" "OnceNamed$NamedForm" "program" "LOnceNamed$Program;" ∈ xW := List.mem_filter.mpr ⟨List.mem_append_right _ (List.mem_append_left _ (List.mem_of_getElem? (i := 134) rfl)), rfl⟩
theorem kw_136 : Cond.laysFinal "OnceNamed$NamedForm" "OnceNamed$NamedForm" "graph" "LOnceNamed$Graph;" ∈ xW := List.mem_filter.mpr ⟨List.mem_append_right _ (List.mem_append_left _ (List.mem_of_getElem? (i := 136) rfl)), rfl⟩
theorem kw_138 : Cond.laysFinal "OnceNamed$NamedForm" "OnceNamed$NamedForm" "entry" "I" ∈ xW := List.mem_filter.mpr ⟨List.mem_append_right _ (List.mem_append_left _ (List.mem_of_getElem? (i := 138) rfl)), rfl⟩
theorem kw_140 : Cond.laysFinal "OnceNamed$NamedForm" "OnceNamed$NamedForm" "meetingNames" "[I" ∈ xW := List.mem_filter.mpr ⟨List.mem_append_right _ (List.mem_append_left _ (List.mem_of_getElem? (i := 140) rfl)), rfl⟩
theorem kw_142 : Cond.laysFinal "OnceNamed$NamedForm" "OnceNamed$NamedForm" "meetingUses" "[I" ∈ xW := List.mem_filter.mpr ⟨List.mem_append_right _ (List.mem_append_left _ (List.mem_of_getElem? (i := 142) rfl)), rfl⟩
theorem kw_144 : Cond.laysFinal "OnceNamed$NamedForm" "OnceNamed$NamedForm" "stepNames" "[I" ∈ xW := List.mem_filter.mpr ⟨List.mem_append_right _ (List.mem_append_left _ (List.mem_of_getElem? (i := 144) rfl)), rfl⟩
theorem kw_146 : Cond.laysFinal "OnceNamed$NamedForm" "OnceNamed$NamedForm" "firstUses" "[I" ∈ xW := List.mem_filter.mpr ⟨List.mem_append_right _ (List.mem_append_left _ (List.mem_of_getElem? (i := 146) rfl)), rfl⟩
theorem kw_148 : Cond.laysFinal "OnceNamed$NamedForm" "OnceNamed$NamedForm" "secondUses" "[I" ∈ xW := List.mem_filter.mpr ⟨List.mem_append_right _ (List.mem_append_left _ (List.mem_of_getElem? (i := 148) rfl)), rfl⟩
theorem kw_150 : Cond.laysFinal "OnceNamed$NamedForm" "OnceNamed$NamedForm" "endUses" "[I" ∈ xW := List.mem_filter.mpr ⟨List.mem_append_right _ (List.mem_append_left _ (List.mem_of_getElem? (i := 150) rfl)), rfl⟩
theorem kw_152 : Cond.laysFinal "OnceNamed$NamedForm" "OnceNamed$NamedForm" "lastNames" "[I" ∈ xW := List.mem_filter.mpr ⟨List.mem_append_right _ (List.mem_append_left _ (List.mem_of_getElem? (i := 152) rfl)), rfl⟩
theorem kw_154 : Cond.laysFinal "OnceNamed$NamedForm" "OnceNamed$NamedForm" "namesOf" "[I" ∈ xW := List.mem_filter.mpr ⟨List.mem_append_right _ (List.mem_append_left _ (List.mem_of_getElem? (i := 154) rfl)), rfl⟩
theorem kw_156 : Cond.laysFinal "OnceNamed$NamedForm" "OnceNamed$NamedForm" "homeBlock" "[I" ∈ xW := List.mem_filter.mpr ⟨List.mem_append_right _ (List.mem_append_left _ (List.mem_of_getElem? (i := 156) rfl)), rfl⟩
theorem kw_158 : Cond.laysFinal "OnceNamed$NamedForm" "OnceNamed$NamedForm" "homePlace" "[I" ∈ xW := List.mem_filter.mpr ⟨List.mem_append_right _ (List.mem_append_left _ (List.mem_of_getElem? (i := 158) rfl)), rfl⟩
theorem kw_160 : Cond.laysFinal "OnceNamed$NamedForm" "OnceNamed$NamedForm" "standsFor" "[I" ∈ xW := List.mem_filter.mpr ⟨List.mem_append_right _ (List.mem_append_left _ (List.mem_of_getElem? (i := 160) rfl)), rfl⟩
theorem kw_175 : Cond.laysFinal "OnceNamed$CopyPlan" "OnceNamed$CopyPlan" "pendingTo" "[I" ∈ xW := List.mem_filter.mpr ⟨List.mem_append_right _ (List.mem_append_left _ (List.mem_of_getElem? (i := 175) rfl)), rfl⟩
theorem kw_177 : Cond.laysFinal "OnceNamed$CopyPlan" "OnceNamed$CopyPlan" "pendingFrom" "[I" ∈ xW := List.mem_filter.mpr ⟨List.mem_append_right _ (List.mem_append_left _ (List.mem_of_getElem? (i := 177) rfl)), rfl⟩
theorem kw_179 : Cond.laysFinal "OnceNamed$CopyPlan" "OnceNamed$CopyPlan" "copyTo" "[I" ∈ xW := List.mem_filter.mpr ⟨List.mem_append_right _ (List.mem_append_left _ (List.mem_of_getElem? (i := 179) rfl)), rfl⟩
theorem kw_181 : Cond.laysFinal "OnceNamed$CopyPlan" "OnceNamed$CopyPlan" "copyFrom" "[I" ∈ xW := List.mem_filter.mpr ⟨List.mem_append_right _ (List.mem_append_left _ (List.mem_of_getElem? (i := 181) rfl)), rfl⟩
theorem kw_183 : Cond.lays "OnceNamed$CopyPlan" "OnceNamed$CopyPlan" "pending" "I" ∈ xW := List.mem_filter.mpr ⟨List.mem_append_right _ (List.mem_append_left _ (List.mem_of_getElem? (i := 183) rfl)), rfl⟩
theorem kw_185 : Cond.lays "OnceNamed$CopyPlan" "OnceNamed$CopyPlan" "length" "I" ∈ xW := List.mem_filter.mpr ⟨List.mem_append_right _ (List.mem_append_left _ (List.mem_of_getElem? (i := 185) rfl)), rfl⟩
theorem kw_200 : Cond.laysFinal "OnceNamed$Runner" "OnceNamed$Runner" "program" "LOnceNamed$Program;" ∈ xW := List.mem_filter.mpr ⟨List.mem_append_right _ (List.mem_append_left _ (List.mem_of_getElem? (i := 200) rfl)), rfl⟩
theorem kw_202 : Cond.laysFinal "OnceNamed$Runner" "OnceNamed$Runner" "form" "LOnceNamed$NamedForm;" ∈ xW := List.mem_filter.mpr ⟨List.mem_append_right _ (List.mem_append_left _ (List.mem_of_getElem? (i := 202) rfl)), rfl⟩
theorem kw_204 : Cond.laysFinal "OnceNamed$Runner" "OnceNamed$Runner" "plan" "LOnceNamed$CopyPlan;" ∈ xW := List.mem_filter.mpr ⟨List.mem_append_right _ (List.mem_append_left _ (List.mem_of_getElem? (i := 204) rfl)), rfl⟩
theorem kw_206 : Cond.laysFinal "OnceNamed$Runner" "OnceNamed$Runner" "values" "[I" ∈ xW := List.mem_filter.mpr ⟨List.mem_append_right _ (List.mem_append_left _ (List.mem_of_getElem? (i := 206) rfl)), rfl⟩
theorem kw_208 : Cond.laysFinal "OnceNamed$Runner" "OnceNamed$Runner" "arriving" "[I" ∈ xW := List.mem_filter.mpr ⟨List.mem_append_right _ (List.mem_append_left _ (List.mem_of_getElem? (i := 208) rfl)), rfl⟩
theorem kw_210 : Cond.lays "OnceNamed$Runner" "OnceNamed$Runner" "way" "I" ∈ xW := List.mem_filter.mpr ⟨List.mem_append_right _ (List.mem_append_left _ (List.mem_of_getElem? (i := 210) rfl)), rfl⟩
theorem kw_222 : Cond.laysFinal "OnceNamed$Talk" "OnceNamed$Talk" "numbers" "[I" ∈ xW := List.mem_filter.mpr ⟨List.mem_append_right _ (List.mem_append_left _ (List.mem_of_getElem? (i := 222) rfl)), rfl⟩
theorem kw_224 : Cond.lays "OnceNamed$Talk" "OnceNamed$Talk" "size" "I" ∈ xW := List.mem_filter.mpr ⟨List.mem_append_right _ (List.mem_append_left _ (List.mem_of_getElem? (i := 224) rfl)), rfl⟩
theorem kw_226 : Cond.lays "OnceNamed$Talk" "OnceNamed$Talk" "outcome" "I" ∈ xW := List.mem_filter.mpr ⟨List.mem_append_right _ (List.mem_append_left _ (List.mem_of_getElem? (i := 226) rfl)), rfl⟩
theorem kw_1019 : Cond.lays "OnceNamedModel" "OnceNamedModel" "thrown" "I" ∈ xW := List.mem_filter.mpr ⟨List.mem_append_right _ (List.mem_append_right _ (List.mem_append_right _ (List.mem_append_right _ (List.mem_append_right _ (List.mem_append_left _ (List.mem_of_getElem? (i := 59) rfl)))))), rfl⟩
theorem kw_1021 : Cond.lays "OnceNamedModel" "OnceNamedModel" "n" "I" ∈ xW := List.mem_filter.mpr ⟨List.mem_append_right _ (List.mem_append_right _ (List.mem_append_right _ (List.mem_append_right _ (List.mem_append_right _ (List.mem_append_left _ (List.mem_of_getElem? (i := 61) rfl)))))), rfl⟩
theorem kw_1023 : Cond.lays "OnceNamedModel" "OnceNamedModel" "many" "[I" ∈ xW := List.mem_filter.mpr ⟨List.mem_append_right _ (List.mem_append_right _ (List.mem_append_right _ (List.mem_append_right _ (List.mem_append_right _ (List.mem_append_left _ (List.mem_of_getElem? (i := 63) rfl)))))), rfl⟩
theorem kw_1025 : Cond.lays "OnceNamedModel" "OnceNamedModel" "kinds" "[I" ∈ xW := List.mem_filter.mpr ⟨List.mem_append_right _ (List.mem_append_right _ (List.mem_append_right _ (List.mem_append_right _ (List.mem_append_right _ (List.mem_append_left _ (List.mem_of_getElem? (i := 65) rfl)))))), rfl⟩
theorem kw_1027 : Cond.lays "OnceNamedModel" "OnceNamedModel" "vs" "[I" ∈ xW := List.mem_filter.mpr ⟨List.mem_append_right _ (List.mem_append_right _ (List.mem_append_right _ (List.mem_append_right _ (List.mem_append_right _ (List.mem_append_left _ (List.mem_of_getElem? (i := 67) rfl)))))), rfl⟩
theorem kw_1029 : Cond.lays "OnceNamedModel" "OnceNamedModel" "ws" "[I" ∈ xW := List.mem_filter.mpr ⟨List.mem_append_right _ (List.mem_append_right _ (List.mem_append_right _ (List.mem_append_right _ (List.mem_append_right _ (List.mem_append_left _ (List.mem_of_getElem? (i := 69) rfl)))))), rfl⟩
theorem kw_1031 : Cond.lays "OnceNamedModel" "OnceNamedModel" "xs" "[I" ∈ xW := List.mem_filter.mpr ⟨List.mem_append_right _ (List.mem_append_right _ (List.mem_append_right _ (List.mem_append_right _ (List.mem_append_right _ (List.mem_append_left _ (List.mem_of_getElem? (i := 71) rfl)))))), rfl⟩
theorem kw_1033 : Cond.lays "OnceNamedModel" "OnceNamedModel" "ends" "[I" ∈ xW := List.mem_filter.mpr ⟨List.mem_append_right _ (List.mem_append_right _ (List.mem_append_right _ (List.mem_append_right _ (List.mem_append_right _ (List.mem_append_left _ (List.mem_of_getElem? (i := 73) rfl)))))), rfl⟩
theorem kw_1035 : Cond.lays "OnceNamedModel" "OnceNamedModel" "endVariable" "[I" ∈ xW := List.mem_filter.mpr ⟨List.mem_append_right _ (List.mem_append_right _ (List.mem_append_right _ (List.mem_append_right _ (List.mem_append_right _ (List.mem_append_left _ (List.mem_of_getElem? (i := 75) rfl)))))), rfl⟩
theorem kw_1037 : Cond.lays "OnceNamedModel" "OnceNamedModel" "yes" "[I" ∈ xW := List.mem_filter.mpr ⟨List.mem_append_right _ (List.mem_append_right _ (List.mem_append_right _ (List.mem_append_right _ (List.mem_append_right _ (List.mem_append_left _ (List.mem_of_getElem? (i := 77) rfl)))))), rfl⟩
theorem kw_1039 : Cond.lays "OnceNamedModel" "OnceNamedModel" "no" "[I" ∈ xW := List.mem_filter.mpr ⟨List.mem_append_right _ (List.mem_append_right _ (List.mem_append_right _ (List.mem_append_right _ (List.mem_append_right _ (List.mem_append_left _ (List.mem_of_getElem? (i := 79) rfl)))))), rfl⟩
theorem kw_1041 : Cond.lays "OnceNamedModel" "OnceNamedModel" "starts" "[I" ∈ xW := List.mem_filter.mpr ⟨List.mem_append_right _ (List.mem_append_right _ (List.mem_append_right _ (List.mem_append_right _ (List.mem_append_right _ (List.mem_append_left _ (List.mem_of_getElem? (i := 81) rfl)))))), rfl⟩
theorem kw_1043 : Cond.lays "OnceNamedModel" "OnceNamedModel" "reached" "I" ∈ xW := List.mem_filter.mpr ⟨List.mem_append_right _ (List.mem_append_right _ (List.mem_append_right _ (List.mem_append_right _ (List.mem_append_right _ (List.mem_append_left _ (List.mem_of_getElem? (i := 83) rfl)))))), rfl⟩
theorem kw_1045 : Cond.lays "OnceNamedModel" "OnceNamedModel" "dominators" "[I" ∈ xW := List.mem_filter.mpr ⟨List.mem_append_right _ (List.mem_append_right _ (List.mem_append_right _ (List.mem_append_right _ (List.mem_append_right _ (List.mem_append_left _ (List.mem_of_getElem? (i := 85) rfl)))))), rfl⟩
theorem kw_1047 : Cond.lays "OnceNamedModel" "OnceNamedModel" "form" "Z" ∈ xW := List.mem_filter.mpr ⟨List.mem_append_right _ (List.mem_append_right _ (List.mem_append_right _ (List.mem_append_right _ (List.mem_append_right _ (List.mem_append_left _ (List.mem_of_getElem? (i := 87) rfl)))))), rfl⟩
theorem kw_1049 : Cond.lays "OnceNamedModel" "OnceNamedModel" "meets" "[I" ∈ xW := List.mem_filter.mpr ⟨List.mem_append_right _ (List.mem_append_right _ (List.mem_append_right _ (List.mem_append_right _ (List.mem_append_right _ (List.mem_append_left _ (List.mem_of_getElem? (i := 89) rfl)))))), rfl⟩
theorem kw_1051 : Cond.lays "OnceNamedModel" "OnceNamedModel" "sources" "[I" ∈ xW := List.mem_filter.mpr ⟨List.mem_append_right _ (List.mem_append_right _ (List.mem_append_right _ (List.mem_append_right _ (List.mem_append_right _ (List.mem_append_left _ (List.mem_of_getElem? (i := 91) rfl)))))), rfl⟩
theorem kw_1053 : Cond.lays "OnceNamedModel" "OnceNamedModel" "set" "[I" ∈ xW := List.mem_filter.mpr ⟨List.mem_append_right _ (List.mem_append_right _ (List.mem_append_right _ (List.mem_append_right _ (List.mem_append_right _ (List.mem_append_left _ (List.mem_of_getElem? (i := 93) rfl)))))), rfl⟩
theorem kw_1055 : Cond.lays "OnceNamedModel" "OnceNamedModel" "useW" "[I" ∈ xW := List.mem_filter.mpr ⟨List.mem_append_right _ (List.mem_append_right _ (List.mem_append_right _ (List.mem_append_right _ (List.mem_append_right _ (List.mem_append_left _ (List.mem_of_getElem? (i := 95) rfl)))))), rfl⟩
theorem kw_1057 : Cond.lays "OnceNamedModel" "OnceNamedModel" "useX" "[I" ∈ xW := List.mem_filter.mpr ⟨List.mem_append_right _ (List.mem_append_right _ (List.mem_append_right _ (List.mem_append_right _ (List.mem_append_right _ (List.mem_append_left _ (List.mem_of_getElem? (i := 97) rfl)))))), rfl⟩
theorem kw_1059 : Cond.lays "OnceNamedModel" "OnceNamedModel" "endUse" "[I" ∈ xW := List.mem_filter.mpr ⟨List.mem_append_right _ (List.mem_append_right _ (List.mem_append_right _ (List.mem_append_right _ (List.mem_append_right _ (List.mem_append_left _ (List.mem_of_getElem? (i := 99) rfl)))))), rfl⟩
theorem kw_1061 : Cond.lays "OnceNamedModel" "OnceNamedModel" "gone" "[Z" ∈ xW := List.mem_filter.mpr ⟨List.mem_append_right _ (List.mem_append_right _ (List.mem_append_right _ (List.mem_append_right _ (List.mem_append_right _ (List.mem_append_left _ (List.mem_of_getElem? (i := 101) rfl)))))), rfl⟩
theorem kw_1063 : Cond.lays "OnceNamedModel" "OnceNamedModel" "isName" "[Z" ∈ xW := List.mem_filter.mpr ⟨List.mem_append_right _ (List.mem_append_right _ (List.mem_append_right _ (List.mem_append_right _ (List.mem_append_right _ (List.mem_append_left _ (List.mem_of_getElem? (i := 103) rfl)))))), rfl⟩
theorem kw_1065 : Cond.lays "OnceNamedModel" "OnceNamedModel" "nameBlock" "[I" ∈ xW := List.mem_filter.mpr ⟨List.mem_append_right _ (List.mem_append_right _ (List.mem_append_right _ (List.mem_append_right _ (List.mem_append_right _ (List.mem_append_left _ (List.mem_of_getElem? (i := 105) rfl)))))), rfl⟩
theorem kw_1067 : Cond.lays "OnceNamedModel" "OnceNamedModel" "nameStep" "[I" ∈ xW := List.mem_filter.mpr ⟨List.mem_append_right _ (List.mem_append_right _ (List.mem_append_right _ (List.mem_append_right _ (List.mem_append_right _ (List.mem_append_left _ (List.mem_of_getElem? (i := 107) rfl)))))), rfl⟩
theorem kw_1069 : Cond.lays "OnceNamedModel" "OnceNamedModel" "numbers" "[I" ∈ xW := List.mem_filter.mpr ⟨List.mem_append_right _ (List.mem_append_right _ (List.mem_append_right _ (List.mem_append_right _ (List.mem_append_right _ (List.mem_append_left _ (List.mem_of_getElem? (i := 109) rfl)))))), rfl⟩
theorem kw_1071 : Cond.lays "OnceNamedModel" "OnceNamedModel" "said" "[I" ∈ xW := List.mem_filter.mpr ⟨List.mem_append_right _ (List.mem_append_right _ (List.mem_append_right _ (List.mem_append_right _ (List.mem_append_right _ (List.mem_append_left _ (List.mem_of_getElem? (i := 111) rfl)))))), rfl⟩
theorem kw_1073 : Cond.lays "OnceNamedModel" "OnceNamedModel" "saidCount" "[I" ∈ xW := List.mem_filter.mpr ⟨List.mem_append_right _ (List.mem_append_right _ (List.mem_append_right _ (List.mem_append_right _ (List.mem_append_right _ (List.mem_append_left _ (List.mem_of_getElem? (i := 113) rfl)))))), rfl⟩
theorem kw_1075 : Cond.lays "OnceNamedModel" "OnceNamedModel" "failed" "[I" ∈ xW := List.mem_filter.mpr ⟨List.mem_append_right _ (List.mem_append_right _ (List.mem_append_right _ (List.mem_append_right _ (List.mem_append_right _ (List.mem_append_left _ (List.mem_of_getElem? (i := 115) rfl)))))), rfl⟩
theorem kw_1077 : Cond.lays "OnceNamedModel" "OnceNamedModel" "values" "[I" ∈ xW := List.mem_filter.mpr ⟨List.mem_append_right _ (List.mem_append_right _ (List.mem_append_right _ (List.mem_append_right _ (List.mem_append_right _ (List.mem_append_left _ (List.mem_of_getElem? (i := 117) rfl)))))), rfl⟩
theorem kw_1079 : Cond.lays "OnceNamedModel" "OnceNamedModel" "nextValues" "[I" ∈ xW := List.mem_filter.mpr ⟨List.mem_append_right _ (List.mem_append_right _ (List.mem_append_right _ (List.mem_append_right _ (List.mem_append_right _ (List.mem_append_left _ (List.mem_of_getElem? (i := 119) rfl)))))), rfl⟩
theorem kw_1081 : Cond.lays "OnceNamedModel" "OnceNamedModel" "open" "[I" ∈ xW := List.mem_filter.mpr ⟨List.mem_append_right _ (List.mem_append_right _ (List.mem_append_right _ (List.mem_append_right _ (List.mem_append_right _ (List.mem_append_left _ (List.mem_of_getElem? (i := 121) rfl)))))), rfl⟩
theorem kw_1083 : Cond.lays "OnceNamedModel" "OnceNamedModel" "slot" "I" ∈ xW := List.mem_filter.mpr ⟨List.mem_append_right _ (List.mem_append_right _ (List.mem_append_right _ (List.mem_append_right _ (List.mem_append_right _ (List.mem_append_left _ (List.mem_of_getElem? (i := 123) rfl)))))), rfl⟩
theorem kw_1085 : Cond.lays "OnceNamedModel" "OnceNamedModel" "over" "Z" ∈ xW := List.mem_filter.mpr ⟨List.mem_append_right _ (List.mem_append_right _ (List.mem_append_right _ (List.mem_append_right _ (List.mem_append_right _ (List.mem_append_left _ (List.mem_of_getElem? (i := 125) rfl)))))), rfl⟩
theorem kw_43 : Cond.code yArrays_fill cArrays_fill 4 none ∈ xW := List.mem_filter.mpr ⟨List.mem_append_right _ (List.mem_append_left _ (List.mem_of_getElem? (i := 43) rfl)), rfl⟩
theorem kw_256 : Cond.constant "java/lang/Integer" 265 1431655765 ∈ xW := List.mem_filter.mpr ⟨List.mem_append_right _ (List.mem_append_right _ (List.mem_append_left _ (List.mem_of_getElem? (i := 16) rfl))), rfl⟩
theorem kw_257 : Cond.constant "java/lang/Integer" 266 858993459 ∈ xW := List.mem_filter.mpr ⟨List.mem_append_right _ (List.mem_append_right _ (List.mem_append_left _ (List.mem_of_getElem? (i := 17) rfl))), rfl⟩
theorem kw_258 : Cond.constant "java/lang/Integer" 267 252645135 ∈ xW := List.mem_filter.mpr ⟨List.mem_append_right _ (List.mem_append_right _ (List.mem_append_left _ (List.mem_of_getElem? (i := 18) rfl))), rfl⟩
theorem kw_255 : Cond.code yInteger_bitCount cInteger_bitCount 1 (some .int) ∈ xW := List.mem_filter.mpr ⟨List.mem_append_right _ (List.mem_append_right _ (List.mem_append_left _ (List.mem_of_getElem? (i := 15) rfl))), rfl⟩
theorem kw_239 : Cond.code yOn_has cOn_has 2 (some .boolean) ∈ xW := List.mem_filter.mpr ⟨List.mem_append_right _ (List.mem_append_left _ (List.mem_of_getElem? (i := 239) rfl)), rfl⟩
theorem kw_333 : Cond.code yProgram_setsVariable cProgram_setsVariable 1 (some .boolean) ∈ xW := List.mem_filter.mpr ⟨List.mem_append_right _ (List.mem_append_right _ (List.mem_append_left _ (List.mem_of_getElem? (i := 93) rfl))), rfl⟩
theorem kw_368 : Cond.code yProgram_usesFirst cProgram_usesFirst 1 (some .boolean) ∈ xW := List.mem_filter.mpr ⟨List.mem_append_right _ (List.mem_append_right _ (List.mem_append_left _ (List.mem_of_getElem? (i := 128) rfl))), rfl⟩
theorem kw_379 : Cond.code yProgram_usesSecond cProgram_usesSecond 1 (some .boolean) ∈ xW := List.mem_filter.mpr ⟨List.mem_append_right _ (List.mem_append_right _ (List.mem_append_left _ (List.mem_of_getElem? (i := 139) rfl))), rfl⟩
theorem kw_44 : Cond.fieldLink "OnceNamed$Program" 9 "OnceNamed$Program" "blocks" "I" ∈ xW := List.mem_filter.mpr ⟨List.mem_append_right _ (List.mem_append_left _ (List.mem_of_getElem? (i := 44) rfl)), rfl⟩
theorem kw_119 : Cond.code yProgram_blockCount cProgram_blockCount 1 (some .int) ∈ xW := List.mem_filter.mpr ⟨List.mem_append_right _ (List.mem_append_left _ (List.mem_of_getElem? (i := 119) rfl)), rfl⟩
theorem kw_45 : Cond.fieldLink "OnceNamed$Program" 15 "OnceNamed$Program" "stepCount" "[I" ∈ xW := List.mem_filter.mpr ⟨List.mem_append_right _ (List.mem_append_left _ (List.mem_of_getElem? (i := 45) rfl)), rfl⟩
theorem kw_357 : Cond.code yProgram_stepsOf cProgram_stepsOf 2 (some .int) ∈ xW := List.mem_filter.mpr ⟨List.mem_append_right _ (List.mem_append_right _ (List.mem_append_left _ (List.mem_of_getElem? (i := 117) rfl))), rfl⟩
theorem kw_46 : Cond.fieldLink "OnceNamed$Program" 19 "OnceNamed$Program" "kind" "[I" ∈ xW := List.mem_filter.mpr ⟨List.mem_append_right _ (List.mem_append_left _ (List.mem_of_getElem? (i := 46) rfl)), rfl⟩
theorem kw_47 : Cond.fieldLink "OnceNamed$Program" 22 "OnceNamed$Program" "target" "[I" ∈ xW := List.mem_filter.mpr ⟨List.mem_append_right _ (List.mem_append_left _ (List.mem_of_getElem? (i := 47) rfl)), rfl⟩
theorem kw_48 : Cond.fieldLink "OnceNamed$Program" 25 "OnceNamed$Program" "first" "[I" ∈ xW := List.mem_filter.mpr ⟨List.mem_append_right _ (List.mem_append_left _ (List.mem_of_getElem? (i := 48) rfl)), rfl⟩
theorem kw_49 : Cond.fieldLink "OnceNamed$Program" 28 "OnceNamed$Program" "second" "[I" ∈ xW := List.mem_filter.mpr ⟨List.mem_append_right _ (List.mem_append_left _ (List.mem_of_getElem? (i := 49) rfl)), rfl⟩
theorem kw_519 : Cond.code yProgram_addStep cProgram_addStep 7 none ∈ xW := List.mem_filter.mpr ⟨List.mem_append_right _ (List.mem_append_right _ (List.mem_append_right _ (List.mem_append_left _ (List.mem_of_getElem? (i := 39) rfl)))), rfl⟩
theorem kw_50 : Cond.fieldLink "OnceNamed$Program" 31 "OnceNamed$Program" "forkVariable" "[I" ∈ xW := List.mem_filter.mpr ⟨List.mem_append_right _ (List.mem_append_left _ (List.mem_of_getElem? (i := 50) rfl)), rfl⟩
theorem kw_51 : Cond.fieldLink "OnceNamed$Program" 34 "OnceNamed$Program" "yes" "[I" ∈ xW := List.mem_filter.mpr ⟨List.mem_append_right _ (List.mem_append_left _ (List.mem_of_getElem? (i := 51) rfl)), rfl⟩
theorem kw_52 : Cond.fieldLink "OnceNamed$Program" 37 "OnceNamed$Program" "no" "[I" ∈ xW := List.mem_filter.mpr ⟨List.mem_append_right _ (List.mem_append_left _ (List.mem_of_getElem? (i := 52) rfl)), rfl⟩
theorem kw_534 : Cond.code yProgram_changeEnd cProgram_changeEnd 5 none ∈ xW := List.mem_filter.mpr ⟨List.mem_append_right _ (List.mem_append_right _ (List.mem_append_right _ (List.mem_append_left _ (List.mem_of_getElem? (i := 54) rfl)))), rfl⟩
theorem kw_53 : Cond.fieldLink "OnceNamed$Program" 40 "OnceNamed$Program" "starts" "[I" ∈ xW := List.mem_filter.mpr ⟨List.mem_append_right _ (List.mem_append_left _ (List.mem_of_getElem? (i := 53) rfl)), rfl⟩
theorem kw_559 : Cond.code yProgram_changeStart cProgram_changeStart 3 none ∈ xW := List.mem_filter.mpr ⟨List.mem_append_right _ (List.mem_append_right _ (List.mem_append_right _ (List.mem_append_left _ (List.mem_of_getElem? (i := 79) rfl)))), rfl⟩
theorem kw_844 : Cond.code yProgram_startOf cProgram_startOf 2 (some .int) ∈ xW := List.mem_filter.mpr ⟨List.mem_append_right _ (List.mem_append_right _ (List.mem_append_right _ (List.mem_append_right _ (List.mem_append_left _ (List.mem_of_getElem? (i := 124) rfl))))), rfl⟩
theorem kw_620 : Cond.code yProgram_kindOf cProgram_kindOf 3 (some .int) ∈ xW := List.mem_filter.mpr ⟨List.mem_append_right _ (List.mem_append_right _ (List.mem_append_right _ (List.mem_append_left _ (List.mem_of_getElem? (i := 140) rfl)))), rfl⟩
theorem kw_902 : Cond.code yProgram_numberPut cProgram_numberPut 3 (some .int) ∈ xW := List.mem_filter.mpr ⟨List.mem_append_right _ (List.mem_append_right _ (List.mem_append_right _ (List.mem_append_right _ (List.mem_append_left _ (List.mem_of_getElem? (i := 182) rfl))))), rfl⟩
theorem kw_330 : Cond.code yProgram_variableSet cProgram_variableSet 4 (some .int) ∈ xW := List.mem_filter.mpr ⟨List.mem_append_right _ (List.mem_append_right _ (List.mem_append_left _ (List.mem_of_getElem? (i := 90) rfl))), rfl⟩
theorem kw_331 : Cond.methodLink "OnceNamed$Program" 49 yProgram_setsVariable ∈ xW := List.mem_filter.mpr ⟨List.mem_append_right _ (List.mem_append_right _ (List.mem_append_left _ (List.mem_of_getElem? (i := 91) rfl))), rfl⟩
theorem kw_332 : Cond.static yProgram_setsVariable ∈ xW := List.mem_filter.mpr ⟨List.mem_append_right _ (List.mem_append_right _ (List.mem_append_left _ (List.mem_of_getElem? (i := 92) rfl))), rfl⟩
theorem kw_3 : Cond.initialized "OnceNamed$Program" ∈ xW := List.mem_filter.mpr ⟨List.mem_append_right _ (List.mem_append_left _ (List.mem_of_getElem? (i := 3) rfl)), rfl⟩
theorem kw_365 : Cond.code yProgram_firstVariable cProgram_firstVariable 4 (some .int) ∈ xW := List.mem_filter.mpr ⟨List.mem_append_right _ (List.mem_append_right _ (List.mem_append_left _ (List.mem_of_getElem? (i := 125) rfl))), rfl⟩
theorem kw_366 : Cond.methodLink "OnceNamed$Program" 53 yProgram_usesFirst ∈ xW := List.mem_filter.mpr ⟨List.mem_append_right _ (List.mem_append_right _ (List.mem_append_left _ (List.mem_of_getElem? (i := 126) rfl))), rfl⟩
theorem kw_367 : Cond.static yProgram_usesFirst ∈ xW := List.mem_filter.mpr ⟨List.mem_append_right _ (List.mem_append_right _ (List.mem_append_left _ (List.mem_of_getElem? (i := 127) rfl))), rfl⟩
theorem kw_376 : Cond.code yProgram_secondVariable cProgram_secondVariable 4 (some .int) ∈ xW := List.mem_filter.mpr ⟨List.mem_append_right _ (List.mem_append_right _ (List.mem_append_left _ (List.mem_of_getElem? (i := 136) rfl))), rfl⟩
theorem kw_377 : Cond.methodLink "OnceNamed$Program" 56 yProgram_usesSecond ∈ xW := List.mem_filter.mpr ⟨List.mem_append_right _ (List.mem_append_right _ (List.mem_append_left _ (List.mem_of_getElem? (i := 137) rfl))), rfl⟩
theorem kw_378 : Cond.static yProgram_usesSecond ∈ xW := List.mem_filter.mpr ⟨List.mem_append_right _ (List.mem_append_right _ (List.mem_append_left _ (List.mem_of_getElem? (i := 138) rfl))), rfl⟩
theorem kw_384 : Cond.code yProgram_variableOfFork cProgram_variableOfFork 2 (some .int) ∈ xW := List.mem_filter.mpr ⟨List.mem_append_right _ (List.mem_append_right _ (List.mem_append_left _ (List.mem_of_getElem? (i := 144) rfl))), rfl⟩
theorem kw_917 : Cond.code yProgram_blockAfter cProgram_blockAfter 3 (some .int) ∈ xW := List.mem_filter.mpr ⟨List.mem_append_right _ (List.mem_append_right _ (List.mem_append_right _ (List.mem_append_right _ (List.mem_append_left _ (List.mem_of_getElem? (i := 197) rfl))))), rfl⟩
theorem kw_243 : Cond.code yProgram_followers cProgram_followers 2 (some .int) ∈ xW := List.mem_filter.mpr ⟨List.mem_append_right _ (List.mem_append_right _ (List.mem_append_left _ (List.mem_of_getElem? (i := 3) rfl))), rfl⟩
theorem kw_326 : Cond.code yProgram_setsInBlock cProgram_setsInBlock 4 (some .boolean) ∈ xW := List.mem_filter.mpr ⟨List.mem_append_right _ (List.mem_append_right _ (List.mem_append_left _ (List.mem_of_getElem? (i := 86) rfl))), rfl⟩
theorem kw_327 : Cond.methodLink "OnceNamed$Program" 59 yProgram_variableSet ∈ xW := List.mem_filter.mpr ⟨List.mem_append_right _ (List.mem_append_right _ (List.mem_append_left _ (List.mem_of_getElem? (i := 87) rfl))), rfl⟩
theorem kw_328 : Cond.instanceMethod yProgram_variableSet ∈ xW := List.mem_filter.mpr ⟨List.mem_append_right _ (List.mem_append_right _ (List.mem_append_left _ (List.mem_of_getElem? (i := 88) rfl))), rfl⟩
theorem kw_329 : Cond.selects "OnceNamed$Program" yProgram_variableSet yProgram_variableSet ∈ xW := List.mem_filter.mpr ⟨List.mem_append_right _ (List.mem_append_right _ (List.mem_append_left _ (List.mem_of_getElem? (i := 89) rfl))), rfl⟩
theorem kw_220 : Cond.fieldLink "OnceNamed$Talk" 13 "OnceNamed$Talk" "size" "I" ∈ xW := List.mem_filter.mpr ⟨List.mem_append_right _ (List.mem_append_left _ (List.mem_of_getElem? (i := 220) rfl)), rfl⟩
theorem kw_221 : Cond.fieldLink "OnceNamed$Talk" 17 "OnceNamed$Talk" "outcome" "I" ∈ xW := List.mem_filter.mpr ⟨List.mem_append_right _ (List.mem_append_left _ (List.mem_of_getElem? (i := 221) rfl)), rfl⟩
theorem kw_831 : Cond.code yTalk_begin cTalk_begin 1 none ∈ xW := List.mem_filter.mpr ⟨List.mem_append_right _ (List.mem_append_right _ (List.mem_append_right _ (List.mem_append_right _ (List.mem_append_left _ (List.mem_of_getElem? (i := 111) rfl))))), rfl⟩
theorem kw_219 : Cond.fieldLink "OnceNamed$Talk" 9 "OnceNamed$Talk" "numbers" "[I" ∈ xW := List.mem_filter.mpr ⟨List.mem_append_right _ (List.mem_append_left _ (List.mem_of_getElem? (i := 219) rfl)), rfl⟩
theorem kw_894 : Cond.code yTalk_say cTalk_say 2 none ∈ xW := List.mem_filter.mpr ⟨List.mem_append_right _ (List.mem_append_right _ (List.mem_append_right _ (List.mem_append_right _ (List.mem_append_left _ (List.mem_of_getElem? (i := 174) rfl))))), rfl⟩
theorem kw_898 : Cond.code yTalk_fail cTalk_fail 2 none ∈ xW := List.mem_filter.mpr ⟨List.mem_append_right _ (List.mem_append_right _ (List.mem_append_right _ (List.mem_append_right _ (List.mem_append_left _ (List.mem_of_getElem? (i := 178) rfl))))), rfl⟩
theorem kw_878 : Cond.code yTalk_outcome cTalk_outcome 1 (some .int) ∈ xW := List.mem_filter.mpr ⟨List.mem_append_right _ (List.mem_append_right _ (List.mem_append_right _ (List.mem_append_right _ (List.mem_append_left _ (List.mem_of_getElem? (i := 158) rfl))))), rfl⟩
theorem kw_939 : Cond.code yTalk_size cTalk_size 1 (some .int) ∈ xW := List.mem_filter.mpr ⟨List.mem_append_right _ (List.mem_append_right _ (List.mem_append_right _ (List.mem_append_right _ (List.mem_append_left _ (List.mem_of_getElem? (i := 219) rfl))))), rfl⟩
theorem kw_967 : Cond.code yTalk_number cTalk_number 2 (some .int) ∈ xW := List.mem_filter.mpr ⟨List.mem_append_right _ (List.mem_append_right _ (List.mem_append_right _ (List.mem_append_right _ (List.mem_append_right _ (List.mem_append_left _ (List.mem_of_getElem? (i := 7) rfl)))))), rfl⟩
theorem kw_978 : Cond.code yTalk_isLike cTalk_isLike 3 (some .boolean) ∈ xW := List.mem_filter.mpr ⟨List.mem_append_right _ (List.mem_append_right _ (List.mem_append_right _ (List.mem_append_right _ (List.mem_append_right _ (List.mem_append_left _ (List.mem_of_getElem? (i := 18) rfl)))))), rfl⟩
theorem kw_82 : Cond.fieldLink "OnceNamed$Graph" 9 "OnceNamed$Graph" "blocks" "I" ∈ xW := List.mem_filter.mpr ⟨List.mem_append_right _ (List.mem_append_left _ (List.mem_of_getElem? (i := 82) rfl)), rfl⟩
theorem kw_236 : Cond.code yGraph_reachedWithout cGraph_reachedWithout 8 (some .int) ∈ xW := List.mem_filter.mpr ⟨List.mem_append_right _ (List.mem_append_left _ (List.mem_of_getElem? (i := 236) rfl)), rfl⟩
theorem kw_1 : Cond.initialized "OnceNamed" ∈ xW := List.mem_filter.mpr ⟨List.mem_append_right _ (List.mem_append_left _ (List.mem_of_getElem? (i := 1) rfl)), rfl⟩
theorem kw_238 : Cond.static yOn_has ∈ xW := List.mem_filter.mpr ⟨List.mem_append_right _ (List.mem_append_left _ (List.mem_of_getElem? (i := 238) rfl)), rfl⟩
theorem kw_240 : Cond.methodLink "OnceNamed$Graph" 59 yProgram_followers ∈ xW := List.mem_filter.mpr ⟨List.mem_append_right _ (List.mem_append_right _ (List.mem_append_left _ (List.mem_of_getElem? (i := 0) rfl))), rfl⟩
theorem kw_241 : Cond.instanceMethod yProgram_followers ∈ xW := List.mem_filter.mpr ⟨List.mem_append_right _ (List.mem_append_right _ (List.mem_append_left _ (List.mem_of_getElem? (i := 1) rfl))), rfl⟩
theorem kw_242 : Cond.selects "OnceNamed$Program" yProgram_followers yProgram_followers ∈ xW := List.mem_filter.mpr ⟨List.mem_append_right _ (List.mem_append_right _ (List.mem_append_left _ (List.mem_of_getElem? (i := 2) rfl))), rfl⟩
theorem kw_83 : Cond.fieldLink "OnceNamed$Graph" 15 "OnceNamed$Graph" "forerunners" "[I" ∈ xW := List.mem_filter.mpr ⟨List.mem_append_right _ (List.mem_append_left _ (List.mem_of_getElem? (i := 83) rfl)), rfl⟩
theorem kw_90 : Cond.fieldLink "OnceNamed$Graph" 38 "OnceNamed$Graph" "reached" "I" ∈ xW := List.mem_filter.mpr ⟨List.mem_append_right _ (List.mem_append_left _ (List.mem_of_getElem? (i := 90) rfl)), rfl⟩
theorem kw_247 : Cond.code yGraph_findForerunners cGraph_findForerunners 5 none ∈ xW := List.mem_filter.mpr ⟨List.mem_append_right _ (List.mem_append_right _ (List.mem_append_left _ (List.mem_of_getElem? (i := 7) rfl))), rfl⟩
theorem kw_248 : Cond.methodLink "OnceNamed$Graph" 64 yArrays_fill ∈ xW := List.mem_filter.mpr ⟨List.mem_append_right _ (List.mem_append_right _ (List.mem_append_left _ (List.mem_of_getElem? (i := 8) rfl))), rfl⟩
theorem kw_42 : Cond.static yArrays_fill ∈ xW := List.mem_filter.mpr ⟨List.mem_append_right _ (List.mem_append_left _ (List.mem_of_getElem? (i := 42) rfl)), rfl⟩
theorem kw_4 : Cond.initialized "java/util/Arrays" ∈ xW := List.mem_filter.mpr ⟨List.mem_append_right _ (List.mem_append_left _ (List.mem_of_getElem? (i := 4) rfl)), rfl⟩
theorem kw_89 : Cond.fieldLink "OnceNamed$Graph" 75 "OnceNamed$Graph" "orderSize" "I" ∈ xW := List.mem_filter.mpr ⟨List.mem_append_right _ (List.mem_append_left _ (List.mem_of_getElem? (i := 89) rfl)), rfl⟩
theorem kw_88 : Cond.fieldLink "OnceNamed$Graph" 31 "OnceNamed$Graph" "waiting" "[I" ∈ xW := List.mem_filter.mpr ⟨List.mem_append_right _ (List.mem_append_left _ (List.mem_of_getElem? (i := 88) rfl)), rfl⟩
theorem kw_87 : Cond.fieldLink "OnceNamed$Graph" 28 "OnceNamed$Graph" "order" "[I" ∈ xW := List.mem_filter.mpr ⟨List.mem_append_right _ (List.mem_append_left _ (List.mem_of_getElem? (i := 87) rfl)), rfl⟩
theorem kw_86 : Cond.fieldLink "OnceNamed$Graph" 25 "OnceNamed$Graph" "parents" "[I" ∈ xW := List.mem_filter.mpr ⟨List.mem_append_right _ (List.mem_append_left _ (List.mem_of_getElem? (i := 86) rfl)), rfl⟩
theorem kw_266 : Cond.code yGraph_findOrder cGraph_findOrder 5 none ∈ xW := List.mem_filter.mpr ⟨List.mem_append_right _ (List.mem_append_right _ (List.mem_append_left _ (List.mem_of_getElem? (i := 26) rfl))), rfl⟩
theorem kw_84 : Cond.fieldLink "OnceNamed$Graph" 19 "OnceNamed$Graph" "below" "[I" ∈ xW := List.mem_filter.mpr ⟨List.mem_append_right _ (List.mem_append_left _ (List.mem_of_getElem? (i := 84) rfl)), rfl⟩
theorem kw_262 : Cond.code yGraph_findFrontier cGraph_findFrontier 5 (some .int) ∈ xW := List.mem_filter.mpr ⟨List.mem_append_right _ (List.mem_append_right _ (List.mem_append_left _ (List.mem_of_getElem? (i := 22) rfl))), rfl⟩
theorem kw_252 : Cond.code yGraph_nearestAbove cGraph_nearestAbove 6 (some .int) ∈ xW := List.mem_filter.mpr ⟨List.mem_append_right _ (List.mem_append_right _ (List.mem_append_left _ (List.mem_of_getElem? (i := 12) rfl))), rfl⟩
theorem kw_253 : Cond.methodLink "OnceNamed$Graph" 70 yInteger_bitCount ∈ xW := List.mem_filter.mpr ⟨List.mem_append_right _ (List.mem_append_right _ (List.mem_append_left _ (List.mem_of_getElem? (i := 13) rfl))), rfl⟩
theorem kw_254 : Cond.static yInteger_bitCount ∈ xW := List.mem_filter.mpr ⟨List.mem_append_right _ (List.mem_append_right _ (List.mem_append_left _ (List.mem_of_getElem? (i := 14) rfl))), rfl⟩
theorem kw_10 : Cond.initialized "java/lang/Integer" ∈ xW := List.mem_filter.mpr ⟨List.mem_append_right _ (List.mem_append_left _ (List.mem_of_getElem? (i := 10) rfl)), rfl⟩
theorem kw_85 : Cond.fieldLink "OnceNamed$Graph" 22 "OnceNamed$Graph" "frontiers" "[I" ∈ xW := List.mem_filter.mpr ⟨List.mem_append_right _ (List.mem_append_left _ (List.mem_of_getElem? (i := 85) rfl)), rfl⟩
theorem kw_232 : Cond.code yGraph_survey cGraph_survey 3 none ∈ xW := List.mem_filter.mpr ⟨List.mem_append_right _ (List.mem_append_left _ (List.mem_of_getElem? (i := 232) rfl)), rfl⟩
theorem kw_233 : Cond.methodLink "OnceNamed$Graph" 34 yGraph_reachedWithout ∈ xW := List.mem_filter.mpr ⟨List.mem_append_right _ (List.mem_append_left _ (List.mem_of_getElem? (i := 233) rfl)), rfl⟩
theorem kw_235 : Cond.instanceMethod yGraph_reachedWithout ∈ xW := List.mem_filter.mpr ⟨List.mem_append_right _ (List.mem_append_left _ (List.mem_of_getElem? (i := 235) rfl)), rfl⟩
theorem ks_1_0 : Cond.selects "OnceNamed$Graph" yGraph_reachedWithout yGraph_reachedWithout ∈ xW := List.mem_filter.mpr ⟨List.mem_append_left _ (List.mem_map.mpr ⟨(⟨"OnceNamed$Graph", "reachedWithout", "(LOnceNamed$Program;I)I"⟩, 9), List.mem_append_left _ (List.mem_of_getElem? (i := 0) rfl), rfl⟩), rfl⟩
theorem kw_5 : Cond.initialized "OnceNamed$Graph" ∈ xW := List.mem_filter.mpr ⟨List.mem_append_right _ (List.mem_append_left _ (List.mem_of_getElem? (i := 5) rfl)), rfl⟩
theorem kw_244 : Cond.methodLink "OnceNamed$Graph" 41 yGraph_findForerunners ∈ xW := List.mem_filter.mpr ⟨List.mem_append_right _ (List.mem_append_right _ (List.mem_append_left _ (List.mem_of_getElem? (i := 4) rfl))), rfl⟩
theorem kw_246 : Cond.instanceMethod yGraph_findForerunners ∈ xW := List.mem_filter.mpr ⟨List.mem_append_right _ (List.mem_append_right _ (List.mem_append_left _ (List.mem_of_getElem? (i := 6) rfl))), rfl⟩
theorem ks_1_1 : Cond.selects "OnceNamed$Graph" yGraph_findForerunners yGraph_findForerunners ∈ xW := List.mem_filter.mpr ⟨List.mem_append_left _ (List.mem_map.mpr ⟨(⟨"OnceNamed$Graph", "findForerunners", "(LOnceNamed$Program;)V"⟩, 9), List.mem_append_left _ (List.mem_of_getElem? (i := 1) rfl), rfl⟩), rfl⟩
theorem kw_259 : Cond.methodLink "OnceNamed$Graph" 53 yGraph_findFrontier ∈ xW := List.mem_filter.mpr ⟨List.mem_append_right _ (List.mem_append_right _ (List.mem_append_left _ (List.mem_of_getElem? (i := 19) rfl))), rfl⟩
theorem kw_261 : Cond.instanceMethod yGraph_findFrontier ∈ xW := List.mem_filter.mpr ⟨List.mem_append_right _ (List.mem_append_right _ (List.mem_append_left _ (List.mem_of_getElem? (i := 21) rfl))), rfl⟩
theorem ks_1_3 : Cond.selects "OnceNamed$Graph" yGraph_findFrontier yGraph_findFrontier ∈ xW := List.mem_filter.mpr ⟨List.mem_append_left _ (List.mem_map.mpr ⟨(⟨"OnceNamed$Graph", "findFrontier", "(I)I"⟩, 9), List.mem_append_left _ (List.mem_of_getElem? (i := 3) rfl), rfl⟩), rfl⟩
theorem kw_249 : Cond.methodLink "OnceNamed$Graph" 49 yGraph_nearestAbove ∈ xW := List.mem_filter.mpr ⟨List.mem_append_right _ (List.mem_append_right _ (List.mem_append_left _ (List.mem_of_getElem? (i := 9) rfl))), rfl⟩
theorem kw_251 : Cond.instanceMethod yGraph_nearestAbove ∈ xW := List.mem_filter.mpr ⟨List.mem_append_right _ (List.mem_append_right _ (List.mem_append_left _ (List.mem_of_getElem? (i := 11) rfl))), rfl⟩
theorem ks_1_2 : Cond.selects "OnceNamed$Graph" yGraph_nearestAbove yGraph_nearestAbove ∈ xW := List.mem_filter.mpr ⟨List.mem_append_left _ (List.mem_map.mpr ⟨(⟨"OnceNamed$Graph", "nearestAbove", "(I)I"⟩, 9), List.mem_append_left _ (List.mem_of_getElem? (i := 2) rfl), rfl⟩), rfl⟩
theorem kw_263 : Cond.methodLink "OnceNamed$Graph" 56 yGraph_findOrder ∈ xW := List.mem_filter.mpr ⟨List.mem_append_right _ (List.mem_append_right _ (List.mem_append_left _ (List.mem_of_getElem? (i := 23) rfl))), rfl⟩
theorem kw_265 : Cond.instanceMethod yGraph_findOrder ∈ xW := List.mem_filter.mpr ⟨List.mem_append_right _ (List.mem_append_right _ (List.mem_append_left _ (List.mem_of_getElem? (i := 25) rfl))), rfl⟩
theorem ks_1_4 : Cond.selects "OnceNamed$Graph" yGraph_findOrder yGraph_findOrder ∈ xW := List.mem_filter.mpr ⟨List.mem_append_left _ (List.mem_map.mpr ⟨(⟨"OnceNamed$Graph", "findOrder", "()V"⟩, 9), List.mem_append_left _ (List.mem_of_getElem? (i := 4) rfl), rfl⟩), rfl⟩
theorem kw_350 : Cond.code yGraph_parentOf cGraph_parentOf 2 (some .int) ∈ xW := List.mem_filter.mpr ⟨List.mem_append_right _ (List.mem_append_right _ (List.mem_append_left _ (List.mem_of_getElem? (i := 110) rfl))), rfl⟩
theorem kw_603 : Cond.code yGraph_hasBelow cGraph_hasBelow 3 (some .boolean) ∈ xW := List.mem_filter.mpr ⟨List.mem_append_right _ (List.mem_append_right _ (List.mem_append_right _ (List.mem_append_left _ (List.mem_of_getElem? (i := 123) rfl)))), rfl⟩
theorem kw_651 : Cond.code yGraph_frontierOf cGraph_frontierOf 2 (some .int) ∈ xW := List.mem_filter.mpr ⟨List.mem_append_right _ (List.mem_append_right _ (List.mem_append_right _ (List.mem_append_left _ (List.mem_of_getElem? (i := 171) rfl)))), rfl⟩
theorem kw_337 : Cond.code yGraph_frontierOfAll cGraph_frontierOfAll 4 (some .int) ∈ xW := List.mem_filter.mpr ⟨List.mem_append_right _ (List.mem_append_right _ (List.mem_append_left _ (List.mem_of_getElem? (i := 97) rfl))), rfl⟩
theorem kw_396 : Cond.code yGraph_leadsTo cGraph_leadsTo 3 (some .boolean) ∈ xW := List.mem_filter.mpr ⟨List.mem_append_right _ (List.mem_append_right _ (List.mem_append_left _ (List.mem_of_getElem? (i := 156) rfl))), rfl⟩
theorem kw_318 : Cond.code yGraph_reachedCount cGraph_reachedCount 1 (some .int) ∈ xW := List.mem_filter.mpr ⟨List.mem_append_right _ (List.mem_append_right _ (List.mem_append_left _ (List.mem_of_getElem? (i := 78) rfl))), rfl⟩
theorem kw_322 : Cond.code yGraph_inOrder cGraph_inOrder 2 (some .int) ∈ xW := List.mem_filter.mpr ⟨List.mem_append_right _ (List.mem_append_right _ (List.mem_append_left _ (List.mem_of_getElem? (i := 82) rfl))), rfl⟩
theorem kw_121 : Cond.fieldLink "OnceNamed$NamedForm" 15 "OnceNamed$NamedForm" "graph" "LOnceNamed$Graph;" ∈ xW := List.mem_filter.mpr ⟨List.mem_append_right _ (List.mem_append_left _ (List.mem_of_getElem? (i := 121) rfl)), rfl⟩
theorem kw_120 : Cond.fieldLink "OnceNamed$NamedForm" 11 "OnceNamed$NamedForm" "program" "LOnceNamed$Program;" ∈ xW := List.mem_filter.mpr ⟨List.mem_append_right _ (List.mem_append_left _ (List.mem_of_getElem? (i := 120) rfl)), rfl⟩
theorem kw_122 : Cond.fieldLink "OnceNamed$NamedForm" 25 "OnceNamed$NamedForm" "entry" "I" ∈ xW := List.mem_filter.mpr ⟨List.mem_append_right _ (List.mem_append_left _ (List.mem_of_getElem? (i := 122) rfl)), rfl⟩
theorem kw_123 : Cond.fieldLink "OnceNamed$NamedForm" 29 "OnceNamed$NamedForm" "meetingNames" "[I" ∈ xW := List.mem_filter.mpr ⟨List.mem_append_right _ (List.mem_append_left _ (List.mem_of_getElem? (i := 123) rfl)), rfl⟩
theorem kw_314 : Cond.code yNamedForm_markMeetings cNamedForm_markMeetings 5 none ∈ xW := List.mem_filter.mpr ⟨List.mem_append_right _ (List.mem_append_right _ (List.mem_append_left _ (List.mem_of_getElem? (i := 74) rfl))), rfl⟩
theorem kw_315 : Cond.methodLink "OnceNamed$NamedForm" 70 yGraph_reachedCount ∈ xW := List.mem_filter.mpr ⟨List.mem_append_right _ (List.mem_append_right _ (List.mem_append_left _ (List.mem_of_getElem? (i := 75) rfl))), rfl⟩
theorem kw_316 : Cond.instanceMethod yGraph_reachedCount ∈ xW := List.mem_filter.mpr ⟨List.mem_append_right _ (List.mem_append_right _ (List.mem_append_left _ (List.mem_of_getElem? (i := 76) rfl))), rfl⟩
theorem kw_317 : Cond.selects "OnceNamed$Graph" yGraph_reachedCount yGraph_reachedCount ∈ xW := List.mem_filter.mpr ⟨List.mem_append_right _ (List.mem_append_right _ (List.mem_append_left _ (List.mem_of_getElem? (i := 77) rfl))), rfl⟩
theorem kw_319 : Cond.methodLink "OnceNamed$NamedForm" 75 yGraph_inOrder ∈ xW := List.mem_filter.mpr ⟨List.mem_append_right _ (List.mem_append_right _ (List.mem_append_left _ (List.mem_of_getElem? (i := 79) rfl))), rfl⟩
theorem kw_320 : Cond.instanceMethod yGraph_inOrder ∈ xW := List.mem_filter.mpr ⟨List.mem_append_right _ (List.mem_append_right _ (List.mem_append_left _ (List.mem_of_getElem? (i := 80) rfl))), rfl⟩
theorem kw_321 : Cond.selects "OnceNamed$Graph" yGraph_inOrder yGraph_inOrder ∈ xW := List.mem_filter.mpr ⟨List.mem_append_right _ (List.mem_append_right _ (List.mem_append_left _ (List.mem_of_getElem? (i := 81) rfl))), rfl⟩
theorem kw_323 : Cond.methodLink "OnceNamed$NamedForm" 95 yProgram_setsInBlock ∈ xW := List.mem_filter.mpr ⟨List.mem_append_right _ (List.mem_append_right _ (List.mem_append_left _ (List.mem_of_getElem? (i := 83) rfl))), rfl⟩
theorem kw_324 : Cond.instanceMethod yProgram_setsInBlock ∈ xW := List.mem_filter.mpr ⟨List.mem_append_right _ (List.mem_append_right _ (List.mem_append_left _ (List.mem_of_getElem? (i := 84) rfl))), rfl⟩
theorem kw_325 : Cond.selects "OnceNamed$Program" yProgram_setsInBlock yProgram_setsInBlock ∈ xW := List.mem_filter.mpr ⟨List.mem_append_right _ (List.mem_append_right _ (List.mem_append_left _ (List.mem_of_getElem? (i := 85) rfl))), rfl⟩
theorem kw_334 : Cond.methodLink "OnceNamed$NamedForm" 99 yGraph_frontierOfAll ∈ xW := List.mem_filter.mpr ⟨List.mem_append_right _ (List.mem_append_right _ (List.mem_append_left _ (List.mem_of_getElem? (i := 94) rfl))), rfl⟩
theorem kw_335 : Cond.instanceMethod yGraph_frontierOfAll ∈ xW := List.mem_filter.mpr ⟨List.mem_append_right _ (List.mem_append_right _ (List.mem_append_left _ (List.mem_of_getElem? (i := 95) rfl))), rfl⟩
theorem kw_336 : Cond.selects "OnceNamed$Graph" yGraph_frontierOfAll yGraph_frontierOfAll ∈ xW := List.mem_filter.mpr ⟨List.mem_append_right _ (List.mem_append_right _ (List.mem_append_left _ (List.mem_of_getElem? (i := 96) rfl))), rfl⟩
theorem kw_124 : Cond.fieldLink "OnceNamed$NamedForm" 33 "OnceNamed$NamedForm" "meetingUses" "[I" ∈ xW := List.mem_filter.mpr ⟨List.mem_append_right _ (List.mem_append_left _ (List.mem_of_getElem? (i := 124) rfl)), rfl⟩
theorem kw_125 : Cond.fieldLink "OnceNamed$NamedForm" 36 "OnceNamed$NamedForm" "stepNames" "[I" ∈ xW := List.mem_filter.mpr ⟨List.mem_append_right _ (List.mem_append_left _ (List.mem_of_getElem? (i := 125) rfl)), rfl⟩
theorem kw_126 : Cond.fieldLink "OnceNamed$NamedForm" 39 "OnceNamed$NamedForm" "firstUses" "[I" ∈ xW := List.mem_filter.mpr ⟨List.mem_append_right _ (List.mem_append_left _ (List.mem_of_getElem? (i := 126) rfl)), rfl⟩
theorem kw_127 : Cond.fieldLink "OnceNamed$NamedForm" 42 "OnceNamed$NamedForm" "secondUses" "[I" ∈ xW := List.mem_filter.mpr ⟨List.mem_append_right _ (List.mem_append_left _ (List.mem_of_getElem? (i := 127) rfl)), rfl⟩
theorem kw_128 : Cond.fieldLink "OnceNamed$NamedForm" 45 "OnceNamed$NamedForm" "endUses" "[I" ∈ xW := List.mem_filter.mpr ⟨List.mem_append_right _ (List.mem_append_left _ (List.mem_of_getElem? (i := 128) rfl)), rfl⟩
theorem kw_130 : Cond.fieldLink "OnceNamed$NamedForm" 51 "OnceNamed$NamedForm" "namesOf" "[I" ∈ xW := List.mem_filter.mpr ⟨List.mem_append_right _ (List.mem_append_left _ (List.mem_of_getElem? (i := 130) rfl)), rfl⟩
theorem kw_131 : Cond.fieldLink "OnceNamed$NamedForm" 54 "OnceNamed$NamedForm" "homeBlock" "[I" ∈ xW := List.mem_filter.mpr ⟨List.mem_append_right _ (List.mem_append_left _ (List.mem_of_getElem? (i := 131) rfl)), rfl⟩
theorem kw_309 : Cond.code yNamedForm_forgetAll cNamedForm_forgetAll 2 none ∈ xW := List.mem_filter.mpr ⟨List.mem_append_right _ (List.mem_append_right _ (List.mem_append_left _ (List.mem_of_getElem? (i := 69) rfl))), rfl⟩
theorem kw_310 : Cond.methodLink "OnceNamed$NamedForm" 86 yArrays_fill ∈ xW := List.mem_filter.mpr ⟨List.mem_append_right _ (List.mem_append_right _ (List.mem_append_left _ (List.mem_of_getElem? (i := 70) rfl))), rfl⟩
theorem kw_311 : Cond.methodLink "OnceNamed$NamedForm" 92 yNamedForm_markMeetings ∈ xW := List.mem_filter.mpr ⟨List.mem_append_right _ (List.mem_append_right _ (List.mem_append_left _ (List.mem_of_getElem? (i := 71) rfl))), rfl⟩
theorem kw_313 : Cond.instanceMethod yNamedForm_markMeetings ∈ xW := List.mem_filter.mpr ⟨List.mem_append_right _ (List.mem_append_right _ (List.mem_append_left _ (List.mem_of_getElem? (i := 73) rfl))), rfl⟩
theorem ks_1_6 : Cond.selects "OnceNamed$NamedForm" yNamedForm_markMeetings yNamedForm_markMeetings ∈ xW := List.mem_filter.mpr ⟨List.mem_append_left _ (List.mem_map.mpr ⟨(⟨"OnceNamed$NamedForm", "markMeetings", "(I)V"⟩, 14), List.mem_append_left _ (List.mem_of_getElem? (i := 6) rfl), rfl⟩), rfl⟩
theorem kw_6 : Cond.initialized "OnceNamed$NamedForm" ∈ xW := List.mem_filter.mpr ⟨List.mem_append_right _ (List.mem_append_left _ (List.mem_of_getElem? (i := 6) rfl)), rfl⟩
theorem kw_400 : Cond.code yNamedForm_useOfMeeting cNamedForm_useOfMeeting 4 (some .int) ∈ xW := List.mem_filter.mpr ⟨List.mem_append_right _ (List.mem_append_right _ (List.mem_append_left _ (List.mem_of_getElem? (i := 160) rfl))), rfl⟩
theorem kw_129 : Cond.fieldLink "OnceNamed$NamedForm" 48 "OnceNamed$NamedForm" "lastNames" "[I" ∈ xW := List.mem_filter.mpr ⟨List.mem_append_right _ (List.mem_append_left _ (List.mem_of_getElem? (i := 129) rfl)), rfl⟩
theorem kw_372 : Cond.code yNamedForm_lastName cNamedForm_lastName 3 (some .int) ∈ xW := List.mem_filter.mpr ⟨List.mem_append_right _ (List.mem_append_right _ (List.mem_append_left _ (List.mem_of_getElem? (i := 132) rfl))), rfl⟩
theorem kw_392 : Cond.code yNamedForm_findUsesOfMeeting cNamedForm_findUsesOfMeeting 4 none ∈ xW := List.mem_filter.mpr ⟨List.mem_append_right _ (List.mem_append_right _ (List.mem_append_left _ (List.mem_of_getElem? (i := 152) rfl))), rfl⟩
theorem kw_393 : Cond.methodLink "OnceNamed$NamedForm" 140 yGraph_leadsTo ∈ xW := List.mem_filter.mpr ⟨List.mem_append_right _ (List.mem_append_right _ (List.mem_append_left _ (List.mem_of_getElem? (i := 153) rfl))), rfl⟩
theorem kw_394 : Cond.instanceMethod yGraph_leadsTo ∈ xW := List.mem_filter.mpr ⟨List.mem_append_right _ (List.mem_append_right _ (List.mem_append_left _ (List.mem_of_getElem? (i := 154) rfl))), rfl⟩
theorem kw_395 : Cond.selects "OnceNamed$Graph" yGraph_leadsTo yGraph_leadsTo ∈ xW := List.mem_filter.mpr ⟨List.mem_append_right _ (List.mem_append_right _ (List.mem_append_left _ (List.mem_of_getElem? (i := 155) rfl))), rfl⟩
theorem kw_397 : Cond.methodLink "OnceNamed$NamedForm" 143 yNamedForm_useOfMeeting ∈ xW := List.mem_filter.mpr ⟨List.mem_append_right _ (List.mem_append_right _ (List.mem_append_left _ (List.mem_of_getElem? (i := 157) rfl))), rfl⟩
theorem kw_399 : Cond.instanceMethod yNamedForm_useOfMeeting ∈ xW := List.mem_filter.mpr ⟨List.mem_append_right _ (List.mem_append_right _ (List.mem_append_left _ (List.mem_of_getElem? (i := 159) rfl))), rfl⟩
theorem ks_1_13 : Cond.selects "OnceNamed$NamedForm" yNamedForm_useOfMeeting yNamedForm_useOfMeeting ∈ xW := List.mem_filter.mpr ⟨List.mem_append_left _ (List.mem_map.mpr ⟨(⟨"OnceNamed$NamedForm", "useOfMeeting", "(III)I"⟩, 14), List.mem_append_left _ (List.mem_of_getElem? (i := 13) rfl), rfl⟩), rfl⟩
theorem kw_369 : Cond.methodLink "OnceNamed$NamedForm" 124 yNamedForm_lastName ∈ xW := List.mem_filter.mpr ⟨List.mem_append_right _ (List.mem_append_right _ (List.mem_append_left _ (List.mem_of_getElem? (i := 129) rfl))), rfl⟩
theorem kw_371 : Cond.instanceMethod yNamedForm_lastName ∈ xW := List.mem_filter.mpr ⟨List.mem_append_right _ (List.mem_append_right _ (List.mem_append_left _ (List.mem_of_getElem? (i := 131) rfl))), rfl⟩
theorem ks_1_10 : Cond.selects "OnceNamed$NamedForm" yNamedForm_lastName yNamedForm_lastName ∈ xW := List.mem_filter.mpr ⟨List.mem_append_left _ (List.mem_map.mpr ⟨(⟨"OnceNamed$NamedForm", "lastName", "(II)I"⟩, 14), List.mem_append_left _ (List.mem_of_getElem? (i := 10) rfl), rfl⟩), rfl⟩
theorem kw_388 : Cond.code yNamedForm_findMeetingUses cNamedForm_findMeetingUses 3 none ∈ xW := List.mem_filter.mpr ⟨List.mem_append_right _ (List.mem_append_right _ (List.mem_append_left _ (List.mem_of_getElem? (i := 148) rfl))), rfl⟩
theorem kw_389 : Cond.methodLink "OnceNamed$NamedForm" 137 yNamedForm_findUsesOfMeeting ∈ xW := List.mem_filter.mpr ⟨List.mem_append_right _ (List.mem_append_right _ (List.mem_append_left _ (List.mem_of_getElem? (i := 149) rfl))), rfl⟩
theorem kw_391 : Cond.instanceMethod yNamedForm_findUsesOfMeeting ∈ xW := List.mem_filter.mpr ⟨List.mem_append_right _ (List.mem_append_right _ (List.mem_append_left _ (List.mem_of_getElem? (i := 151) rfl))), rfl⟩
theorem ks_1_12 : Cond.selects "OnceNamed$NamedForm" yNamedForm_findUsesOfMeeting yNamedForm_findUsesOfMeeting ∈ xW := List.mem_filter.mpr ⟨List.mem_append_left _ (List.mem_map.mpr ⟨(⟨"OnceNamed$NamedForm", "findUsesOfMeeting", "(II)V"⟩, 14), List.mem_append_left _ (List.mem_of_getElem? (i := 12) rfl), rfl⟩), rfl⟩
theorem kw_132 : Cond.fieldLink "OnceNamed$NamedForm" 57 "OnceNamed$NamedForm" "homePlace" "[I" ∈ xW := List.mem_filter.mpr ⟨List.mem_append_right _ (List.mem_append_left _ (List.mem_of_getElem? (i := 132) rfl)), rfl⟩
theorem kw_342 : Cond.code yNamedForm_newName cNamedForm_newName 5 (some .int) ∈ xW := List.mem_filter.mpr ⟨List.mem_append_right _ (List.mem_append_right _ (List.mem_append_left _ (List.mem_of_getElem? (i := 102) rfl))), rfl⟩
theorem kw_361 : Cond.code yNamedForm_nameStep cNamedForm_nameStep 5 none ∈ xW := List.mem_filter.mpr ⟨List.mem_append_right _ (List.mem_append_right _ (List.mem_append_left _ (List.mem_of_getElem? (i := 121) rfl))), rfl⟩
theorem kw_362 : Cond.methodLink "OnceNamed$NamedForm" 128 yProgram_firstVariable ∈ xW := List.mem_filter.mpr ⟨List.mem_append_right _ (List.mem_append_right _ (List.mem_append_left _ (List.mem_of_getElem? (i := 122) rfl))), rfl⟩
theorem kw_363 : Cond.instanceMethod yProgram_firstVariable ∈ xW := List.mem_filter.mpr ⟨List.mem_append_right _ (List.mem_append_right _ (List.mem_append_left _ (List.mem_of_getElem? (i := 123) rfl))), rfl⟩
theorem kw_364 : Cond.selects "OnceNamed$Program" yProgram_firstVariable yProgram_firstVariable ∈ xW := List.mem_filter.mpr ⟨List.mem_append_right _ (List.mem_append_right _ (List.mem_append_left _ (List.mem_of_getElem? (i := 124) rfl))), rfl⟩
theorem kw_373 : Cond.methodLink "OnceNamed$NamedForm" 131 yProgram_secondVariable ∈ xW := List.mem_filter.mpr ⟨List.mem_append_right _ (List.mem_append_right _ (List.mem_append_left _ (List.mem_of_getElem? (i := 133) rfl))), rfl⟩
theorem kw_374 : Cond.instanceMethod yProgram_secondVariable ∈ xW := List.mem_filter.mpr ⟨List.mem_append_right _ (List.mem_append_right _ (List.mem_append_left _ (List.mem_of_getElem? (i := 134) rfl))), rfl⟩
theorem kw_375 : Cond.selects "OnceNamed$Program" yProgram_secondVariable yProgram_secondVariable ∈ xW := List.mem_filter.mpr ⟨List.mem_append_right _ (List.mem_append_right _ (List.mem_append_left _ (List.mem_of_getElem? (i := 135) rfl))), rfl⟩
theorem kw_380 : Cond.methodLink "OnceNamed$NamedForm" 134 yProgram_variableSet ∈ xW := List.mem_filter.mpr ⟨List.mem_append_right _ (List.mem_append_right _ (List.mem_append_left _ (List.mem_of_getElem? (i := 140) rfl))), rfl⟩
theorem kw_339 : Cond.methodLink "OnceNamed$NamedForm" 66 yNamedForm_newName ∈ xW := List.mem_filter.mpr ⟨List.mem_append_right _ (List.mem_append_right _ (List.mem_append_left _ (List.mem_of_getElem? (i := 99) rfl))), rfl⟩
theorem kw_341 : Cond.instanceMethod yNamedForm_newName ∈ xW := List.mem_filter.mpr ⟨List.mem_append_right _ (List.mem_append_right _ (List.mem_append_left _ (List.mem_of_getElem? (i := 101) rfl))), rfl⟩
theorem ks_1_7 : Cond.selects "OnceNamed$NamedForm" yNamedForm_newName yNamedForm_newName ∈ xW := List.mem_filter.mpr ⟨List.mem_append_left _ (List.mem_map.mpr ⟨(⟨"OnceNamed$NamedForm", "newName", "(III)I"⟩, 14), List.mem_append_left _ (List.mem_of_getElem? (i := 7) rfl), rfl⟩), rfl⟩
theorem kw_351 : Cond.methodLink "OnceNamed$NamedForm" 108 arraycopyName ∈ xW := List.mem_filter.mpr ⟨List.mem_append_right _ (List.mem_append_right _ (List.mem_append_left _ (List.mem_of_getElem? (i := 111) rfl))), rfl⟩
theorem kw_353 : Cond.native arraycopyName ∈ xW := List.mem_filter.mpr ⟨List.mem_append_right _ (List.mem_append_right _ (List.mem_append_left _ (List.mem_of_getElem? (i := 113) rfl))), rfl⟩
theorem kw_352 : Cond.static arraycopyName ∈ xW := List.mem_filter.mpr ⟨List.mem_append_right _ (List.mem_append_right _ (List.mem_append_left _ (List.mem_of_getElem? (i := 112) rfl))), rfl⟩
theorem kw_17 : Cond.initialized "java/lang/System" ∈ xW := List.mem_filter.mpr ⟨List.mem_append_right _ (List.mem_append_left _ (List.mem_of_getElem? (i := 17) rfl)), rfl⟩
theorem kw_346 : Cond.code yNamedForm_nameBlock cNamedForm_nameBlock 4 none ∈ xW := List.mem_filter.mpr ⟨List.mem_append_right _ (List.mem_append_right _ (List.mem_append_left _ (List.mem_of_getElem? (i := 106) rfl))), rfl⟩
theorem kw_347 : Cond.methodLink "OnceNamed$NamedForm" 105 yGraph_parentOf ∈ xW := List.mem_filter.mpr ⟨List.mem_append_right _ (List.mem_append_right _ (List.mem_append_left _ (List.mem_of_getElem? (i := 107) rfl))), rfl⟩
theorem kw_348 : Cond.instanceMethod yGraph_parentOf ∈ xW := List.mem_filter.mpr ⟨List.mem_append_right _ (List.mem_append_right _ (List.mem_append_left _ (List.mem_of_getElem? (i := 108) rfl))), rfl⟩
theorem kw_349 : Cond.selects "OnceNamed$Graph" yGraph_parentOf yGraph_parentOf ∈ xW := List.mem_filter.mpr ⟨List.mem_append_right _ (List.mem_append_right _ (List.mem_append_left _ (List.mem_of_getElem? (i := 109) rfl))), rfl⟩
theorem kw_354 : Cond.methodLink "OnceNamed$NamedForm" 114 yProgram_stepsOf ∈ xW := List.mem_filter.mpr ⟨List.mem_append_right _ (List.mem_append_right _ (List.mem_append_left _ (List.mem_of_getElem? (i := 114) rfl))), rfl⟩
theorem kw_355 : Cond.instanceMethod yProgram_stepsOf ∈ xW := List.mem_filter.mpr ⟨List.mem_append_right _ (List.mem_append_right _ (List.mem_append_left _ (List.mem_of_getElem? (i := 115) rfl))), rfl⟩
theorem kw_356 : Cond.selects "OnceNamed$Program" yProgram_stepsOf yProgram_stepsOf ∈ xW := List.mem_filter.mpr ⟨List.mem_append_right _ (List.mem_append_right _ (List.mem_append_left _ (List.mem_of_getElem? (i := 116) rfl))), rfl⟩
theorem kw_358 : Cond.methodLink "OnceNamed$NamedForm" 117 yNamedForm_nameStep ∈ xW := List.mem_filter.mpr ⟨List.mem_append_right _ (List.mem_append_right _ (List.mem_append_left _ (List.mem_of_getElem? (i := 118) rfl))), rfl⟩
theorem kw_360 : Cond.instanceMethod yNamedForm_nameStep ∈ xW := List.mem_filter.mpr ⟨List.mem_append_right _ (List.mem_append_right _ (List.mem_append_left _ (List.mem_of_getElem? (i := 120) rfl))), rfl⟩
theorem ks_1_9 : Cond.selects "OnceNamed$NamedForm" yNamedForm_nameStep yNamedForm_nameStep ∈ xW := List.mem_filter.mpr ⟨List.mem_append_left _ (List.mem_map.mpr ⟨(⟨"OnceNamed$NamedForm", "nameStep", "(II)V"⟩, 14), List.mem_append_left _ (List.mem_of_getElem? (i := 9) rfl), rfl⟩), rfl⟩
theorem kw_381 : Cond.methodLink "OnceNamed$NamedForm" 121 yProgram_variableOfFork ∈ xW := List.mem_filter.mpr ⟨List.mem_append_right _ (List.mem_append_right _ (List.mem_append_left _ (List.mem_of_getElem? (i := 141) rfl))), rfl⟩
theorem kw_382 : Cond.instanceMethod yProgram_variableOfFork ∈ xW := List.mem_filter.mpr ⟨List.mem_append_right _ (List.mem_append_right _ (List.mem_append_left _ (List.mem_of_getElem? (i := 142) rfl))), rfl⟩
theorem kw_383 : Cond.selects "OnceNamed$Program" yProgram_variableOfFork yProgram_variableOfFork ∈ xW := List.mem_filter.mpr ⟨List.mem_append_right _ (List.mem_append_right _ (List.mem_append_left _ (List.mem_of_getElem? (i := 143) rfl))), rfl⟩
theorem kw_305 : Cond.code yNamedForm_assemble cNamedForm_assemble 3 (some .int) ∈ xW := List.mem_filter.mpr ⟨List.mem_append_right _ (List.mem_append_right _ (List.mem_append_left _ (List.mem_of_getElem? (i := 65) rfl))), rfl⟩
theorem kw_306 : Cond.methodLink "OnceNamed$NamedForm" 63 yNamedForm_forgetAll ∈ xW := List.mem_filter.mpr ⟨List.mem_append_right _ (List.mem_append_right _ (List.mem_append_left _ (List.mem_of_getElem? (i := 66) rfl))), rfl⟩
theorem kw_308 : Cond.instanceMethod yNamedForm_forgetAll ∈ xW := List.mem_filter.mpr ⟨List.mem_append_right _ (List.mem_append_right _ (List.mem_append_left _ (List.mem_of_getElem? (i := 68) rfl))), rfl⟩
theorem ks_1_5 : Cond.selects "OnceNamed$NamedForm" yNamedForm_forgetAll yNamedForm_forgetAll ∈ xW := List.mem_filter.mpr ⟨List.mem_append_left _ (List.mem_map.mpr ⟨(⟨"OnceNamed$NamedForm", "forgetAll", "()V"⟩, 14), List.mem_append_left _ (List.mem_of_getElem? (i := 5) rfl), rfl⟩), rfl⟩
theorem kw_343 : Cond.methodLink "OnceNamed$NamedForm" 79 yNamedForm_nameBlock ∈ xW := List.mem_filter.mpr ⟨List.mem_append_right _ (List.mem_append_right _ (List.mem_append_left _ (List.mem_of_getElem? (i := 103) rfl))), rfl⟩
theorem kw_345 : Cond.instanceMethod yNamedForm_nameBlock ∈ xW := List.mem_filter.mpr ⟨List.mem_append_right _ (List.mem_append_right _ (List.mem_append_left _ (List.mem_of_getElem? (i := 105) rfl))), rfl⟩
theorem ks_1_8 : Cond.selects "OnceNamed$NamedForm" yNamedForm_nameBlock yNamedForm_nameBlock ∈ xW := List.mem_filter.mpr ⟨List.mem_append_left _ (List.mem_map.mpr ⟨(⟨"OnceNamed$NamedForm", "nameBlock", "(I)V"⟩, 14), List.mem_append_left _ (List.mem_of_getElem? (i := 8) rfl), rfl⟩), rfl⟩
theorem kw_385 : Cond.methodLink "OnceNamed$NamedForm" 83 yNamedForm_findMeetingUses ∈ xW := List.mem_filter.mpr ⟨List.mem_append_right _ (List.mem_append_right _ (List.mem_append_left _ (List.mem_of_getElem? (i := 145) rfl))), rfl⟩
theorem kw_387 : Cond.instanceMethod yNamedForm_findMeetingUses ∈ xW := List.mem_filter.mpr ⟨List.mem_append_right _ (List.mem_append_right _ (List.mem_append_left _ (List.mem_of_getElem? (i := 147) rfl))), rfl⟩
theorem ks_1_11 : Cond.selects "OnceNamed$NamedForm" yNamedForm_findMeetingUses yNamedForm_findMeetingUses ∈ xW := List.mem_filter.mpr ⟨List.mem_append_left _ (List.mem_map.mpr ⟨(⟨"OnceNamed$NamedForm", "findMeetingUses", "()V"⟩, 14), List.mem_append_left _ (List.mem_of_getElem? (i := 11) rfl), rfl⟩), rfl⟩
theorem kw_599 : Cond.code yNamedForm_isUseSound cNamedForm_isUseSound 5 (some .boolean) ∈ xW := List.mem_filter.mpr ⟨List.mem_append_right _ (List.mem_append_right _ (List.mem_append_right _ (List.mem_append_left _ (List.mem_of_getElem? (i := 119) rfl)))), rfl⟩
theorem kw_600 : Cond.methodLink "OnceNamed$NamedForm" 157 yGraph_hasBelow ∈ xW := List.mem_filter.mpr ⟨List.mem_append_right _ (List.mem_append_right _ (List.mem_append_right _ (List.mem_append_left _ (List.mem_of_getElem? (i := 120) rfl)))), rfl⟩
theorem kw_601 : Cond.instanceMethod yGraph_hasBelow ∈ xW := List.mem_filter.mpr ⟨List.mem_append_right _ (List.mem_append_right _ (List.mem_append_right _ (List.mem_append_left _ (List.mem_of_getElem? (i := 121) rfl)))), rfl⟩
theorem kw_602 : Cond.selects "OnceNamed$Graph" yGraph_hasBelow yGraph_hasBelow ∈ xW := List.mem_filter.mpr ⟨List.mem_append_right _ (List.mem_append_right _ (List.mem_append_right _ (List.mem_append_left _ (List.mem_of_getElem? (i := 122) rfl)))), rfl⟩
theorem kw_595 : Cond.code yNamedForm_isBlockSound cNamedForm_isBlockSound 4 (some .boolean) ∈ xW := List.mem_filter.mpr ⟨List.mem_append_right _ (List.mem_append_right _ (List.mem_append_right _ (List.mem_append_left _ (List.mem_of_getElem? (i := 115) rfl)))), rfl⟩
theorem kw_596 : Cond.methodLink "OnceNamed$NamedForm" 153 yNamedForm_isUseSound ∈ xW := List.mem_filter.mpr ⟨List.mem_append_right _ (List.mem_append_right _ (List.mem_append_right _ (List.mem_append_left _ (List.mem_of_getElem? (i := 116) rfl)))), rfl⟩
theorem kw_598 : Cond.instanceMethod yNamedForm_isUseSound ∈ xW := List.mem_filter.mpr ⟨List.mem_append_right _ (List.mem_append_right _ (List.mem_append_right _ (List.mem_append_left _ (List.mem_of_getElem? (i := 118) rfl)))), rfl⟩
theorem ks_2_3 : Cond.selects "OnceNamed$NamedForm" yNamedForm_isUseSound yNamedForm_isUseSound ∈ xW := List.mem_filter.mpr ⟨List.mem_append_left _ (List.mem_map.mpr ⟨(⟨"OnceNamed$NamedForm", "isUseSound", "(III)Z"⟩, 14), List.mem_append_right _ (List.mem_append_left _ (List.mem_of_getElem? (i := 3) rfl)), rfl⟩), rfl⟩
theorem kw_607 : Cond.code yNamedForm_areMeetingsSound cNamedForm_areMeetingsSound 4 (some .boolean) ∈ xW := List.mem_filter.mpr ⟨List.mem_append_right _ (List.mem_append_right _ (List.mem_append_right _ (List.mem_append_left _ (List.mem_of_getElem? (i := 127) rfl)))), rfl⟩
theorem kw_591 : Cond.code yNamedForm_isSound cNamedForm_isSound 3 (some .boolean) ∈ xW := List.mem_filter.mpr ⟨List.mem_append_right _ (List.mem_append_right _ (List.mem_append_right _ (List.mem_append_left _ (List.mem_of_getElem? (i := 111) rfl)))), rfl⟩
theorem kw_592 : Cond.methodLink "OnceNamed$NamedForm" 146 yNamedForm_isBlockSound ∈ xW := List.mem_filter.mpr ⟨List.mem_append_right _ (List.mem_append_right _ (List.mem_append_right _ (List.mem_append_left _ (List.mem_of_getElem? (i := 112) rfl)))), rfl⟩
theorem kw_594 : Cond.instanceMethod yNamedForm_isBlockSound ∈ xW := List.mem_filter.mpr ⟨List.mem_append_right _ (List.mem_append_right _ (List.mem_append_right _ (List.mem_append_left _ (List.mem_of_getElem? (i := 114) rfl)))), rfl⟩
theorem ks_2_2 : Cond.selects "OnceNamed$NamedForm" yNamedForm_isBlockSound yNamedForm_isBlockSound ∈ xW := List.mem_filter.mpr ⟨List.mem_append_left _ (List.mem_map.mpr ⟨(⟨"OnceNamed$NamedForm", "isBlockSound", "(I)Z"⟩, 14), List.mem_append_right _ (List.mem_append_left _ (List.mem_of_getElem? (i := 2) rfl)), rfl⟩), rfl⟩
theorem kw_604 : Cond.methodLink "OnceNamed$NamedForm" 150 yNamedForm_areMeetingsSound ∈ xW := List.mem_filter.mpr ⟨List.mem_append_right _ (List.mem_append_right _ (List.mem_append_right _ (List.mem_append_left _ (List.mem_of_getElem? (i := 124) rfl)))), rfl⟩
theorem kw_606 : Cond.instanceMethod yNamedForm_areMeetingsSound ∈ xW := List.mem_filter.mpr ⟨List.mem_append_right _ (List.mem_append_right _ (List.mem_append_right _ (List.mem_append_left _ (List.mem_of_getElem? (i := 126) rfl)))), rfl⟩
theorem ks_2_4 : Cond.selects "OnceNamed$NamedForm" yNamedForm_areMeetingsSound yNamedForm_areMeetingsSound ∈ xW := List.mem_filter.mpr ⟨List.mem_append_left _ (List.mem_map.mpr ⟨(⟨"OnceNamed$NamedForm", "areMeetingsSound", "(I)Z"⟩, 14), List.mem_append_right _ (List.mem_append_left _ (List.mem_of_getElem? (i := 4) rfl)), rfl⟩), rfl⟩
theorem kw_133 : Cond.fieldLink "OnceNamed$NamedForm" 60 "OnceNamed$NamedForm" "standsFor" "[I" ∈ xW := List.mem_filter.mpr ⟨List.mem_append_right _ (List.mem_append_left _ (List.mem_of_getElem? (i := 133) rfl)), rfl⟩
theorem kw_624 : Cond.code yNamedForm_replaceAll cNamedForm_replaceAll 3 none ∈ xW := List.mem_filter.mpr ⟨List.mem_append_right _ (List.mem_append_right _ (List.mem_append_right _ (List.mem_append_left _ (List.mem_of_getElem? (i := 144) rfl)))), rfl⟩
theorem kw_616 : Cond.code yNamedForm_dropCopiesOf cNamedForm_dropCopiesOf 5 (some .int) ∈ xW := List.mem_filter.mpr ⟨List.mem_append_right _ (List.mem_append_right _ (List.mem_append_right _ (List.mem_append_left _ (List.mem_of_getElem? (i := 136) rfl)))), rfl⟩
theorem kw_617 : Cond.methodLink "OnceNamed$NamedForm" 167 yProgram_kindOf ∈ xW := List.mem_filter.mpr ⟨List.mem_append_right _ (List.mem_append_right _ (List.mem_append_right _ (List.mem_append_left _ (List.mem_of_getElem? (i := 137) rfl)))), rfl⟩
theorem kw_618 : Cond.instanceMethod yProgram_kindOf ∈ xW := List.mem_filter.mpr ⟨List.mem_append_right _ (List.mem_append_right _ (List.mem_append_right _ (List.mem_append_left _ (List.mem_of_getElem? (i := 138) rfl)))), rfl⟩
theorem kw_619 : Cond.selects "OnceNamed$Program" yProgram_kindOf yProgram_kindOf ∈ xW := List.mem_filter.mpr ⟨List.mem_append_right _ (List.mem_append_right _ (List.mem_append_right _ (List.mem_append_left _ (List.mem_of_getElem? (i := 139) rfl)))), rfl⟩
theorem kw_612 : Cond.code yNamedForm_dropCopies cNamedForm_dropCopies 3 (some .int) ∈ xW := List.mem_filter.mpr ⟨List.mem_append_right _ (List.mem_append_right _ (List.mem_append_right _ (List.mem_append_left _ (List.mem_of_getElem? (i := 132) rfl)))), rfl⟩
theorem kw_613 : Cond.methodLink "OnceNamed$NamedForm" 160 yNamedForm_dropCopiesOf ∈ xW := List.mem_filter.mpr ⟨List.mem_append_right _ (List.mem_append_right _ (List.mem_append_right _ (List.mem_append_left _ (List.mem_of_getElem? (i := 133) rfl)))), rfl⟩
theorem kw_615 : Cond.instanceMethod yNamedForm_dropCopiesOf ∈ xW := List.mem_filter.mpr ⟨List.mem_append_right _ (List.mem_append_right _ (List.mem_append_right _ (List.mem_append_left _ (List.mem_of_getElem? (i := 135) rfl)))), rfl⟩
theorem ks_2_5 : Cond.selects "OnceNamed$NamedForm" yNamedForm_dropCopiesOf yNamedForm_dropCopiesOf ∈ xW := List.mem_filter.mpr ⟨List.mem_append_left _ (List.mem_map.mpr ⟨(⟨"OnceNamed$NamedForm", "dropCopiesOf", "(I)I"⟩, 14), List.mem_append_right _ (List.mem_append_left _ (List.mem_of_getElem? (i := 5) rfl)), rfl⟩), rfl⟩
theorem kw_621 : Cond.methodLink "OnceNamed$NamedForm" 163 yNamedForm_replaceAll ∈ xW := List.mem_filter.mpr ⟨List.mem_append_right _ (List.mem_append_right _ (List.mem_append_right _ (List.mem_append_left _ (List.mem_of_getElem? (i := 141) rfl)))), rfl⟩
theorem kw_623 : Cond.instanceMethod yNamedForm_replaceAll ∈ xW := List.mem_filter.mpr ⟨List.mem_append_right _ (List.mem_append_right _ (List.mem_append_right _ (List.mem_append_left _ (List.mem_of_getElem? (i := 143) rfl)))), rfl⟩
theorem ks_2_6 : Cond.selects "OnceNamed$NamedForm" yNamedForm_replaceAll yNamedForm_replaceAll ∈ xW := List.mem_filter.mpr ⟨List.mem_append_left _ (List.mem_map.mpr ⟨(⟨"OnceNamed$NamedForm", "replaceAll", "([I)V"⟩, 14), List.mem_append_right _ (List.mem_append_left _ (List.mem_of_getElem? (i := 6) rfl)), rfl⟩), rfl⟩
theorem kw_742 : Cond.code yNamedForm_hasName cNamedForm_hasName 2 (some .boolean) ∈ xW := List.mem_filter.mpr ⟨List.mem_append_right _ (List.mem_append_right _ (List.mem_append_right _ (List.mem_append_right _ (List.mem_append_left _ (List.mem_of_getElem? (i := 22) rfl))))), rfl⟩
theorem kw_840 : Cond.code yNamedForm_entryName cNamedForm_entryName 2 (some .int) ∈ xW := List.mem_filter.mpr ⟨List.mem_append_right _ (List.mem_append_right _ (List.mem_append_right _ (List.mem_append_right _ (List.mem_append_left _ (List.mem_of_getElem? (i := 120) rfl))))), rfl⟩
theorem kw_663 : Cond.code yNamedForm_meetingName cNamedForm_meetingName 3 (some .int) ∈ xW := List.mem_filter.mpr ⟨List.mem_append_right _ (List.mem_append_right _ (List.mem_append_right _ (List.mem_append_left _ (List.mem_of_getElem? (i := 183) rfl)))), rfl⟩
theorem kw_683 : Cond.code yNamedForm_meetingUse cNamedForm_meetingUse 4 (some .int) ∈ xW := List.mem_filter.mpr ⟨List.mem_append_right _ (List.mem_append_right _ (List.mem_append_right _ (List.mem_append_left _ (List.mem_of_getElem? (i := 203) rfl)))), rfl⟩
theorem kw_699 : Cond.code yNamedForm_nameSet cNamedForm_nameSet 3 (some .int) ∈ xW := List.mem_filter.mpr ⟨List.mem_append_right _ (List.mem_append_right _ (List.mem_append_right _ (List.mem_append_left _ (List.mem_of_getElem? (i := 219) rfl)))), rfl⟩
theorem kw_723 : Cond.code yNamedForm_stepUse cNamedForm_stepUse 5 (some .int) ∈ xW := List.mem_filter.mpr ⟨List.mem_append_right _ (List.mem_append_right _ (List.mem_append_right _ (List.mem_append_right _ (List.mem_append_left _ (List.mem_of_getElem? (i := 3) rfl))))), rfl⟩
theorem kw_719 : Cond.code yNamedForm_endUse cNamedForm_endUse 2 (some .int) ∈ xW := List.mem_filter.mpr ⟨List.mem_append_right _ (List.mem_append_right _ (List.mem_append_right _ (List.mem_append_left _ (List.mem_of_getElem? (i := 239) rfl)))), rfl⟩
theorem kw_747 : Cond.code yNamedForm_changeEndUse cNamedForm_changeEndUse 3 none ∈ xW := List.mem_filter.mpr ⟨List.mem_append_right _ (List.mem_append_right _ (List.mem_append_right _ (List.mem_append_right _ (List.mem_append_left _ (List.mem_of_getElem? (i := 27) rfl))))), rfl⟩
theorem kw_751 : Cond.code yNamedForm_changeStepUse cNamedForm_changeStepUse 6 none ∈ xW := List.mem_filter.mpr ⟨List.mem_append_right _ (List.mem_append_right _ (List.mem_append_right _ (List.mem_append_right _ (List.mem_append_left _ (List.mem_of_getElem? (i := 31) rfl))))), rfl⟩
theorem kw_762 : Cond.code yNamedForm_changeMeetingUse cNamedForm_changeMeetingUse 5 none ∈ xW := List.mem_filter.mpr ⟨List.mem_append_right _ (List.mem_append_right _ (List.mem_append_right _ (List.mem_append_right _ (List.mem_append_left _ (List.mem_of_getElem? (i := 42) rfl))))), rfl⟩
theorem kw_173 : Cond.fieldLink "OnceNamed$CopyPlan" 34 "OnceNamed$CopyPlan" "pending" "I" ∈ xW := List.mem_filter.mpr ⟨List.mem_append_right _ (List.mem_append_left _ (List.mem_of_getElem? (i := 173) rfl)), rfl⟩
theorem kw_169 : Cond.fieldLink "OnceNamed$CopyPlan" 11 "OnceNamed$CopyPlan" "pendingTo" "[I" ∈ xW := List.mem_filter.mpr ⟨List.mem_append_right _ (List.mem_append_left _ (List.mem_of_getElem? (i := 169) rfl)), rfl⟩
theorem kw_170 : Cond.fieldLink "OnceNamed$CopyPlan" 17 "OnceNamed$CopyPlan" "pendingFrom" "[I" ∈ xW := List.mem_filter.mpr ⟨List.mem_append_right _ (List.mem_append_left _ (List.mem_of_getElem? (i := 170) rfl)), rfl⟩
theorem kw_784 : Cond.code yCopyPlan_collect cCopyPlan_collect 7 none ∈ xW := List.mem_filter.mpr ⟨List.mem_append_right _ (List.mem_append_right _ (List.mem_append_right _ (List.mem_append_right _ (List.mem_append_left _ (List.mem_of_getElem? (i := 64) rfl))))), rfl⟩
theorem kw_785 : Cond.methodLink "OnceNamed$CopyPlan" 52 yNamedForm_meetingUse ∈ xW := List.mem_filter.mpr ⟨List.mem_append_right _ (List.mem_append_right _ (List.mem_append_right _ (List.mem_append_right _ (List.mem_append_left _ (List.mem_of_getElem? (i := 65) rfl))))), rfl⟩
theorem kw_681 : Cond.instanceMethod yNamedForm_meetingUse ∈ xW := List.mem_filter.mpr ⟨List.mem_append_right _ (List.mem_append_right _ (List.mem_append_right _ (List.mem_append_left _ (List.mem_of_getElem? (i := 201) rfl)))), rfl⟩
theorem kw_682 : Cond.selects "OnceNamed$NamedForm" yNamedForm_meetingUse yNamedForm_meetingUse ∈ xW := List.mem_filter.mpr ⟨List.mem_append_right _ (List.mem_append_right _ (List.mem_append_right _ (List.mem_append_left _ (List.mem_of_getElem? (i := 202) rfl)))), rfl⟩
theorem kw_786 : Cond.methodLink "OnceNamed$CopyPlan" 56 yNamedForm_meetingName ∈ xW := List.mem_filter.mpr ⟨List.mem_append_right _ (List.mem_append_right _ (List.mem_append_right _ (List.mem_append_right _ (List.mem_append_left _ (List.mem_of_getElem? (i := 66) rfl))))), rfl⟩
theorem kw_661 : Cond.instanceMethod yNamedForm_meetingName ∈ xW := List.mem_filter.mpr ⟨List.mem_append_right _ (List.mem_append_right _ (List.mem_append_right _ (List.mem_append_left _ (List.mem_of_getElem? (i := 181) rfl)))), rfl⟩
theorem kw_662 : Cond.selects "OnceNamed$NamedForm" yNamedForm_meetingName yNamedForm_meetingName ∈ xW := List.mem_filter.mpr ⟨List.mem_append_right _ (List.mem_append_right _ (List.mem_append_right _ (List.mem_append_left _ (List.mem_of_getElem? (i := 182) rfl)))), rfl⟩
theorem kw_794 : Cond.code yCopyPlan_isAwaited cCopyPlan_isAwaited 3 (some .boolean) ∈ xW := List.mem_filter.mpr ⟨List.mem_append_right _ (List.mem_append_right _ (List.mem_append_right _ (List.mem_append_right _ (List.mem_append_left _ (List.mem_of_getElem? (i := 74) rfl))))), rfl⟩
theorem kw_790 : Cond.code yCopyPlan_freeMove cCopyPlan_freeMove 2 (some .int) ∈ xW := List.mem_filter.mpr ⟨List.mem_append_right _ (List.mem_append_right _ (List.mem_append_right _ (List.mem_append_right _ (List.mem_append_left _ (List.mem_of_getElem? (i := 70) rfl))))), rfl⟩
theorem kw_791 : Cond.methodLink "OnceNamed$CopyPlan" 60 yCopyPlan_isAwaited ∈ xW := List.mem_filter.mpr ⟨List.mem_append_right _ (List.mem_append_right _ (List.mem_append_right _ (List.mem_append_right _ (List.mem_append_left _ (List.mem_of_getElem? (i := 71) rfl))))), rfl⟩
theorem kw_793 : Cond.instanceMethod yCopyPlan_isAwaited ∈ xW := List.mem_filter.mpr ⟨List.mem_append_right _ (List.mem_append_right _ (List.mem_append_right _ (List.mem_append_right _ (List.mem_append_left _ (List.mem_of_getElem? (i := 73) rfl))))), rfl⟩
theorem ks_2_15 : Cond.selects "OnceNamed$CopyPlan" yCopyPlan_isAwaited yCopyPlan_isAwaited ∈ xW := List.mem_filter.mpr ⟨List.mem_append_left _ (List.mem_map.mpr ⟨(⟨"OnceNamed$CopyPlan", "isAwaited", "(I)Z"⟩, 6), List.mem_append_right _ (List.mem_append_left _ (List.mem_of_getElem? (i := 15) rfl)), rfl⟩), rfl⟩
theorem kw_7 : Cond.initialized "OnceNamed$CopyPlan" ∈ xW := List.mem_filter.mpr ⟨List.mem_append_right _ (List.mem_append_left _ (List.mem_of_getElem? (i := 7) rfl)), rfl⟩
theorem kw_171 : Cond.fieldLink "OnceNamed$CopyPlan" 20 "OnceNamed$CopyPlan" "copyTo" "[I" ∈ xW := List.mem_filter.mpr ⟨List.mem_append_right _ (List.mem_append_left _ (List.mem_of_getElem? (i := 171) rfl)), rfl⟩
theorem kw_174 : Cond.fieldLink "OnceNamed$CopyPlan" 30 "OnceNamed$CopyPlan" "length" "I" ∈ xW := List.mem_filter.mpr ⟨List.mem_append_right _ (List.mem_append_left _ (List.mem_of_getElem? (i := 174) rfl)), rfl⟩
theorem kw_172 : Cond.fieldLink "OnceNamed$CopyPlan" 23 "OnceNamed$CopyPlan" "copyFrom" "[I" ∈ xW := List.mem_filter.mpr ⟨List.mem_append_right _ (List.mem_append_left _ (List.mem_of_getElem? (i := 172) rfl)), rfl⟩
theorem kw_798 : Cond.code yCopyPlan_copy cCopyPlan_copy 3 none ∈ xW := List.mem_filter.mpr ⟨List.mem_append_right _ (List.mem_append_right _ (List.mem_append_right _ (List.mem_append_right _ (List.mem_append_left _ (List.mem_of_getElem? (i := 78) rfl))))), rfl⟩
theorem kw_802 : Cond.code yCopyPlan_remove cCopyPlan_remove 2 none ∈ xW := List.mem_filter.mpr ⟨List.mem_append_right _ (List.mem_append_right _ (List.mem_append_right _ (List.mem_append_right _ (List.mem_append_left _ (List.mem_of_getElem? (i := 82) rfl))))), rfl⟩
theorem kw_806 : Cond.code yCopyPlan_readFromCopy cCopyPlan_readFromCopy 2 none ∈ xW := List.mem_filter.mpr ⟨List.mem_append_right _ (List.mem_append_right _ (List.mem_append_right _ (List.mem_append_right _ (List.mem_append_left _ (List.mem_of_getElem? (i := 86) rfl))))), rfl⟩
theorem kw_780 : Cond.code yCopyPlan_draw cCopyPlan_draw 6 none ∈ xW := List.mem_filter.mpr ⟨List.mem_append_right _ (List.mem_append_right _ (List.mem_append_right _ (List.mem_append_right _ (List.mem_append_left _ (List.mem_of_getElem? (i := 60) rfl))))), rfl⟩
theorem kw_781 : Cond.methodLink "OnceNamed$CopyPlan" 26 yCopyPlan_collect ∈ xW := List.mem_filter.mpr ⟨List.mem_append_right _ (List.mem_append_right _ (List.mem_append_right _ (List.mem_append_right _ (List.mem_append_left _ (List.mem_of_getElem? (i := 61) rfl))))), rfl⟩
theorem kw_783 : Cond.instanceMethod yCopyPlan_collect ∈ xW := List.mem_filter.mpr ⟨List.mem_append_right _ (List.mem_append_right _ (List.mem_append_right _ (List.mem_append_right _ (List.mem_append_left _ (List.mem_of_getElem? (i := 63) rfl))))), rfl⟩
theorem ks_2_13 : Cond.selects "OnceNamed$CopyPlan" yCopyPlan_collect yCopyPlan_collect ∈ xW := List.mem_filter.mpr ⟨List.mem_append_left _ (List.mem_map.mpr ⟨(⟨"OnceNamed$CopyPlan", "collect", "(LOnceNamed$NamedForm;II)V"⟩, 6), List.mem_append_right _ (List.mem_append_left _ (List.mem_of_getElem? (i := 13) rfl)), rfl⟩), rfl⟩
theorem kw_787 : Cond.methodLink "OnceNamed$CopyPlan" 37 yCopyPlan_freeMove ∈ xW := List.mem_filter.mpr ⟨List.mem_append_right _ (List.mem_append_right _ (List.mem_append_right _ (List.mem_append_right _ (List.mem_append_left _ (List.mem_of_getElem? (i := 67) rfl))))), rfl⟩
theorem kw_789 : Cond.instanceMethod yCopyPlan_freeMove ∈ xW := List.mem_filter.mpr ⟨List.mem_append_right _ (List.mem_append_right _ (List.mem_append_right _ (List.mem_append_right _ (List.mem_append_left _ (List.mem_of_getElem? (i := 69) rfl))))), rfl⟩
theorem ks_2_14 : Cond.selects "OnceNamed$CopyPlan" yCopyPlan_freeMove yCopyPlan_freeMove ∈ xW := List.mem_filter.mpr ⟨List.mem_append_left _ (List.mem_map.mpr ⟨(⟨"OnceNamed$CopyPlan", "freeMove", "()I"⟩, 6), List.mem_append_right _ (List.mem_append_left _ (List.mem_of_getElem? (i := 14) rfl)), rfl⟩), rfl⟩
theorem kw_795 : Cond.methodLink "OnceNamed$CopyPlan" 41 yCopyPlan_copy ∈ xW := List.mem_filter.mpr ⟨List.mem_append_right _ (List.mem_append_right _ (List.mem_append_right _ (List.mem_append_right _ (List.mem_append_left _ (List.mem_of_getElem? (i := 75) rfl))))), rfl⟩
theorem kw_797 : Cond.instanceMethod yCopyPlan_copy ∈ xW := List.mem_filter.mpr ⟨List.mem_append_right _ (List.mem_append_right _ (List.mem_append_right _ (List.mem_append_right _ (List.mem_append_left _ (List.mem_of_getElem? (i := 77) rfl))))), rfl⟩
theorem ks_3_0 : Cond.selects "OnceNamed$CopyPlan" yCopyPlan_copy yCopyPlan_copy ∈ xW := List.mem_filter.mpr ⟨List.mem_append_left _ (List.mem_map.mpr ⟨(⟨"OnceNamed$CopyPlan", "copy", "(II)V"⟩, 6), List.mem_append_right _ (List.mem_append_right _ (List.mem_append_left _ (List.mem_of_getElem? (i := 0) rfl))), rfl⟩), rfl⟩
theorem kw_799 : Cond.methodLink "OnceNamed$CopyPlan" 45 yCopyPlan_remove ∈ xW := List.mem_filter.mpr ⟨List.mem_append_right _ (List.mem_append_right _ (List.mem_append_right _ (List.mem_append_right _ (List.mem_append_left _ (List.mem_of_getElem? (i := 79) rfl))))), rfl⟩
theorem kw_801 : Cond.instanceMethod yCopyPlan_remove ∈ xW := List.mem_filter.mpr ⟨List.mem_append_right _ (List.mem_append_right _ (List.mem_append_right _ (List.mem_append_right _ (List.mem_append_left _ (List.mem_of_getElem? (i := 81) rfl))))), rfl⟩
theorem ks_3_1 : Cond.selects "OnceNamed$CopyPlan" yCopyPlan_remove yCopyPlan_remove ∈ xW := List.mem_filter.mpr ⟨List.mem_append_left _ (List.mem_map.mpr ⟨(⟨"OnceNamed$CopyPlan", "remove", "(I)V"⟩, 6), List.mem_append_right _ (List.mem_append_right _ (List.mem_append_left _ (List.mem_of_getElem? (i := 1) rfl))), rfl⟩), rfl⟩
theorem kw_803 : Cond.methodLink "OnceNamed$CopyPlan" 49 yCopyPlan_readFromCopy ∈ xW := List.mem_filter.mpr ⟨List.mem_append_right _ (List.mem_append_right _ (List.mem_append_right _ (List.mem_append_right _ (List.mem_append_left _ (List.mem_of_getElem? (i := 83) rfl))))), rfl⟩
theorem kw_805 : Cond.instanceMethod yCopyPlan_readFromCopy ∈ xW := List.mem_filter.mpr ⟨List.mem_append_right _ (List.mem_append_right _ (List.mem_append_right _ (List.mem_append_right _ (List.mem_append_left _ (List.mem_of_getElem? (i := 85) rfl))))), rfl⟩
theorem ks_3_2 : Cond.selects "OnceNamed$CopyPlan" yCopyPlan_readFromCopy yCopyPlan_readFromCopy ∈ xW := List.mem_filter.mpr ⟨List.mem_append_left _ (List.mem_map.mpr ⟨(⟨"OnceNamed$CopyPlan", "readFromCopy", "()V"⟩, 6), List.mem_append_right _ (List.mem_append_right _ (List.mem_append_left _ (List.mem_of_getElem? (i := 2) rfl))), rfl⟩), rfl⟩
theorem kw_810 : Cond.code yCopyPlan_length cCopyPlan_length 1 (some .int) ∈ xW := List.mem_filter.mpr ⟨List.mem_append_right _ (List.mem_append_right _ (List.mem_append_right _ (List.mem_append_right _ (List.mem_append_left _ (List.mem_of_getElem? (i := 90) rfl))))), rfl⟩
theorem kw_865 : Cond.code yCopyPlan_to cCopyPlan_to 2 (some .int) ∈ xW := List.mem_filter.mpr ⟨List.mem_append_right _ (List.mem_append_right _ (List.mem_append_right _ (List.mem_append_right _ (List.mem_append_left _ (List.mem_of_getElem? (i := 145) rfl))))), rfl⟩
theorem kw_869 : Cond.code yCopyPlan_from cCopyPlan_from 2 (some .int) ∈ xW := List.mem_filter.mpr ⟨List.mem_append_right _ (List.mem_append_right _ (List.mem_append_right _ (List.mem_append_right _ (List.mem_append_left _ (List.mem_of_getElem? (i := 149) rfl))))), rfl⟩
theorem kw_197 : Cond.fieldLink "OnceNamed$Runner" 25 "OnceNamed$Runner" "values" "[I" ∈ xW := List.mem_filter.mpr ⟨List.mem_append_right _ (List.mem_append_left _ (List.mem_of_getElem? (i := 197) rfl)), rfl⟩
theorem kw_195 : Cond.fieldLink "OnceNamed$Runner" 15 "OnceNamed$Runner" "form" "LOnceNamed$NamedForm;" ∈ xW := List.mem_filter.mpr ⟨List.mem_append_right _ (List.mem_append_left _ (List.mem_of_getElem? (i := 195) rfl)), rfl⟩
theorem kw_194 : Cond.fieldLink "OnceNamed$Runner" 9 "OnceNamed$Runner" "program" "LOnceNamed$Program;" ∈ xW := List.mem_filter.mpr ⟨List.mem_append_right _ (List.mem_append_left _ (List.mem_of_getElem? (i := 194) rfl)), rfl⟩
theorem kw_835 : Cond.code yRunner_enterProgram cRunner_enterProgram 2 none ∈ xW := List.mem_filter.mpr ⟨List.mem_append_right _ (List.mem_append_right _ (List.mem_append_right _ (List.mem_append_right _ (List.mem_append_left _ (List.mem_of_getElem? (i := 115) rfl))))), rfl⟩
theorem kw_836 : Cond.methodLink "OnceNamed$Runner" 72 yArrays_fill ∈ xW := List.mem_filter.mpr ⟨List.mem_append_right _ (List.mem_append_right _ (List.mem_append_right _ (List.mem_append_right _ (List.mem_append_left _ (List.mem_of_getElem? (i := 116) rfl))))), rfl⟩
theorem kw_837 : Cond.methodLink "OnceNamed$Runner" 78 yNamedForm_entryName ∈ xW := List.mem_filter.mpr ⟨List.mem_append_right _ (List.mem_append_right _ (List.mem_append_right _ (List.mem_append_right _ (List.mem_append_left _ (List.mem_of_getElem? (i := 117) rfl))))), rfl⟩
theorem kw_838 : Cond.instanceMethod yNamedForm_entryName ∈ xW := List.mem_filter.mpr ⟨List.mem_append_right _ (List.mem_append_right _ (List.mem_append_right _ (List.mem_append_right _ (List.mem_append_left _ (List.mem_of_getElem? (i := 118) rfl))))), rfl⟩
theorem kw_839 : Cond.selects "OnceNamed$NamedForm" yNamedForm_entryName yNamedForm_entryName ∈ xW := List.mem_filter.mpr ⟨List.mem_append_right _ (List.mem_append_right _ (List.mem_append_right _ (List.mem_append_right _ (List.mem_append_left _ (List.mem_of_getElem? (i := 119) rfl))))), rfl⟩
theorem kw_841 : Cond.methodLink "OnceNamed$Runner" 83 yProgram_startOf ∈ xW := List.mem_filter.mpr ⟨List.mem_append_right _ (List.mem_append_right _ (List.mem_append_right _ (List.mem_append_right _ (List.mem_append_left _ (List.mem_of_getElem? (i := 121) rfl))))), rfl⟩
theorem kw_842 : Cond.instanceMethod yProgram_startOf ∈ xW := List.mem_filter.mpr ⟨List.mem_append_right _ (List.mem_append_right _ (List.mem_append_right _ (List.mem_append_right _ (List.mem_append_left _ (List.mem_of_getElem? (i := 122) rfl))))), rfl⟩
theorem kw_843 : Cond.selects "OnceNamed$Program" yProgram_startOf yProgram_startOf ∈ xW := List.mem_filter.mpr ⟨List.mem_append_right _ (List.mem_append_right _ (List.mem_append_right _ (List.mem_append_right _ (List.mem_append_left _ (List.mem_of_getElem? (i := 123) rfl))))), rfl⟩
theorem kw_854 : Cond.code yRunner_valueOf cRunner_valueOf 2 (some .int) ∈ xW := List.mem_filter.mpr ⟨List.mem_append_right _ (List.mem_append_right _ (List.mem_append_right _ (List.mem_append_right _ (List.mem_append_left _ (List.mem_of_getElem? (i := 134) rfl))))), rfl⟩
theorem kw_905 : Cond.code yRunner_reckon cRunner_reckon 3 (some .int) ∈ xW := List.mem_filter.mpr ⟨List.mem_append_right _ (List.mem_append_right _ (List.mem_append_right _ (List.mem_append_right _ (List.mem_append_left _ (List.mem_of_getElem? (i := 185) rfl))))), rfl⟩
theorem kw_889 : Cond.code yRunner_doStep cRunner_doStep 10 none ∈ xW := List.mem_filter.mpr ⟨List.mem_append_right _ (List.mem_append_right _ (List.mem_append_right _ (List.mem_append_right _ (List.mem_append_left _ (List.mem_of_getElem? (i := 169) rfl))))), rfl⟩
theorem kw_890 : Cond.methodLink "OnceNamed$Runner" 135 yProgram_kindOf ∈ xW := List.mem_filter.mpr ⟨List.mem_append_right _ (List.mem_append_right _ (List.mem_append_right _ (List.mem_append_right _ (List.mem_append_left _ (List.mem_of_getElem? (i := 170) rfl))))), rfl⟩
theorem kw_851 : Cond.methodLink "OnceNamed$Runner" 90 yRunner_valueOf ∈ xW := List.mem_filter.mpr ⟨List.mem_append_right _ (List.mem_append_right _ (List.mem_append_right _ (List.mem_append_right _ (List.mem_append_left _ (List.mem_of_getElem? (i := 131) rfl))))), rfl⟩
theorem kw_853 : Cond.instanceMethod yRunner_valueOf ∈ xW := List.mem_filter.mpr ⟨List.mem_append_right _ (List.mem_append_right _ (List.mem_append_right _ (List.mem_append_right _ (List.mem_append_left _ (List.mem_of_getElem? (i := 133) rfl))))), rfl⟩
theorem ks_3_6 : Cond.selects "OnceNamed$Runner" yRunner_valueOf yRunner_valueOf ∈ xW := List.mem_filter.mpr ⟨List.mem_append_left _ (List.mem_map.mpr ⟨(⟨"OnceNamed$Runner", "valueOf", "(I)I"⟩, 6), List.mem_append_right _ (List.mem_append_right _ (List.mem_append_left _ (List.mem_of_getElem? (i := 6) rfl))), rfl⟩), rfl⟩
theorem kw_8 : Cond.initialized "OnceNamed$Runner" ∈ xW := List.mem_filter.mpr ⟨List.mem_append_right _ (List.mem_append_left _ (List.mem_of_getElem? (i := 8) rfl)), rfl⟩
theorem kw_903 : Cond.methodLink "OnceNamed$Runner" 144 yRunner_reckon ∈ xW := List.mem_filter.mpr ⟨List.mem_append_right _ (List.mem_append_right _ (List.mem_append_right _ (List.mem_append_right _ (List.mem_append_left _ (List.mem_of_getElem? (i := 183) rfl))))), rfl⟩
theorem kw_904 : Cond.static yRunner_reckon ∈ xW := List.mem_filter.mpr ⟨List.mem_append_right _ (List.mem_append_right _ (List.mem_append_right _ (List.mem_append_right _ (List.mem_append_left _ (List.mem_of_getElem? (i := 184) rfl))))), rfl⟩
theorem kw_899 : Cond.methodLink "OnceNamed$Runner" 141 yProgram_numberPut ∈ xW := List.mem_filter.mpr ⟨List.mem_append_right _ (List.mem_append_right _ (List.mem_append_right _ (List.mem_append_right _ (List.mem_append_left _ (List.mem_of_getElem? (i := 179) rfl))))), rfl⟩
theorem kw_900 : Cond.instanceMethod yProgram_numberPut ∈ xW := List.mem_filter.mpr ⟨List.mem_append_right _ (List.mem_append_right _ (List.mem_append_right _ (List.mem_append_right _ (List.mem_append_left _ (List.mem_of_getElem? (i := 180) rfl))))), rfl⟩
theorem kw_901 : Cond.selects "OnceNamed$Program" yProgram_numberPut yProgram_numberPut ∈ xW := List.mem_filter.mpr ⟨List.mem_append_right _ (List.mem_append_right _ (List.mem_append_right _ (List.mem_append_right _ (List.mem_append_left _ (List.mem_of_getElem? (i := 181) rfl))))), rfl⟩
theorem kw_895 : Cond.methodLink "OnceNamed$Runner" 68 yTalk_fail ∈ xW := List.mem_filter.mpr ⟨List.mem_append_right _ (List.mem_append_right _ (List.mem_append_right _ (List.mem_append_right _ (List.mem_append_left _ (List.mem_of_getElem? (i := 175) rfl))))), rfl⟩
theorem kw_896 : Cond.instanceMethod yTalk_fail ∈ xW := List.mem_filter.mpr ⟨List.mem_append_right _ (List.mem_append_right _ (List.mem_append_right _ (List.mem_append_right _ (List.mem_append_left _ (List.mem_of_getElem? (i := 176) rfl))))), rfl⟩
theorem kw_897 : Cond.selects "OnceNamed$Talk" yTalk_fail yTalk_fail ∈ xW := List.mem_filter.mpr ⟨List.mem_append_right _ (List.mem_append_right _ (List.mem_append_right _ (List.mem_append_right _ (List.mem_append_left _ (List.mem_of_getElem? (i := 177) rfl))))), rfl⟩
theorem kw_9 : Cond.initialized "OnceNamed$Talk" ∈ xW := List.mem_filter.mpr ⟨List.mem_append_right _ (List.mem_append_left _ (List.mem_of_getElem? (i := 9) rfl)), rfl⟩
theorem kw_891 : Cond.methodLink "OnceNamed$Runner" 138 yTalk_say ∈ xW := List.mem_filter.mpr ⟨List.mem_append_right _ (List.mem_append_right _ (List.mem_append_right _ (List.mem_append_right _ (List.mem_append_left _ (List.mem_of_getElem? (i := 171) rfl))))), rfl⟩
theorem kw_892 : Cond.instanceMethod yTalk_say ∈ xW := List.mem_filter.mpr ⟨List.mem_append_right _ (List.mem_append_right _ (List.mem_append_right _ (List.mem_append_right _ (List.mem_append_left _ (List.mem_of_getElem? (i := 172) rfl))))), rfl⟩
theorem kw_893 : Cond.selects "OnceNamed$Talk" yTalk_say yTalk_say ∈ xW := List.mem_filter.mpr ⟨List.mem_append_right _ (List.mem_append_right _ (List.mem_append_right _ (List.mem_append_right _ (List.mem_append_left _ (List.mem_of_getElem? (i := 173) rfl))))), rfl⟩
theorem kw_883 : Cond.code yRunner_placeOf cRunner_placeOf 2 (some .int) ∈ xW := List.mem_filter.mpr ⟨List.mem_append_right _ (List.mem_append_right _ (List.mem_append_right _ (List.mem_append_right _ (List.mem_append_left _ (List.mem_of_getElem? (i := 163) rfl))))), rfl⟩
theorem kw_199 : Cond.fieldLink "OnceNamed$Runner" 32 "OnceNamed$Runner" "way" "I" ∈ xW := List.mem_filter.mpr ⟨List.mem_append_right _ (List.mem_append_left _ (List.mem_of_getElem? (i := 199) rfl)), rfl⟩
theorem kw_873 : Cond.code yRunner_doSteps cRunner_doSteps 6 none ∈ xW := List.mem_filter.mpr ⟨List.mem_append_right _ (List.mem_append_right _ (List.mem_append_right _ (List.mem_append_right _ (List.mem_append_left _ (List.mem_of_getElem? (i := 153) rfl))))), rfl⟩
theorem kw_874 : Cond.methodLink "OnceNamed$Runner" 110 yProgram_stepsOf ∈ xW := List.mem_filter.mpr ⟨List.mem_append_right _ (List.mem_append_right _ (List.mem_append_right _ (List.mem_append_right _ (List.mem_append_left _ (List.mem_of_getElem? (i := 154) rfl))))), rfl⟩
theorem kw_875 : Cond.methodLink "OnceNamed$Runner" 61 yTalk_outcome ∈ xW := List.mem_filter.mpr ⟨List.mem_append_right _ (List.mem_append_right _ (List.mem_append_right _ (List.mem_append_right _ (List.mem_append_left _ (List.mem_of_getElem? (i := 155) rfl))))), rfl⟩
theorem kw_876 : Cond.instanceMethod yTalk_outcome ∈ xW := List.mem_filter.mpr ⟨List.mem_append_right _ (List.mem_append_right _ (List.mem_append_right _ (List.mem_append_right _ (List.mem_append_left _ (List.mem_of_getElem? (i := 156) rfl))))), rfl⟩
theorem kw_877 : Cond.selects "OnceNamed$Talk" yTalk_outcome yTalk_outcome ∈ xW := List.mem_filter.mpr ⟨List.mem_append_right _ (List.mem_append_right _ (List.mem_append_right _ (List.mem_append_right _ (List.mem_append_left _ (List.mem_of_getElem? (i := 157) rfl))))), rfl⟩
theorem kw_906 : Cond.methodLink "OnceNamed$Runner" 129 yNamedForm_stepUse ∈ xW := List.mem_filter.mpr ⟨List.mem_append_right _ (List.mem_append_right _ (List.mem_append_right _ (List.mem_append_right _ (List.mem_append_left _ (List.mem_of_getElem? (i := 186) rfl))))), rfl⟩
theorem kw_721 : Cond.instanceMethod yNamedForm_stepUse ∈ xW := List.mem_filter.mpr ⟨List.mem_append_right _ (List.mem_append_right _ (List.mem_append_right _ (List.mem_append_right _ (List.mem_append_left _ (List.mem_of_getElem? (i := 1) rfl))))), rfl⟩
theorem kw_722 : Cond.selects "OnceNamed$NamedForm" yNamedForm_stepUse yNamedForm_stepUse ∈ xW := List.mem_filter.mpr ⟨List.mem_append_right _ (List.mem_append_right _ (List.mem_append_right _ (List.mem_append_right _ (List.mem_append_left _ (List.mem_of_getElem? (i := 2) rfl))))), rfl⟩
theorem kw_907 : Cond.methodLink "OnceNamed$Runner" 132 yNamedForm_nameSet ∈ xW := List.mem_filter.mpr ⟨List.mem_append_right _ (List.mem_append_right _ (List.mem_append_right _ (List.mem_append_right _ (List.mem_append_left _ (List.mem_of_getElem? (i := 187) rfl))))), rfl⟩
theorem kw_697 : Cond.instanceMethod yNamedForm_nameSet ∈ xW := List.mem_filter.mpr ⟨List.mem_append_right _ (List.mem_append_right _ (List.mem_append_right _ (List.mem_append_left _ (List.mem_of_getElem? (i := 217) rfl)))), rfl⟩
theorem kw_698 : Cond.selects "OnceNamed$NamedForm" yNamedForm_nameSet yNamedForm_nameSet ∈ xW := List.mem_filter.mpr ⟨List.mem_append_right _ (List.mem_append_right _ (List.mem_append_right _ (List.mem_append_left _ (List.mem_of_getElem? (i := 218) rfl)))), rfl⟩
theorem kw_886 : Cond.methodLink "OnceNamed$Runner" 125 yRunner_doStep ∈ xW := List.mem_filter.mpr ⟨List.mem_append_right _ (List.mem_append_right _ (List.mem_append_right _ (List.mem_append_right _ (List.mem_append_left _ (List.mem_of_getElem? (i := 166) rfl))))), rfl⟩
theorem kw_888 : Cond.instanceMethod yRunner_doStep ∈ xW := List.mem_filter.mpr ⟨List.mem_append_right _ (List.mem_append_right _ (List.mem_append_right _ (List.mem_append_right _ (List.mem_append_left _ (List.mem_of_getElem? (i := 168) rfl))))), rfl⟩
theorem ks_3_10 : Cond.selects "OnceNamed$Runner" yRunner_doStep yRunner_doStep ∈ xW := List.mem_filter.mpr ⟨List.mem_append_left _ (List.mem_map.mpr ⟨(⟨"OnceNamed$Runner", "doStep", "(IIIIILOnceNamed$Talk;)V"⟩, 6), List.mem_append_right _ (List.mem_append_right _ (List.mem_append_left _ (List.mem_of_getElem? (i := 10) rfl))), rfl⟩), rfl⟩
theorem kw_879 : Cond.methodLink "OnceNamed$Runner" 113 yProgram_firstVariable ∈ xW := List.mem_filter.mpr ⟨List.mem_append_right _ (List.mem_append_right _ (List.mem_append_right _ (List.mem_append_right _ (List.mem_append_left _ (List.mem_of_getElem? (i := 159) rfl))))), rfl⟩
theorem kw_880 : Cond.methodLink "OnceNamed$Runner" 116 yRunner_placeOf ∈ xW := List.mem_filter.mpr ⟨List.mem_append_right _ (List.mem_append_right _ (List.mem_append_right _ (List.mem_append_right _ (List.mem_append_left _ (List.mem_of_getElem? (i := 160) rfl))))), rfl⟩
theorem kw_882 : Cond.instanceMethod yRunner_placeOf ∈ xW := List.mem_filter.mpr ⟨List.mem_append_right _ (List.mem_append_right _ (List.mem_append_right _ (List.mem_append_right _ (List.mem_append_left _ (List.mem_of_getElem? (i := 162) rfl))))), rfl⟩
theorem ks_3_9 : Cond.selects "OnceNamed$Runner" yRunner_placeOf yRunner_placeOf ∈ xW := List.mem_filter.mpr ⟨List.mem_append_left _ (List.mem_map.mpr ⟨(⟨"OnceNamed$Runner", "placeOf", "(I)I"⟩, 6), List.mem_append_right _ (List.mem_append_right _ (List.mem_append_left _ (List.mem_of_getElem? (i := 9) rfl))), rfl⟩), rfl⟩
theorem kw_884 : Cond.methodLink "OnceNamed$Runner" 119 yProgram_secondVariable ∈ xW := List.mem_filter.mpr ⟨List.mem_append_right _ (List.mem_append_right _ (List.mem_append_right _ (List.mem_append_right _ (List.mem_append_left _ (List.mem_of_getElem? (i := 164) rfl))))), rfl⟩
theorem kw_885 : Cond.methodLink "OnceNamed$Runner" 122 yProgram_variableSet ∈ xW := List.mem_filter.mpr ⟨List.mem_append_right _ (List.mem_append_right _ (List.mem_append_right _ (List.mem_append_right _ (List.mem_append_left _ (List.mem_of_getElem? (i := 165) rfl))))), rfl⟩
theorem kw_911 : Cond.code yRunner_nextBlock cRunner_nextBlock 3 (some .int) ∈ xW := List.mem_filter.mpr ⟨List.mem_append_right _ (List.mem_append_right _ (List.mem_append_right _ (List.mem_append_right _ (List.mem_append_left _ (List.mem_of_getElem? (i := 191) rfl))))), rfl⟩
theorem kw_914 : Cond.methodLink "OnceNamed$Runner" 153 yProgram_blockAfter ∈ xW := List.mem_filter.mpr ⟨List.mem_append_right _ (List.mem_append_right _ (List.mem_append_right _ (List.mem_append_right _ (List.mem_append_left _ (List.mem_of_getElem? (i := 194) rfl))))), rfl⟩
theorem kw_915 : Cond.instanceMethod yProgram_blockAfter ∈ xW := List.mem_filter.mpr ⟨List.mem_append_right _ (List.mem_append_right _ (List.mem_append_right _ (List.mem_append_right _ (List.mem_append_left _ (List.mem_of_getElem? (i := 195) rfl))))), rfl⟩
theorem kw_916 : Cond.selects "OnceNamed$Program" yProgram_blockAfter yProgram_blockAfter ∈ xW := List.mem_filter.mpr ⟨List.mem_append_right _ (List.mem_append_right _ (List.mem_append_right _ (List.mem_append_right _ (List.mem_append_left _ (List.mem_of_getElem? (i := 196) rfl))))), rfl⟩
theorem kw_913 : Cond.methodLink "OnceNamed$Runner" 150 yNamedForm_endUse ∈ xW := List.mem_filter.mpr ⟨List.mem_append_right _ (List.mem_append_right _ (List.mem_append_right _ (List.mem_append_right _ (List.mem_append_left _ (List.mem_of_getElem? (i := 193) rfl))))), rfl⟩
theorem kw_717 : Cond.instanceMethod yNamedForm_endUse ∈ xW := List.mem_filter.mpr ⟨List.mem_append_right _ (List.mem_append_right _ (List.mem_append_right _ (List.mem_append_left _ (List.mem_of_getElem? (i := 237) rfl)))), rfl⟩
theorem kw_718 : Cond.selects "OnceNamed$NamedForm" yNamedForm_endUse yNamedForm_endUse ∈ xW := List.mem_filter.mpr ⟨List.mem_append_right _ (List.mem_append_right _ (List.mem_append_right _ (List.mem_append_left _ (List.mem_of_getElem? (i := 238) rfl)))), rfl⟩
theorem kw_912 : Cond.methodLink "OnceNamed$Runner" 147 yProgram_variableOfFork ∈ xW := List.mem_filter.mpr ⟨List.mem_append_right _ (List.mem_append_right _ (List.mem_append_right _ (List.mem_append_right _ (List.mem_append_left _ (List.mem_of_getElem? (i := 192) rfl))))), rfl⟩
theorem kw_196 : Cond.fieldLink "OnceNamed$Runner" 19 "OnceNamed$Runner" "plan" "LOnceNamed$CopyPlan;" ∈ xW := List.mem_filter.mpr ⟨List.mem_append_right _ (List.mem_append_left _ (List.mem_of_getElem? (i := 196) rfl)), rfl⟩
theorem kw_859 : Cond.code yRunner_setByCopies cRunner_setByCopies 4 none ∈ xW := List.mem_filter.mpr ⟨List.mem_append_right _ (List.mem_append_right _ (List.mem_append_right _ (List.mem_append_right _ (List.mem_append_left _ (List.mem_of_getElem? (i := 139) rfl))))), rfl⟩
theorem kw_860 : Cond.methodLink "OnceNamed$Runner" 97 yCopyPlan_draw ∈ xW := List.mem_filter.mpr ⟨List.mem_append_right _ (List.mem_append_right _ (List.mem_append_right _ (List.mem_append_right _ (List.mem_append_left _ (List.mem_of_getElem? (i := 140) rfl))))), rfl⟩
theorem kw_778 : Cond.instanceMethod yCopyPlan_draw ∈ xW := List.mem_filter.mpr ⟨List.mem_append_right _ (List.mem_append_right _ (List.mem_append_right _ (List.mem_append_right _ (List.mem_append_left _ (List.mem_of_getElem? (i := 58) rfl))))), rfl⟩
theorem kw_779 : Cond.selects "OnceNamed$CopyPlan" yCopyPlan_draw yCopyPlan_draw ∈ xW := List.mem_filter.mpr ⟨List.mem_append_right _ (List.mem_append_right _ (List.mem_append_right _ (List.mem_append_right _ (List.mem_append_left _ (List.mem_of_getElem? (i := 59) rfl))))), rfl⟩
theorem kw_861 : Cond.methodLink "OnceNamed$Runner" 101 yCopyPlan_length ∈ xW := List.mem_filter.mpr ⟨List.mem_append_right _ (List.mem_append_right _ (List.mem_append_right _ (List.mem_append_right _ (List.mem_append_left _ (List.mem_of_getElem? (i := 141) rfl))))), rfl⟩
theorem kw_808 : Cond.instanceMethod yCopyPlan_length ∈ xW := List.mem_filter.mpr ⟨List.mem_append_right _ (List.mem_append_right _ (List.mem_append_right _ (List.mem_append_right _ (List.mem_append_left _ (List.mem_of_getElem? (i := 88) rfl))))), rfl⟩
theorem kw_809 : Cond.selects "OnceNamed$CopyPlan" yCopyPlan_length yCopyPlan_length ∈ xW := List.mem_filter.mpr ⟨List.mem_append_right _ (List.mem_append_right _ (List.mem_append_right _ (List.mem_append_right _ (List.mem_append_left _ (List.mem_of_getElem? (i := 89) rfl))))), rfl⟩
theorem kw_862 : Cond.methodLink "OnceNamed$Runner" 104 yCopyPlan_to ∈ xW := List.mem_filter.mpr ⟨List.mem_append_right _ (List.mem_append_right _ (List.mem_append_right _ (List.mem_append_right _ (List.mem_append_left _ (List.mem_of_getElem? (i := 142) rfl))))), rfl⟩
theorem kw_863 : Cond.instanceMethod yCopyPlan_to ∈ xW := List.mem_filter.mpr ⟨List.mem_append_right _ (List.mem_append_right _ (List.mem_append_right _ (List.mem_append_right _ (List.mem_append_left _ (List.mem_of_getElem? (i := 143) rfl))))), rfl⟩
theorem kw_864 : Cond.selects "OnceNamed$CopyPlan" yCopyPlan_to yCopyPlan_to ∈ xW := List.mem_filter.mpr ⟨List.mem_append_right _ (List.mem_append_right _ (List.mem_append_right _ (List.mem_append_right _ (List.mem_append_left _ (List.mem_of_getElem? (i := 144) rfl))))), rfl⟩
theorem kw_866 : Cond.methodLink "OnceNamed$Runner" 107 yCopyPlan_from ∈ xW := List.mem_filter.mpr ⟨List.mem_append_right _ (List.mem_append_right _ (List.mem_append_right _ (List.mem_append_right _ (List.mem_append_left _ (List.mem_of_getElem? (i := 146) rfl))))), rfl⟩
theorem kw_867 : Cond.instanceMethod yCopyPlan_from ∈ xW := List.mem_filter.mpr ⟨List.mem_append_right _ (List.mem_append_right _ (List.mem_append_right _ (List.mem_append_right _ (List.mem_append_left _ (List.mem_of_getElem? (i := 147) rfl))))), rfl⟩
theorem kw_868 : Cond.selects "OnceNamed$CopyPlan" yCopyPlan_from yCopyPlan_from ∈ xW := List.mem_filter.mpr ⟨List.mem_append_right _ (List.mem_append_right _ (List.mem_append_right _ (List.mem_append_right _ (List.mem_append_left _ (List.mem_of_getElem? (i := 148) rfl))))), rfl⟩
theorem kw_198 : Cond.fieldLink "OnceNamed$Runner" 29 "OnceNamed$Runner" "arriving" "[I" ∈ xW := List.mem_filter.mpr ⟨List.mem_append_right _ (List.mem_append_left _ (List.mem_of_getElem? (i := 198) rfl)), rfl⟩
theorem kw_849 : Cond.code yRunner_setAtOnce cRunner_setAtOnce 4 none ∈ xW := List.mem_filter.mpr ⟨List.mem_append_right _ (List.mem_append_right _ (List.mem_append_right _ (List.mem_append_right _ (List.mem_append_left _ (List.mem_of_getElem? (i := 129) rfl))))), rfl⟩
theorem kw_850 : Cond.methodLink "OnceNamed$Runner" 86 yNamedForm_meetingUse ∈ xW := List.mem_filter.mpr ⟨List.mem_append_right _ (List.mem_append_right _ (List.mem_append_right _ (List.mem_append_right _ (List.mem_append_left _ (List.mem_of_getElem? (i := 130) rfl))))), rfl⟩
theorem kw_855 : Cond.methodLink "OnceNamed$Runner" 93 yNamedForm_meetingName ∈ xW := List.mem_filter.mpr ⟨List.mem_append_right _ (List.mem_append_right _ (List.mem_append_right _ (List.mem_append_right _ (List.mem_append_left _ (List.mem_of_getElem? (i := 135) rfl))))), rfl⟩
theorem kw_827 : Cond.code yRunner_perform cRunner_perform 6 none ∈ xW := List.mem_filter.mpr ⟨List.mem_append_right _ (List.mem_append_right _ (List.mem_append_right _ (List.mem_append_right _ (List.mem_append_left _ (List.mem_of_getElem? (i := 107) rfl))))), rfl⟩
theorem kw_828 : Cond.methodLink "OnceNamed$Runner" 36 yTalk_begin ∈ xW := List.mem_filter.mpr ⟨List.mem_append_right _ (List.mem_append_right _ (List.mem_append_right _ (List.mem_append_right _ (List.mem_append_left _ (List.mem_of_getElem? (i := 108) rfl))))), rfl⟩
theorem kw_829 : Cond.instanceMethod yTalk_begin ∈ xW := List.mem_filter.mpr ⟨List.mem_append_right _ (List.mem_append_right _ (List.mem_append_right _ (List.mem_append_right _ (List.mem_append_left _ (List.mem_of_getElem? (i := 109) rfl))))), rfl⟩
theorem kw_830 : Cond.selects "OnceNamed$Talk" yTalk_begin yTalk_begin ∈ xW := List.mem_filter.mpr ⟨List.mem_append_right _ (List.mem_append_right _ (List.mem_append_right _ (List.mem_append_right _ (List.mem_append_left _ (List.mem_of_getElem? (i := 110) rfl))))), rfl⟩
theorem kw_832 : Cond.methodLink "OnceNamed$Runner" 41 yRunner_enterProgram ∈ xW := List.mem_filter.mpr ⟨List.mem_append_right _ (List.mem_append_right _ (List.mem_append_right _ (List.mem_append_right _ (List.mem_append_left _ (List.mem_of_getElem? (i := 112) rfl))))), rfl⟩
theorem kw_834 : Cond.instanceMethod yRunner_enterProgram ∈ xW := List.mem_filter.mpr ⟨List.mem_append_right _ (List.mem_append_right _ (List.mem_append_right _ (List.mem_append_right _ (List.mem_append_left _ (List.mem_of_getElem? (i := 114) rfl))))), rfl⟩
theorem ks_3_4 : Cond.selects "OnceNamed$Runner" yRunner_enterProgram yRunner_enterProgram ∈ xW := List.mem_filter.mpr ⟨List.mem_append_left _ (List.mem_map.mpr ⟨(⟨"OnceNamed$Runner", "enterProgram", "()V"⟩, 6), List.mem_append_right _ (List.mem_append_right _ (List.mem_append_left _ (List.mem_of_getElem? (i := 4) rfl))), rfl⟩), rfl⟩
theorem kw_845 : Cond.methodLink "OnceNamed$Runner" 44 yProgram_blockCount ∈ xW := List.mem_filter.mpr ⟨List.mem_append_right _ (List.mem_append_right _ (List.mem_append_right _ (List.mem_append_right _ (List.mem_append_left _ (List.mem_of_getElem? (i := 125) rfl))))), rfl⟩
theorem kw_117 : Cond.instanceMethod yProgram_blockCount ∈ xW := List.mem_filter.mpr ⟨List.mem_append_right _ (List.mem_append_left _ (List.mem_of_getElem? (i := 117) rfl)), rfl⟩
theorem kw_118 : Cond.selects "OnceNamed$Program" yProgram_blockCount yProgram_blockCount ∈ xW := List.mem_filter.mpr ⟨List.mem_append_right _ (List.mem_append_left _ (List.mem_of_getElem? (i := 118) rfl)), rfl⟩
theorem kw_870 : Cond.methodLink "OnceNamed$Runner" 57 yRunner_doSteps ∈ xW := List.mem_filter.mpr ⟨List.mem_append_right _ (List.mem_append_right _ (List.mem_append_right _ (List.mem_append_right _ (List.mem_append_left _ (List.mem_of_getElem? (i := 150) rfl))))), rfl⟩
theorem kw_872 : Cond.instanceMethod yRunner_doSteps ∈ xW := List.mem_filter.mpr ⟨List.mem_append_right _ (List.mem_append_right _ (List.mem_append_right _ (List.mem_append_right _ (List.mem_append_left _ (List.mem_of_getElem? (i := 152) rfl))))), rfl⟩
theorem ks_3_8 : Cond.selects "OnceNamed$Runner" yRunner_doSteps yRunner_doSteps ∈ xW := List.mem_filter.mpr ⟨List.mem_append_left _ (List.mem_map.mpr ⟨(⟨"OnceNamed$Runner", "doSteps", "(ILOnceNamed$Talk;)V"⟩, 6), List.mem_append_right _ (List.mem_append_right _ (List.mem_append_left _ (List.mem_of_getElem? (i := 8) rfl))), rfl⟩), rfl⟩
theorem kw_908 : Cond.methodLink "OnceNamed$Runner" 64 yRunner_nextBlock ∈ xW := List.mem_filter.mpr ⟨List.mem_append_right _ (List.mem_append_right _ (List.mem_append_right _ (List.mem_append_right _ (List.mem_append_left _ (List.mem_of_getElem? (i := 188) rfl))))), rfl⟩
theorem kw_910 : Cond.instanceMethod yRunner_nextBlock ∈ xW := List.mem_filter.mpr ⟨List.mem_append_right _ (List.mem_append_right _ (List.mem_append_right _ (List.mem_append_right _ (List.mem_append_left _ (List.mem_of_getElem? (i := 190) rfl))))), rfl⟩
theorem ks_3_11 : Cond.selects "OnceNamed$Runner" yRunner_nextBlock yRunner_nextBlock ∈ xW := List.mem_filter.mpr ⟨List.mem_append_left _ (List.mem_map.mpr ⟨(⟨"OnceNamed$Runner", "nextBlock", "(I)I"⟩, 6), List.mem_append_right _ (List.mem_append_right _ (List.mem_append_left _ (List.mem_of_getElem? (i := 11) rfl))), rfl⟩), rfl⟩
theorem kw_856 : Cond.methodLink "OnceNamed$Runner" 54 yRunner_setByCopies ∈ xW := List.mem_filter.mpr ⟨List.mem_append_right _ (List.mem_append_right _ (List.mem_append_right _ (List.mem_append_right _ (List.mem_append_left _ (List.mem_of_getElem? (i := 136) rfl))))), rfl⟩
theorem kw_858 : Cond.instanceMethod yRunner_setByCopies ∈ xW := List.mem_filter.mpr ⟨List.mem_append_right _ (List.mem_append_right _ (List.mem_append_right _ (List.mem_append_right _ (List.mem_append_left _ (List.mem_of_getElem? (i := 138) rfl))))), rfl⟩
theorem ks_3_7 : Cond.selects "OnceNamed$Runner" yRunner_setByCopies yRunner_setByCopies ∈ xW := List.mem_filter.mpr ⟨List.mem_append_left _ (List.mem_map.mpr ⟨(⟨"OnceNamed$Runner", "setByCopies", "(II)V"⟩, 6), List.mem_append_right _ (List.mem_append_right _ (List.mem_append_left _ (List.mem_of_getElem? (i := 7) rfl))), rfl⟩), rfl⟩
theorem kw_846 : Cond.methodLink "OnceNamed$Runner" 50 yRunner_setAtOnce ∈ xW := List.mem_filter.mpr ⟨List.mem_append_right _ (List.mem_append_right _ (List.mem_append_right _ (List.mem_append_right _ (List.mem_append_left _ (List.mem_of_getElem? (i := 126) rfl))))), rfl⟩
theorem kw_848 : Cond.instanceMethod yRunner_setAtOnce ∈ xW := List.mem_filter.mpr ⟨List.mem_append_right _ (List.mem_append_right _ (List.mem_append_right _ (List.mem_append_right _ (List.mem_append_left _ (List.mem_of_getElem? (i := 128) rfl))))), rfl⟩
theorem ks_3_5 : Cond.selects "OnceNamed$Runner" yRunner_setAtOnce yRunner_setAtOnce ∈ xW := List.mem_filter.mpr ⟨List.mem_append_left _ (List.mem_map.mpr ⟨(⟨"OnceNamed$Runner", "setAtOnce", "(II)V"⟩, 6), List.mem_append_right _ (List.mem_append_right _ (List.mem_append_left _ (List.mem_of_getElem? (i := 5) rfl))), rfl⟩), rfl⟩
theorem kw_985 : Cond.fieldLink "OnceNamedModel" 99 "OnceNamedModel" "thrown" "I" ∈ xW := List.mem_filter.mpr ⟨List.mem_append_right _ (List.mem_append_right _ (List.mem_append_right _ (List.mem_append_right _ (List.mem_append_right _ (List.mem_append_left _ (List.mem_of_getElem? (i := 25) rfl)))))), rfl⟩
theorem kw_1092 : Cond.code yMd_thrown cMd_thrown 1 (some .int) ∈ xW := List.mem_filter.mpr ⟨List.mem_append_right _ (List.mem_append_right _ (List.mem_append_right _ (List.mem_append_right _ (List.mem_append_right _ (List.mem_append_left _ (List.mem_of_getElem? (i := 132) rfl)))))), rfl⟩
theorem kw_986 : Cond.fieldLink "OnceNamedModel" 95 "OnceNamedModel" "n" "I" ∈ xW := List.mem_filter.mpr ⟨List.mem_append_right _ (List.mem_append_right _ (List.mem_append_right _ (List.mem_append_right _ (List.mem_append_right _ (List.mem_append_left _ (List.mem_of_getElem? (i := 26) rfl)))))), rfl⟩
theorem kw_1100 : Cond.code yMd_noBlock cMd_noBlock 2 (some .boolean) ∈ xW := List.mem_filter.mpr ⟨List.mem_append_right _ (List.mem_append_right _ (List.mem_append_right _ (List.mem_append_right _ (List.mem_append_right _ (List.mem_append_left _ (List.mem_of_getElem? (i := 140) rfl)))))), rfl⟩
theorem kw_1104 : Cond.code yMd_noVariable cMd_noVariable 2 (some .boolean) ∈ xW := List.mem_filter.mpr ⟨List.mem_append_right _ (List.mem_append_right _ (List.mem_append_right _ (List.mem_append_right _ (List.mem_append_right _ (List.mem_append_left _ (List.mem_of_getElem? (i := 144) rfl)))))), rfl⟩
theorem kw_987 : Cond.fieldLink "OnceNamedModel" 7 "OnceNamedModel" "many" "[I" ∈ xW := List.mem_filter.mpr ⟨List.mem_append_right _ (List.mem_append_right _ (List.mem_append_right _ (List.mem_append_right _ (List.mem_append_right _ (List.mem_append_left _ (List.mem_of_getElem? (i := 27) rfl)))))), rfl⟩
theorem kw_988 : Cond.fieldLink "OnceNamedModel" 13 "OnceNamedModel" "kinds" "[I" ∈ xW := List.mem_filter.mpr ⟨List.mem_append_right _ (List.mem_append_right _ (List.mem_append_right _ (List.mem_append_right _ (List.mem_append_right _ (List.mem_append_left _ (List.mem_of_getElem? (i := 28) rfl)))))), rfl⟩
theorem kw_989 : Cond.fieldLink "OnceNamedModel" 16 "OnceNamedModel" "vs" "[I" ∈ xW := List.mem_filter.mpr ⟨List.mem_append_right _ (List.mem_append_right _ (List.mem_append_right _ (List.mem_append_right _ (List.mem_append_right _ (List.mem_append_left _ (List.mem_of_getElem? (i := 29) rfl)))))), rfl⟩
theorem kw_990 : Cond.fieldLink "OnceNamedModel" 19 "OnceNamedModel" "ws" "[I" ∈ xW := List.mem_filter.mpr ⟨List.mem_append_right _ (List.mem_append_right _ (List.mem_append_right _ (List.mem_append_right _ (List.mem_append_right _ (List.mem_append_left _ (List.mem_of_getElem? (i := 30) rfl)))))), rfl⟩
theorem kw_991 : Cond.fieldLink "OnceNamedModel" 22 "OnceNamedModel" "xs" "[I" ∈ xW := List.mem_filter.mpr ⟨List.mem_append_right _ (List.mem_append_right _ (List.mem_append_right _ (List.mem_append_right _ (List.mem_append_right _ (List.mem_append_left _ (List.mem_of_getElem? (i := 31) rfl)))))), rfl⟩
theorem kw_999 : Cond.fieldLink "OnceNamedModel" 109 "OnceNamedModel" "form" "Z" ∈ xW := List.mem_filter.mpr ⟨List.mem_append_right _ (List.mem_append_right _ (List.mem_append_right _ (List.mem_append_right _ (List.mem_append_right _ (List.mem_append_left _ (List.mem_of_getElem? (i := 39) rfl)))))), rfl⟩
theorem kw_1096 : Cond.code yMd_step cMd_step 8 (some .int) ∈ xW := List.mem_filter.mpr ⟨List.mem_append_right _ (List.mem_append_right _ (List.mem_append_right _ (List.mem_append_right _ (List.mem_append_right _ (List.mem_append_left _ (List.mem_of_getElem? (i := 136) rfl)))))), rfl⟩
theorem kw_1097 : Cond.methodLink "OnceNamedModel" 102 yMd_noBlock ∈ xW := List.mem_filter.mpr ⟨List.mem_append_right _ (List.mem_append_right _ (List.mem_append_right _ (List.mem_append_right _ (List.mem_append_right _ (List.mem_append_left _ (List.mem_of_getElem? (i := 137) rfl)))))), rfl⟩
theorem kw_1099 : Cond.instanceMethod yMd_noBlock ∈ xW := List.mem_filter.mpr ⟨List.mem_append_right _ (List.mem_append_right _ (List.mem_append_right _ (List.mem_append_right _ (List.mem_append_right _ (List.mem_append_left _ (List.mem_of_getElem? (i := 139) rfl)))))), rfl⟩
theorem ks_3_12 : Cond.selects "OnceNamedModel" yMd_noBlock yMd_noBlock ∈ xW := List.mem_filter.mpr ⟨List.mem_append_left _ (List.mem_map.mpr ⟨(⟨"OnceNamedModel", "noBlock", "(I)Z"⟩, 34), List.mem_append_right _ (List.mem_append_right _ (List.mem_append_left _ (List.mem_of_getElem? (i := 12) rfl))), rfl⟩), rfl⟩
theorem kw_11 : Cond.initialized "OnceNamedModel" ∈ xW := List.mem_filter.mpr ⟨List.mem_append_right _ (List.mem_append_left _ (List.mem_of_getElem? (i := 11) rfl)), rfl⟩
theorem kw_1101 : Cond.methodLink "OnceNamedModel" 106 yMd_noVariable ∈ xW := List.mem_filter.mpr ⟨List.mem_append_right _ (List.mem_append_right _ (List.mem_append_right _ (List.mem_append_right _ (List.mem_append_right _ (List.mem_append_left _ (List.mem_of_getElem? (i := 141) rfl)))))), rfl⟩
theorem kw_1103 : Cond.instanceMethod yMd_noVariable ∈ xW := List.mem_filter.mpr ⟨List.mem_append_right _ (List.mem_append_right _ (List.mem_append_right _ (List.mem_append_right _ (List.mem_append_right _ (List.mem_append_left _ (List.mem_of_getElem? (i := 143) rfl)))))), rfl⟩
theorem ks_3_13 : Cond.selects "OnceNamedModel" yMd_noVariable yMd_noVariable ∈ xW := List.mem_filter.mpr ⟨List.mem_append_left _ (List.mem_map.mpr ⟨(⟨"OnceNamedModel", "noVariable", "(I)Z"⟩, 34), List.mem_append_right _ (List.mem_append_right _ (List.mem_append_left _ (List.mem_of_getElem? (i := 13) rfl))), rfl⟩), rfl⟩
theorem kw_992 : Cond.fieldLink "OnceNamedModel" 25 "OnceNamedModel" "ends" "[I" ∈ xW := List.mem_filter.mpr ⟨List.mem_append_right _ (List.mem_append_right _ (List.mem_append_right _ (List.mem_append_right _ (List.mem_append_right _ (List.mem_append_left _ (List.mem_of_getElem? (i := 32) rfl)))))), rfl⟩
theorem kw_994 : Cond.fieldLink "OnceNamedModel" 31 "OnceNamedModel" "yes" "[I" ∈ xW := List.mem_filter.mpr ⟨List.mem_append_right _ (List.mem_append_right _ (List.mem_append_right _ (List.mem_append_right _ (List.mem_append_right _ (List.mem_append_left _ (List.mem_of_getElem? (i := 34) rfl)))))), rfl⟩
theorem kw_995 : Cond.fieldLink "OnceNamedModel" 34 "OnceNamedModel" "no" "[I" ∈ xW := List.mem_filter.mpr ⟨List.mem_append_right _ (List.mem_append_right _ (List.mem_append_right _ (List.mem_append_right _ (List.mem_append_right _ (List.mem_append_left _ (List.mem_of_getElem? (i := 35) rfl)))))), rfl⟩
theorem kw_1108 : Cond.code yMd_go cMd_go 3 none ∈ xW := List.mem_filter.mpr ⟨List.mem_append_right _ (List.mem_append_right _ (List.mem_append_right _ (List.mem_append_right _ (List.mem_append_right _ (List.mem_append_left _ (List.mem_of_getElem? (i := 148) rfl)))))), rfl⟩
theorem kw_993 : Cond.fieldLink "OnceNamedModel" 28 "OnceNamedModel" "endVariable" "[I" ∈ xW := List.mem_filter.mpr ⟨List.mem_append_right _ (List.mem_append_right _ (List.mem_append_right _ (List.mem_append_right _ (List.mem_append_right _ (List.mem_append_left _ (List.mem_of_getElem? (i := 33) rfl)))))), rfl⟩
theorem kw_1112 : Cond.code yMd_fork cMd_fork 5 none ∈ xW := List.mem_filter.mpr ⟨List.mem_append_right _ (List.mem_append_right _ (List.mem_append_right _ (List.mem_append_right _ (List.mem_append_right _ (List.mem_append_left _ (List.mem_of_getElem? (i := 152) rfl)))))), rfl⟩
theorem kw_1116 : Cond.code yMd_stop cMd_stop 2 none ∈ xW := List.mem_filter.mpr ⟨List.mem_append_right _ (List.mem_append_right _ (List.mem_append_right _ (List.mem_append_right _ (List.mem_append_right _ (List.mem_append_left _ (List.mem_of_getElem? (i := 156) rfl)))))), rfl⟩
theorem kw_996 : Cond.fieldLink "OnceNamedModel" 37 "OnceNamedModel" "starts" "[I" ∈ xW := List.mem_filter.mpr ⟨List.mem_append_right _ (List.mem_append_right _ (List.mem_append_right _ (List.mem_append_right _ (List.mem_append_right _ (List.mem_append_left _ (List.mem_of_getElem? (i := 36) rfl)))))), rfl⟩
theorem kw_1120 : Cond.code yMd_start cMd_start 3 none ∈ xW := List.mem_filter.mpr ⟨List.mem_append_right _ (List.mem_append_right _ (List.mem_append_right _ (List.mem_append_right _ (List.mem_append_right _ (List.mem_append_left _ (List.mem_of_getElem? (i := 160) rfl)))))), rfl⟩
theorem kw_1136 : Cond.code yMd_has cMd_has 3 (some .boolean) ∈ xW := List.mem_filter.mpr ⟨List.mem_append_right _ (List.mem_append_right _ (List.mem_append_right _ (List.mem_append_right _ (List.mem_append_right _ (List.mem_append_left _ (List.mem_of_getElem? (i := 176) rfl)))))), rfl⟩
theorem kw_1164 : Cond.code yMd_follows cMd_follows 3 (some .boolean) ∈ xW := List.mem_filter.mpr ⟨List.mem_append_right _ (List.mem_append_right _ (List.mem_append_right _ (List.mem_append_right _ (List.mem_append_right _ (List.mem_append_left _ (List.mem_of_getElem? (i := 204) rfl)))))), rfl⟩
theorem kw_1132 : Cond.code yMd_reachedWithout cMd_reachedWithout 5 (some .int) ∈ xW := List.mem_filter.mpr ⟨List.mem_append_right _ (List.mem_append_right _ (List.mem_append_right _ (List.mem_append_right _ (List.mem_append_right _ (List.mem_append_left _ (List.mem_of_getElem? (i := 172) rfl)))))), rfl⟩
theorem kw_1133 : Cond.methodLink "OnceNamedModel" 113 yMd_has ∈ xW := List.mem_filter.mpr ⟨List.mem_append_right _ (List.mem_append_right _ (List.mem_append_right _ (List.mem_append_right _ (List.mem_append_right _ (List.mem_append_left _ (List.mem_of_getElem? (i := 173) rfl)))))), rfl⟩
theorem kw_1135 : Cond.instanceMethod yMd_has ∈ xW := List.mem_filter.mpr ⟨List.mem_append_right _ (List.mem_append_right _ (List.mem_append_right _ (List.mem_append_right _ (List.mem_append_right _ (List.mem_append_left _ (List.mem_of_getElem? (i := 175) rfl)))))), rfl⟩
theorem ks_4_0 : Cond.selects "OnceNamedModel" yMd_has yMd_has ∈ xW := List.mem_filter.mpr ⟨List.mem_append_left _ (List.mem_map.mpr ⟨(⟨"OnceNamedModel", "has", "(II)Z"⟩, 34), List.mem_append_right _ (List.mem_append_right _ (List.mem_append_right _ (List.mem_append_left _ (List.mem_of_getElem? (i := 0) rfl)))), rfl⟩), rfl⟩
theorem kw_997 : Cond.fieldLink "OnceNamedModel" 121 "OnceNamedModel" "reached" "I" ∈ xW := List.mem_filter.mpr ⟨List.mem_append_right _ (List.mem_append_right _ (List.mem_append_right _ (List.mem_append_right _ (List.mem_append_right _ (List.mem_append_left _ (List.mem_of_getElem? (i := 37) rfl)))))), rfl⟩
theorem kw_998 : Cond.fieldLink "OnceNamedModel" 40 "OnceNamedModel" "dominators" "[I" ∈ xW := List.mem_filter.mpr ⟨List.mem_append_right _ (List.mem_append_right _ (List.mem_append_right _ (List.mem_append_right _ (List.mem_append_right _ (List.mem_append_left _ (List.mem_of_getElem? (i := 38) rfl)))))), rfl⟩
theorem kw_1128 : Cond.code yMd_look cMd_look 4 none ∈ xW := List.mem_filter.mpr ⟨List.mem_append_right _ (List.mem_append_right _ (List.mem_append_right _ (List.mem_append_right _ (List.mem_append_right _ (List.mem_append_left _ (List.mem_of_getElem? (i := 168) rfl)))))), rfl⟩
theorem kw_1129 : Cond.methodLink "OnceNamedModel" 117 yMd_reachedWithout ∈ xW := List.mem_filter.mpr ⟨List.mem_append_right _ (List.mem_append_right _ (List.mem_append_right _ (List.mem_append_right _ (List.mem_append_right _ (List.mem_append_left _ (List.mem_of_getElem? (i := 169) rfl)))))), rfl⟩
theorem kw_1131 : Cond.instanceMethod yMd_reachedWithout ∈ xW := List.mem_filter.mpr ⟨List.mem_append_right _ (List.mem_append_right _ (List.mem_append_right _ (List.mem_append_right _ (List.mem_append_right _ (List.mem_append_left _ (List.mem_of_getElem? (i := 171) rfl)))))), rfl⟩
theorem ks_3_15 : Cond.selects "OnceNamedModel" yMd_reachedWithout yMd_reachedWithout ∈ xW := List.mem_filter.mpr ⟨List.mem_append_left _ (List.mem_map.mpr ⟨(⟨"OnceNamedModel", "reachedWithout", "(I)I"⟩, 34), List.mem_append_right _ (List.mem_append_right _ (List.mem_append_left _ (List.mem_of_getElem? (i := 15) rfl))), rfl⟩), rfl⟩
theorem kw_1144 : Cond.code yMd_countOf cMd_countOf 4 (some .int) ∈ xW := List.mem_filter.mpr ⟨List.mem_append_right _ (List.mem_append_right _ (List.mem_append_right _ (List.mem_append_right _ (List.mem_append_right _ (List.mem_append_left _ (List.mem_of_getElem? (i := 184) rfl)))))), rfl⟩
theorem kw_1140 : Cond.code yMd_parentOf cMd_parentOf 5 (some .int) ∈ xW := List.mem_filter.mpr ⟨List.mem_append_right _ (List.mem_append_right _ (List.mem_append_right _ (List.mem_append_right _ (List.mem_append_right _ (List.mem_append_left _ (List.mem_of_getElem? (i := 180) rfl)))))), rfl⟩
theorem kw_1141 : Cond.methodLink "OnceNamedModel" 124 yMd_countOf ∈ xW := List.mem_filter.mpr ⟨List.mem_append_right _ (List.mem_append_right _ (List.mem_append_right _ (List.mem_append_right _ (List.mem_append_right _ (List.mem_append_left _ (List.mem_of_getElem? (i := 181) rfl)))))), rfl⟩
theorem kw_1143 : Cond.instanceMethod yMd_countOf ∈ xW := List.mem_filter.mpr ⟨List.mem_append_right _ (List.mem_append_right _ (List.mem_append_right _ (List.mem_append_right _ (List.mem_append_right _ (List.mem_append_left _ (List.mem_of_getElem? (i := 183) rfl)))))), rfl⟩
theorem ks_4_2 : Cond.selects "OnceNamedModel" yMd_countOf yMd_countOf ∈ xW := List.mem_filter.mpr ⟨List.mem_append_left _ (List.mem_map.mpr ⟨(⟨"OnceNamedModel", "countOf", "(I)I"⟩, 34), List.mem_append_right _ (List.mem_append_right _ (List.mem_append_right _ (List.mem_append_left _ (List.mem_of_getElem? (i := 2) rfl)))), rfl⟩), rfl⟩
theorem kw_1160 : Cond.code yMd_strictly cMd_strictly 3 (some .boolean) ∈ xW := List.mem_filter.mpr ⟨List.mem_append_right _ (List.mem_append_right _ (List.mem_append_right _ (List.mem_append_right _ (List.mem_append_right _ (List.mem_append_left _ (List.mem_of_getElem? (i := 200) rfl)))))), rfl⟩
theorem kw_1156 : Cond.code yMd_inFrontier cMd_inFrontier 5 (some .boolean) ∈ xW := List.mem_filter.mpr ⟨List.mem_append_right _ (List.mem_append_right _ (List.mem_append_right _ (List.mem_append_right _ (List.mem_append_right _ (List.mem_append_left _ (List.mem_of_getElem? (i := 196) rfl)))))), rfl⟩
theorem kw_1157 : Cond.methodLink "OnceNamedModel" 127 yMd_strictly ∈ xW := List.mem_filter.mpr ⟨List.mem_append_right _ (List.mem_append_right _ (List.mem_append_right _ (List.mem_append_right _ (List.mem_append_right _ (List.mem_append_left _ (List.mem_of_getElem? (i := 197) rfl)))))), rfl⟩
theorem kw_1159 : Cond.instanceMethod yMd_strictly ∈ xW := List.mem_filter.mpr ⟨List.mem_append_right _ (List.mem_append_right _ (List.mem_append_right _ (List.mem_append_right _ (List.mem_append_right _ (List.mem_append_left _ (List.mem_of_getElem? (i := 199) rfl)))))), rfl⟩
theorem ks_4_4 : Cond.selects "OnceNamedModel" yMd_strictly yMd_strictly ∈ xW := List.mem_filter.mpr ⟨List.mem_append_left _ (List.mem_map.mpr ⟨(⟨"OnceNamedModel", "strictly", "(II)Z"⟩, 34), List.mem_append_right _ (List.mem_append_right _ (List.mem_append_right _ (List.mem_append_left _ (List.mem_of_getElem? (i := 4) rfl)))), rfl⟩), rfl⟩
theorem kw_1161 : Cond.methodLink "OnceNamedModel" 130 yMd_follows ∈ xW := List.mem_filter.mpr ⟨List.mem_append_right _ (List.mem_append_right _ (List.mem_append_right _ (List.mem_append_right _ (List.mem_append_right _ (List.mem_append_left _ (List.mem_of_getElem? (i := 201) rfl)))))), rfl⟩
theorem kw_1163 : Cond.instanceMethod yMd_follows ∈ xW := List.mem_filter.mpr ⟨List.mem_append_right _ (List.mem_append_right _ (List.mem_append_right _ (List.mem_append_right _ (List.mem_append_right _ (List.mem_append_left _ (List.mem_of_getElem? (i := 203) rfl)))))), rfl⟩
theorem ks_4_5 : Cond.selects "OnceNamedModel" yMd_follows yMd_follows ∈ xW := List.mem_filter.mpr ⟨List.mem_append_left _ (List.mem_map.mpr ⟨(⟨"OnceNamedModel", "follows", "(II)Z"⟩, 34), List.mem_append_right _ (List.mem_append_right _ (List.mem_append_right _ (List.mem_append_left _ (List.mem_of_getElem? (i := 5) rfl)))), rfl⟩), rfl⟩
theorem kw_1124 : Cond.code yMd_parent cMd_parent 2 (some .int) ∈ xW := List.mem_filter.mpr ⟨List.mem_append_right _ (List.mem_append_right _ (List.mem_append_right _ (List.mem_append_right _ (List.mem_append_right _ (List.mem_append_left _ (List.mem_of_getElem? (i := 164) rfl)))))), rfl⟩
theorem kw_1125 : Cond.methodLink "OnceNamedModel" 133 yMd_look ∈ xW := List.mem_filter.mpr ⟨List.mem_append_right _ (List.mem_append_right _ (List.mem_append_right _ (List.mem_append_right _ (List.mem_append_right _ (List.mem_append_left _ (List.mem_of_getElem? (i := 165) rfl)))))), rfl⟩
theorem kw_1127 : Cond.instanceMethod yMd_look ∈ xW := List.mem_filter.mpr ⟨List.mem_append_right _ (List.mem_append_right _ (List.mem_append_right _ (List.mem_append_right _ (List.mem_append_right _ (List.mem_append_left _ (List.mem_of_getElem? (i := 167) rfl)))))), rfl⟩
theorem ks_3_14 : Cond.selects "OnceNamedModel" yMd_look yMd_look ∈ xW := List.mem_filter.mpr ⟨List.mem_append_left _ (List.mem_map.mpr ⟨(⟨"OnceNamedModel", "look", "()V"⟩, 34), List.mem_append_right _ (List.mem_append_right _ (List.mem_append_left _ (List.mem_of_getElem? (i := 14) rfl))), rfl⟩), rfl⟩
theorem kw_1137 : Cond.methodLink "OnceNamedModel" 136 yMd_parentOf ∈ xW := List.mem_filter.mpr ⟨List.mem_append_right _ (List.mem_append_right _ (List.mem_append_right _ (List.mem_append_right _ (List.mem_append_right _ (List.mem_append_left _ (List.mem_of_getElem? (i := 177) rfl)))))), rfl⟩
theorem kw_1139 : Cond.instanceMethod yMd_parentOf ∈ xW := List.mem_filter.mpr ⟨List.mem_append_right _ (List.mem_append_right _ (List.mem_append_right _ (List.mem_append_right _ (List.mem_append_right _ (List.mem_append_left _ (List.mem_of_getElem? (i := 179) rfl)))))), rfl⟩
theorem ks_4_1 : Cond.selects "OnceNamedModel" yMd_parentOf yMd_parentOf ∈ xW := List.mem_filter.mpr ⟨List.mem_append_left _ (List.mem_map.mpr ⟨(⟨"OnceNamedModel", "parentOf", "(I)I"⟩, 34), List.mem_append_right _ (List.mem_append_right _ (List.mem_append_right _ (List.mem_append_left _ (List.mem_of_getElem? (i := 1) rfl)))), rfl⟩), rfl⟩
theorem kw_1148 : Cond.code yMd_dominates cMd_dominates 3 (some .boolean) ∈ xW := List.mem_filter.mpr ⟨List.mem_append_right _ (List.mem_append_right _ (List.mem_append_right _ (List.mem_append_right _ (List.mem_append_right _ (List.mem_append_left _ (List.mem_of_getElem? (i := 188) rfl)))))), rfl⟩
theorem kw_1152 : Cond.code yMd_frontier cMd_frontier 3 (some .boolean) ∈ xW := List.mem_filter.mpr ⟨List.mem_append_right _ (List.mem_append_right _ (List.mem_append_right _ (List.mem_append_right _ (List.mem_append_right _ (List.mem_append_left _ (List.mem_of_getElem? (i := 192) rfl)))))), rfl⟩
theorem kw_1153 : Cond.methodLink "OnceNamedModel" 139 yMd_inFrontier ∈ xW := List.mem_filter.mpr ⟨List.mem_append_right _ (List.mem_append_right _ (List.mem_append_right _ (List.mem_append_right _ (List.mem_append_right _ (List.mem_append_left _ (List.mem_of_getElem? (i := 193) rfl)))))), rfl⟩
theorem kw_1155 : Cond.instanceMethod yMd_inFrontier ∈ xW := List.mem_filter.mpr ⟨List.mem_append_right _ (List.mem_append_right _ (List.mem_append_right _ (List.mem_append_right _ (List.mem_append_right _ (List.mem_append_left _ (List.mem_of_getElem? (i := 195) rfl)))))), rfl⟩
theorem ks_4_3 : Cond.selects "OnceNamedModel" yMd_inFrontier yMd_inFrontier ∈ xW := List.mem_filter.mpr ⟨List.mem_append_left _ (List.mem_map.mpr ⟨(⟨"OnceNamedModel", "inFrontier", "(II)Z"⟩, 34), List.mem_append_right _ (List.mem_append_right _ (List.mem_append_right _ (List.mem_append_left _ (List.mem_of_getElem? (i := 3) rfl)))), rfl⟩), rfl⟩
theorem kw_1176 : Cond.code yMd_setsVariable cMd_setsVariable 5 (some .boolean) ∈ xW := List.mem_filter.mpr ⟨List.mem_append_right _ (List.mem_append_right _ (List.mem_append_right _ (List.mem_append_right _ (List.mem_append_right _ (List.mem_append_left _ (List.mem_of_getElem? (i := 216) rfl)))))), rfl⟩
theorem kw_1000 : Cond.fieldLink "OnceNamedModel" 43 "OnceNamedModel" "meets" "[I" ∈ xW := List.mem_filter.mpr ⟨List.mem_append_right _ (List.mem_append_right _ (List.mem_append_right _ (List.mem_append_right _ (List.mem_append_right _ (List.mem_append_left _ (List.mem_of_getElem? (i := 40) rfl)))))), rfl⟩
theorem kw_1172 : Cond.code yMd_findMeetings cMd_findMeetings 6 none ∈ xW := List.mem_filter.mpr ⟨List.mem_append_right _ (List.mem_append_right _ (List.mem_append_right _ (List.mem_append_right _ (List.mem_append_right _ (List.mem_append_left _ (List.mem_of_getElem? (i := 212) rfl)))))), rfl⟩
theorem kw_1173 : Cond.methodLink "OnceNamedModel" 142 yMd_setsVariable ∈ xW := List.mem_filter.mpr ⟨List.mem_append_right _ (List.mem_append_right _ (List.mem_append_right _ (List.mem_append_right _ (List.mem_append_right _ (List.mem_append_left _ (List.mem_of_getElem? (i := 213) rfl)))))), rfl⟩
theorem kw_1175 : Cond.instanceMethod yMd_setsVariable ∈ xW := List.mem_filter.mpr ⟨List.mem_append_right _ (List.mem_append_right _ (List.mem_append_right _ (List.mem_append_right _ (List.mem_append_right _ (List.mem_append_left _ (List.mem_of_getElem? (i := 215) rfl)))))), rfl⟩
theorem ks_4_7 : Cond.selects "OnceNamedModel" yMd_setsVariable yMd_setsVariable ∈ xW := List.mem_filter.mpr ⟨List.mem_append_left _ (List.mem_map.mpr ⟨(⟨"OnceNamedModel", "setsVariable", "(II)Z"⟩, 34), List.mem_append_right _ (List.mem_append_right _ (List.mem_append_right _ (List.mem_append_left _ (List.mem_of_getElem? (i := 7) rfl)))), rfl⟩), rfl⟩
theorem kw_1010 : Cond.fieldLink "OnceNamedModel" 74 "OnceNamedModel" "numbers" "[I" ∈ xW := List.mem_filter.mpr ⟨List.mem_append_right _ (List.mem_append_right _ (List.mem_append_right _ (List.mem_append_right _ (List.mem_append_right _ (List.mem_append_left _ (List.mem_of_getElem? (i := 50) rfl)))))), rfl⟩
theorem kw_1007 : Cond.fieldLink "OnceNamedModel" 65 "OnceNamedModel" "isName" "[Z" ∈ xW := List.mem_filter.mpr ⟨List.mem_append_right _ (List.mem_append_right _ (List.mem_append_right _ (List.mem_append_right _ (List.mem_append_right _ (List.mem_append_left _ (List.mem_of_getElem? (i := 47) rfl)))))), rfl⟩
theorem kw_1008 : Cond.fieldLink "OnceNamedModel" 68 "OnceNamedModel" "nameBlock" "[I" ∈ xW := List.mem_filter.mpr ⟨List.mem_append_right _ (List.mem_append_right _ (List.mem_append_right _ (List.mem_append_right _ (List.mem_append_right _ (List.mem_append_left _ (List.mem_of_getElem? (i := 48) rfl)))))), rfl⟩
theorem kw_1009 : Cond.fieldLink "OnceNamedModel" 71 "OnceNamedModel" "nameStep" "[I" ∈ xW := List.mem_filter.mpr ⟨List.mem_append_right _ (List.mem_append_right _ (List.mem_append_right _ (List.mem_append_right _ (List.mem_append_right _ (List.mem_append_left _ (List.mem_of_getElem? (i := 49) rfl)))))), rfl⟩
theorem kw_1184 : Cond.code yMd_newName cMd_newName 5 (some .int) ∈ xW := List.mem_filter.mpr ⟨List.mem_append_right _ (List.mem_append_right _ (List.mem_append_right _ (List.mem_append_right _ (List.mem_append_right _ (List.mem_append_left _ (List.mem_of_getElem? (i := 224) rfl)))))), rfl⟩
theorem kw_1002 : Cond.fieldLink "OnceNamedModel" 49 "OnceNamedModel" "set" "[I" ∈ xW := List.mem_filter.mpr ⟨List.mem_append_right _ (List.mem_append_right _ (List.mem_append_right _ (List.mem_append_right _ (List.mem_append_right _ (List.mem_append_left _ (List.mem_of_getElem? (i := 42) rfl)))))), rfl⟩
theorem kw_1188 : Cond.code yMd_nameBlockOf cMd_nameBlockOf 4 none ∈ xW := List.mem_filter.mpr ⟨List.mem_append_right _ (List.mem_append_right _ (List.mem_append_right _ (List.mem_append_right _ (List.mem_append_right _ (List.mem_append_left _ (List.mem_of_getElem? (i := 228) rfl)))))), rfl⟩
theorem kw_1181 : Cond.methodLink "OnceNamedModel" 145 yMd_newName ∈ xW := List.mem_filter.mpr ⟨List.mem_append_right _ (List.mem_append_right _ (List.mem_append_right _ (List.mem_append_right _ (List.mem_append_right _ (List.mem_append_left _ (List.mem_of_getElem? (i := 221) rfl)))))), rfl⟩
theorem kw_1183 : Cond.instanceMethod yMd_newName ∈ xW := List.mem_filter.mpr ⟨List.mem_append_right _ (List.mem_append_right _ (List.mem_append_right _ (List.mem_append_right _ (List.mem_append_right _ (List.mem_append_left _ (List.mem_of_getElem? (i := 223) rfl)))))), rfl⟩
theorem ks_4_9 : Cond.selects "OnceNamedModel" yMd_newName yMd_newName ∈ xW := List.mem_filter.mpr ⟨List.mem_append_left _ (List.mem_map.mpr ⟨(⟨"OnceNamedModel", "newName", "(III)I"⟩, 34), List.mem_append_right _ (List.mem_append_right _ (List.mem_append_right _ (List.mem_append_left _ (List.mem_of_getElem? (i := 9) rfl)))), rfl⟩), rfl⟩
theorem kw_1006 : Cond.fieldLink "OnceNamedModel" 61 "OnceNamedModel" "gone" "[Z" ∈ xW := List.mem_filter.mpr ⟨List.mem_append_right _ (List.mem_append_right _ (List.mem_append_right _ (List.mem_append_right _ (List.mem_append_right _ (List.mem_append_left _ (List.mem_of_getElem? (i := 46) rfl)))))), rfl⟩
theorem kw_1016 : Cond.fieldLink "OnceNamedModel" 92 "OnceNamedModel" "open" "[I" ∈ xW := List.mem_filter.mpr ⟨List.mem_append_right _ (List.mem_append_right _ (List.mem_append_right _ (List.mem_append_right _ (List.mem_append_right _ (List.mem_append_left _ (List.mem_of_getElem? (i := 56) rfl)))))), rfl⟩
theorem kw_1180 : Cond.code yMd_giveNames cMd_giveNames 4 none ∈ xW := List.mem_filter.mpr ⟨List.mem_append_right _ (List.mem_append_right _ (List.mem_append_right _ (List.mem_append_right _ (List.mem_append_right _ (List.mem_append_left _ (List.mem_of_getElem? (i := 220) rfl)))))), rfl⟩
theorem kw_1185 : Cond.methodLink "OnceNamedModel" 149 yMd_nameBlockOf ∈ xW := List.mem_filter.mpr ⟨List.mem_append_right _ (List.mem_append_right _ (List.mem_append_right _ (List.mem_append_right _ (List.mem_append_right _ (List.mem_append_left _ (List.mem_of_getElem? (i := 225) rfl)))))), rfl⟩
theorem kw_1187 : Cond.instanceMethod yMd_nameBlockOf ∈ xW := List.mem_filter.mpr ⟨List.mem_append_right _ (List.mem_append_right _ (List.mem_append_right _ (List.mem_append_right _ (List.mem_append_right _ (List.mem_append_left _ (List.mem_of_getElem? (i := 227) rfl)))))), rfl⟩
theorem ks_4_10 : Cond.selects "OnceNamedModel" yMd_nameBlockOf yMd_nameBlockOf ∈ xW := List.mem_filter.mpr ⟨List.mem_append_left _ (List.mem_map.mpr ⟨(⟨"OnceNamedModel", "nameBlockOf", "(I)V"⟩, 34), List.mem_append_right _ (List.mem_append_right _ (List.mem_append_right _ (List.mem_append_left _ (List.mem_of_getElem? (i := 10) rfl)))), rfl⟩), rfl⟩
theorem kw_1196 : Cond.code yMd_latest cMd_latest 7 (some .int) ∈ xW := List.mem_filter.mpr ⟨List.mem_append_right _ (List.mem_append_right _ (List.mem_append_right _ (List.mem_append_right _ (List.mem_append_right _ (List.mem_append_left _ (List.mem_of_getElem? (i := 236) rfl)))))), rfl⟩
theorem kw_1003 : Cond.fieldLink "OnceNamedModel" 52 "OnceNamedModel" "useW" "[I" ∈ xW := List.mem_filter.mpr ⟨List.mem_append_right _ (List.mem_append_right _ (List.mem_append_right _ (List.mem_append_right _ (List.mem_append_right _ (List.mem_append_left _ (List.mem_of_getElem? (i := 43) rfl)))))), rfl⟩
theorem kw_1004 : Cond.fieldLink "OnceNamedModel" 55 "OnceNamedModel" "useX" "[I" ∈ xW := List.mem_filter.mpr ⟨List.mem_append_right _ (List.mem_append_right _ (List.mem_append_right _ (List.mem_append_right _ (List.mem_append_right _ (List.mem_append_left _ (List.mem_of_getElem? (i := 44) rfl)))))), rfl⟩
theorem kw_1005 : Cond.fieldLink "OnceNamedModel" 58 "OnceNamedModel" "endUse" "[I" ∈ xW := List.mem_filter.mpr ⟨List.mem_append_right _ (List.mem_append_right _ (List.mem_append_right _ (List.mem_append_right _ (List.mem_append_right _ (List.mem_append_left _ (List.mem_of_getElem? (i := 45) rfl)))))), rfl⟩
theorem kw_1001 : Cond.fieldLink "OnceNamedModel" 46 "OnceNamedModel" "sources" "[I" ∈ xW := List.mem_filter.mpr ⟨List.mem_append_right _ (List.mem_append_right _ (List.mem_append_right _ (List.mem_append_right _ (List.mem_append_right _ (List.mem_append_left _ (List.mem_of_getElem? (i := 41) rfl)))))), rfl⟩
theorem kw_1192 : Cond.code yMd_giveUses cMd_giveUses 5 none ∈ xW := List.mem_filter.mpr ⟨List.mem_append_right _ (List.mem_append_right _ (List.mem_append_right _ (List.mem_append_right _ (List.mem_append_right _ (List.mem_append_left _ (List.mem_of_getElem? (i := 232) rfl)))))), rfl⟩
theorem kw_1193 : Cond.methodLink "OnceNamedModel" 153 yMd_latest ∈ xW := List.mem_filter.mpr ⟨List.mem_append_right _ (List.mem_append_right _ (List.mem_append_right _ (List.mem_append_right _ (List.mem_append_right _ (List.mem_append_left _ (List.mem_of_getElem? (i := 233) rfl)))))), rfl⟩
theorem kw_1195 : Cond.instanceMethod yMd_latest ∈ xW := List.mem_filter.mpr ⟨List.mem_append_right _ (List.mem_append_right _ (List.mem_append_right _ (List.mem_append_right _ (List.mem_append_right _ (List.mem_append_left _ (List.mem_of_getElem? (i := 235) rfl)))))), rfl⟩
theorem ks_4_12 : Cond.selects "OnceNamedModel" yMd_latest yMd_latest ∈ xW := List.mem_filter.mpr ⟨List.mem_append_left _ (List.mem_map.mpr ⟨(⟨"OnceNamedModel", "latest", "(III)I"⟩, 34), List.mem_append_right _ (List.mem_append_right _ (List.mem_append_right _ (List.mem_append_left _ (List.mem_of_getElem? (i := 12) rfl)))), rfl⟩), rfl⟩
theorem kw_1168 : Cond.code yMd_build cMd_build 3 (some .int) ∈ xW := List.mem_filter.mpr ⟨List.mem_append_right _ (List.mem_append_right _ (List.mem_append_right _ (List.mem_append_right _ (List.mem_append_right _ (List.mem_append_left _ (List.mem_of_getElem? (i := 208) rfl)))))), rfl⟩
theorem kw_1169 : Cond.methodLink "OnceNamedModel" 156 yMd_findMeetings ∈ xW := List.mem_filter.mpr ⟨List.mem_append_right _ (List.mem_append_right _ (List.mem_append_right _ (List.mem_append_right _ (List.mem_append_right _ (List.mem_append_left _ (List.mem_of_getElem? (i := 209) rfl)))))), rfl⟩
theorem kw_1171 : Cond.instanceMethod yMd_findMeetings ∈ xW := List.mem_filter.mpr ⟨List.mem_append_right _ (List.mem_append_right _ (List.mem_append_right _ (List.mem_append_right _ (List.mem_append_right _ (List.mem_append_left _ (List.mem_of_getElem? (i := 211) rfl)))))), rfl⟩
theorem ks_4_6 : Cond.selects "OnceNamedModel" yMd_findMeetings yMd_findMeetings ∈ xW := List.mem_filter.mpr ⟨List.mem_append_left _ (List.mem_map.mpr ⟨(⟨"OnceNamedModel", "findMeetings", "()V"⟩, 34), List.mem_append_right _ (List.mem_append_right _ (List.mem_append_right _ (List.mem_append_left _ (List.mem_of_getElem? (i := 6) rfl)))), rfl⟩), rfl⟩
theorem kw_1177 : Cond.methodLink "OnceNamedModel" 159 yMd_giveNames ∈ xW := List.mem_filter.mpr ⟨List.mem_append_right _ (List.mem_append_right _ (List.mem_append_right _ (List.mem_append_right _ (List.mem_append_right _ (List.mem_append_left _ (List.mem_of_getElem? (i := 217) rfl)))))), rfl⟩
theorem kw_1179 : Cond.instanceMethod yMd_giveNames ∈ xW := List.mem_filter.mpr ⟨List.mem_append_right _ (List.mem_append_right _ (List.mem_append_right _ (List.mem_append_right _ (List.mem_append_right _ (List.mem_append_left _ (List.mem_of_getElem? (i := 219) rfl)))))), rfl⟩
theorem ks_4_8 : Cond.selects "OnceNamedModel" yMd_giveNames yMd_giveNames ∈ xW := List.mem_filter.mpr ⟨List.mem_append_left _ (List.mem_map.mpr ⟨(⟨"OnceNamedModel", "giveNames", "()V"⟩, 34), List.mem_append_right _ (List.mem_append_right _ (List.mem_append_right _ (List.mem_append_left _ (List.mem_of_getElem? (i := 8) rfl)))), rfl⟩), rfl⟩
theorem kw_1189 : Cond.methodLink "OnceNamedModel" 162 yMd_giveUses ∈ xW := List.mem_filter.mpr ⟨List.mem_append_right _ (List.mem_append_right _ (List.mem_append_right _ (List.mem_append_right _ (List.mem_append_right _ (List.mem_append_left _ (List.mem_of_getElem? (i := 229) rfl)))))), rfl⟩
theorem kw_1191 : Cond.instanceMethod yMd_giveUses ∈ xW := List.mem_filter.mpr ⟨List.mem_append_right _ (List.mem_append_right _ (List.mem_append_right _ (List.mem_append_right _ (List.mem_append_right _ (List.mem_append_left _ (List.mem_of_getElem? (i := 231) rfl)))))), rfl⟩
theorem ks_4_11 : Cond.selects "OnceNamedModel" yMd_giveUses yMd_giveUses ∈ xW := List.mem_filter.mpr ⟨List.mem_append_left _ (List.mem_map.mpr ⟨(⟨"OnceNamedModel", "giveUses", "(I)V"⟩, 34), List.mem_append_right _ (List.mem_append_right _ (List.mem_append_right _ (List.mem_append_left _ (List.mem_of_getElem? (i := 11) rfl)))), rfl⟩), rfl⟩
theorem kw_1208 : Cond.code yMd_before cMd_before 5 (some .boolean) ∈ xW := List.mem_filter.mpr ⟨List.mem_append_right _ (List.mem_append_right _ (List.mem_append_right _ (List.mem_append_right _ (List.mem_append_right _ (List.mem_append_right _ (List.mem_of_getElem? (i := 8) rfl)))))), rfl⟩
theorem kw_1204 : Cond.code yMd_isValid cMd_isValid 6 (some .boolean) ∈ xW := List.mem_filter.mpr ⟨List.mem_append_right _ (List.mem_append_right _ (List.mem_append_right _ (List.mem_append_right _ (List.mem_append_right _ (List.mem_append_right _ (List.mem_of_getElem? (i := 4) rfl)))))), rfl⟩
theorem kw_1205 : Cond.methodLink "OnceNamedModel" 165 yMd_before ∈ xW := List.mem_filter.mpr ⟨List.mem_append_right _ (List.mem_append_right _ (List.mem_append_right _ (List.mem_append_right _ (List.mem_append_right _ (List.mem_append_right _ (List.mem_of_getElem? (i := 5) rfl)))))), rfl⟩
theorem kw_1207 : Cond.instanceMethod yMd_before ∈ xW := List.mem_filter.mpr ⟨List.mem_append_right _ (List.mem_append_right _ (List.mem_append_right _ (List.mem_append_right _ (List.mem_append_right _ (List.mem_append_right _ (List.mem_of_getElem? (i := 7) rfl)))))), rfl⟩
theorem ks_4_14 : Cond.selects "OnceNamedModel" yMd_before yMd_before ∈ xW := List.mem_filter.mpr ⟨List.mem_append_left _ (List.mem_map.mpr ⟨(⟨"OnceNamedModel", "before", "(III)Z"⟩, 34), List.mem_append_right _ (List.mem_append_right _ (List.mem_append_right _ (List.mem_append_left _ (List.mem_of_getElem? (i := 14) rfl)))), rfl⟩), rfl⟩
theorem kw_1200 : Cond.code yMd_valid cMd_valid 1 (some .boolean) ∈ xW := List.mem_filter.mpr ⟨List.mem_append_right _ (List.mem_append_right _ (List.mem_append_right _ (List.mem_append_right _ (List.mem_append_right _ (List.mem_append_right _ (List.mem_of_getElem? (i := 0) rfl)))))), rfl⟩
theorem kw_1201 : Cond.methodLink "OnceNamedModel" 169 yMd_isValid ∈ xW := List.mem_filter.mpr ⟨List.mem_append_right _ (List.mem_append_right _ (List.mem_append_right _ (List.mem_append_right _ (List.mem_append_right _ (List.mem_append_right _ (List.mem_of_getElem? (i := 1) rfl)))))), rfl⟩
theorem kw_1203 : Cond.instanceMethod yMd_isValid ∈ xW := List.mem_filter.mpr ⟨List.mem_append_right _ (List.mem_append_right _ (List.mem_append_right _ (List.mem_append_right _ (List.mem_append_right _ (List.mem_append_right _ (List.mem_of_getElem? (i := 3) rfl)))))), rfl⟩
theorem ks_4_13 : Cond.selects "OnceNamedModel" yMd_isValid yMd_isValid ∈ xW := List.mem_filter.mpr ⟨List.mem_append_left _ (List.mem_map.mpr ⟨(⟨"OnceNamedModel", "isValid", "()Z"⟩, 34), List.mem_append_right _ (List.mem_append_right _ (List.mem_append_right _ (List.mem_append_left _ (List.mem_of_getElem? (i := 13) rfl)))), rfl⟩), rfl⟩
theorem kw_1216 : Cond.code yMd_behind cMd_behind 3 (some .int) ∈ xW := List.mem_filter.mpr ⟨List.mem_append_right _ (List.mem_append_right _ (List.mem_append_right _ (List.mem_append_right _ (List.mem_append_right _ (List.mem_append_right _ (List.mem_of_getElem? (i := 16) rfl)))))), rfl⟩
theorem kw_1212 : Cond.code yMd_propagate cMd_propagate 5 (some .int) ∈ xW := List.mem_filter.mpr ⟨List.mem_append_right _ (List.mem_append_right _ (List.mem_append_right _ (List.mem_append_right _ (List.mem_append_right _ (List.mem_append_right _ (List.mem_of_getElem? (i := 12) rfl)))))), rfl⟩
theorem kw_1213 : Cond.methodLink "OnceNamedModel" 173 yMd_behind ∈ xW := List.mem_filter.mpr ⟨List.mem_append_right _ (List.mem_append_right _ (List.mem_append_right _ (List.mem_append_right _ (List.mem_append_right _ (List.mem_append_right _ (List.mem_of_getElem? (i := 13) rfl)))))), rfl⟩
theorem kw_1215 : Cond.instanceMethod yMd_behind ∈ xW := List.mem_filter.mpr ⟨List.mem_append_right _ (List.mem_append_right _ (List.mem_append_right _ (List.mem_append_right _ (List.mem_append_right _ (List.mem_append_right _ (List.mem_of_getElem? (i := 15) rfl)))))), rfl⟩
theorem ks_4_15 : Cond.selects "OnceNamedModel" yMd_behind yMd_behind ∈ xW := List.mem_filter.mpr ⟨List.mem_append_left _ (List.mem_map.mpr ⟨(⟨"OnceNamedModel", "behind", "(I)I"⟩, 34), List.mem_append_right _ (List.mem_append_right _ (List.mem_append_right _ (List.mem_append_left _ (List.mem_of_getElem? (i := 15) rfl)))), rfl⟩), rfl⟩
theorem kw_1220 : Cond.code yMd_meeting cMd_meeting 3 (some .int) ∈ xW := List.mem_filter.mpr ⟨List.mem_append_right _ (List.mem_append_right _ (List.mem_append_right _ (List.mem_append_right _ (List.mem_append_right _ (List.mem_append_right _ (List.mem_of_getElem? (i := 20) rfl)))))), rfl⟩
theorem kw_1228 : Cond.code yMd_sourceOf cMd_sourceOf 4 (some .int) ∈ xW := List.mem_filter.mpr ⟨List.mem_append_right _ (List.mem_append_right _ (List.mem_append_right _ (List.mem_append_right _ (List.mem_append_right _ (List.mem_append_right _ (List.mem_of_getElem? (i := 28) rfl)))))), rfl⟩
theorem kw_1224 : Cond.code yMd_source cMd_source 4 (some .int) ∈ xW := List.mem_filter.mpr ⟨List.mem_append_right _ (List.mem_append_right _ (List.mem_append_right _ (List.mem_append_right _ (List.mem_append_right _ (List.mem_append_right _ (List.mem_of_getElem? (i := 24) rfl)))))), rfl⟩
theorem kw_1225 : Cond.methodLink "OnceNamedModel" 176 yMd_sourceOf ∈ xW := List.mem_filter.mpr ⟨List.mem_append_right _ (List.mem_append_right _ (List.mem_append_right _ (List.mem_append_right _ (List.mem_append_right _ (List.mem_append_right _ (List.mem_of_getElem? (i := 25) rfl)))))), rfl⟩
theorem kw_1227 : Cond.instanceMethod yMd_sourceOf ∈ xW := List.mem_filter.mpr ⟨List.mem_append_right _ (List.mem_append_right _ (List.mem_append_right _ (List.mem_append_right _ (List.mem_append_right _ (List.mem_append_right _ (List.mem_of_getElem? (i := 27) rfl)))))), rfl⟩
theorem ks_5_0 : Cond.selects "OnceNamedModel" yMd_sourceOf yMd_sourceOf ∈ xW := List.mem_filter.mpr ⟨List.mem_append_left _ (List.mem_map.mpr ⟨(⟨"OnceNamedModel", "sourceOf", "(III)I"⟩, 34), List.mem_append_right _ (List.mem_append_right _ (List.mem_append_right _ (List.mem_append_right _ (List.mem_of_getElem? (i := 0) rfl)))), rfl⟩), rfl⟩
theorem kw_1236 : Cond.code yMd_noStep cMd_noStep 3 (some .boolean) ∈ xW := List.mem_filter.mpr ⟨List.mem_append_right _ (List.mem_append_right _ (List.mem_append_right _ (List.mem_append_right _ (List.mem_append_right _ (List.mem_append_right _ (List.mem_of_getElem? (i := 36) rfl)))))), rfl⟩
theorem kw_1232 : Cond.code yMd_sets cMd_sets 3 (some .int) ∈ xW := List.mem_filter.mpr ⟨List.mem_append_right _ (List.mem_append_right _ (List.mem_append_right _ (List.mem_append_right _ (List.mem_append_right _ (List.mem_append_right _ (List.mem_of_getElem? (i := 32) rfl)))))), rfl⟩
theorem kw_1233 : Cond.methodLink "OnceNamedModel" 179 yMd_noStep ∈ xW := List.mem_filter.mpr ⟨List.mem_append_right _ (List.mem_append_right _ (List.mem_append_right _ (List.mem_append_right _ (List.mem_append_right _ (List.mem_append_right _ (List.mem_of_getElem? (i := 33) rfl)))))), rfl⟩
theorem kw_1235 : Cond.instanceMethod yMd_noStep ∈ xW := List.mem_filter.mpr ⟨List.mem_append_right _ (List.mem_append_right _ (List.mem_append_right _ (List.mem_append_right _ (List.mem_append_right _ (List.mem_append_right _ (List.mem_of_getElem? (i := 35) rfl)))))), rfl⟩
theorem ks_5_1 : Cond.selects "OnceNamedModel" yMd_noStep yMd_noStep ∈ xW := List.mem_filter.mpr ⟨List.mem_append_left _ (List.mem_map.mpr ⟨(⟨"OnceNamedModel", "noStep", "(II)Z"⟩, 34), List.mem_append_right _ (List.mem_append_right _ (List.mem_append_right _ (List.mem_append_right _ (List.mem_of_getElem? (i := 1) rfl)))), rfl⟩), rfl⟩
theorem kw_1244 : Cond.code yMd_noUse cMd_noUse 4 (some .boolean) ∈ xW := List.mem_filter.mpr ⟨List.mem_append_right _ (List.mem_append_right _ (List.mem_append_right _ (List.mem_append_right _ (List.mem_append_right _ (List.mem_append_right _ (List.mem_of_getElem? (i := 44) rfl)))))), rfl⟩
theorem kw_1248 : Cond.code yMd_useOf cMd_useOf 4 (some .int) ∈ xW := List.mem_filter.mpr ⟨List.mem_append_right _ (List.mem_append_right _ (List.mem_append_right _ (List.mem_append_right _ (List.mem_append_right _ (List.mem_append_right _ (List.mem_of_getElem? (i := 48) rfl)))))), rfl⟩
theorem kw_1240 : Cond.code yMd_use cMd_use 4 (some .int) ∈ xW := List.mem_filter.mpr ⟨List.mem_append_right _ (List.mem_append_right _ (List.mem_append_right _ (List.mem_append_right _ (List.mem_append_right _ (List.mem_append_right _ (List.mem_of_getElem? (i := 40) rfl)))))), rfl⟩
theorem kw_1245 : Cond.methodLink "OnceNamedModel" 185 yMd_useOf ∈ xW := List.mem_filter.mpr ⟨List.mem_append_right _ (List.mem_append_right _ (List.mem_append_right _ (List.mem_append_right _ (List.mem_append_right _ (List.mem_append_right _ (List.mem_of_getElem? (i := 45) rfl)))))), rfl⟩
theorem kw_1247 : Cond.instanceMethod yMd_useOf ∈ xW := List.mem_filter.mpr ⟨List.mem_append_right _ (List.mem_append_right _ (List.mem_append_right _ (List.mem_append_right _ (List.mem_append_right _ (List.mem_append_right _ (List.mem_of_getElem? (i := 47) rfl)))))), rfl⟩
theorem ks_5_3 : Cond.selects "OnceNamedModel" yMd_useOf yMd_useOf ∈ xW := List.mem_filter.mpr ⟨List.mem_append_left _ (List.mem_map.mpr ⟨(⟨"OnceNamedModel", "useOf", "(III)I"⟩, 34), List.mem_append_right _ (List.mem_append_right _ (List.mem_append_right _ (List.mem_append_right _ (List.mem_of_getElem? (i := 3) rfl)))), rfl⟩), rfl⟩
theorem kw_1241 : Cond.methodLink "OnceNamedModel" 182 yMd_noUse ∈ xW := List.mem_filter.mpr ⟨List.mem_append_right _ (List.mem_append_right _ (List.mem_append_right _ (List.mem_append_right _ (List.mem_append_right _ (List.mem_append_right _ (List.mem_of_getElem? (i := 41) rfl)))))), rfl⟩
theorem kw_1243 : Cond.instanceMethod yMd_noUse ∈ xW := List.mem_filter.mpr ⟨List.mem_append_right _ (List.mem_append_right _ (List.mem_append_right _ (List.mem_append_right _ (List.mem_append_right _ (List.mem_append_right _ (List.mem_of_getElem? (i := 43) rfl)))))), rfl⟩
theorem ks_5_2 : Cond.selects "OnceNamedModel" yMd_noUse yMd_noUse ∈ xW := List.mem_filter.mpr ⟨List.mem_append_left _ (List.mem_map.mpr ⟨(⟨"OnceNamedModel", "noUse", "(III)Z"⟩, 34), List.mem_append_right _ (List.mem_append_right _ (List.mem_append_right _ (List.mem_append_right _ (List.mem_of_getElem? (i := 2) rfl)))), rfl⟩), rfl⟩
theorem kw_1256 : Cond.code yMd_noName cMd_noName 2 (some .boolean) ∈ xW := List.mem_filter.mpr ⟨List.mem_append_right _ (List.mem_append_right _ (List.mem_append_right _ (List.mem_append_right _ (List.mem_append_right _ (List.mem_append_right _ (List.mem_of_getElem? (i := 56) rfl)))))), rfl⟩
theorem kw_1252 : Cond.code yMd_alter cMd_alter 5 none ∈ xW := List.mem_filter.mpr ⟨List.mem_append_right _ (List.mem_append_right _ (List.mem_append_right _ (List.mem_append_right _ (List.mem_append_right _ (List.mem_append_right _ (List.mem_of_getElem? (i := 52) rfl)))))), rfl⟩
theorem kw_1253 : Cond.methodLink "OnceNamedModel" 188 yMd_noName ∈ xW := List.mem_filter.mpr ⟨List.mem_append_right _ (List.mem_append_right _ (List.mem_append_right _ (List.mem_append_right _ (List.mem_append_right _ (List.mem_append_right _ (List.mem_of_getElem? (i := 53) rfl)))))), rfl⟩
theorem kw_1255 : Cond.instanceMethod yMd_noName ∈ xW := List.mem_filter.mpr ⟨List.mem_append_right _ (List.mem_append_right _ (List.mem_append_right _ (List.mem_append_right _ (List.mem_append_right _ (List.mem_append_right _ (List.mem_of_getElem? (i := 55) rfl)))))), rfl⟩
theorem ks_5_4 : Cond.selects "OnceNamedModel" yMd_noName yMd_noName ∈ xW := List.mem_filter.mpr ⟨List.mem_append_left _ (List.mem_map.mpr ⟨(⟨"OnceNamedModel", "noName", "(I)Z"⟩, 34), List.mem_append_right _ (List.mem_append_right _ (List.mem_append_right _ (List.mem_append_right _ (List.mem_of_getElem? (i := 4) rfl)))), rfl⟩), rfl⟩
theorem kw_1260 : Cond.code yMd_turn cMd_turn 5 none ∈ xW := List.mem_filter.mpr ⟨List.mem_append_right _ (List.mem_append_right _ (List.mem_append_right _ (List.mem_append_right _ (List.mem_append_right _ (List.mem_append_right _ (List.mem_of_getElem? (i := 60) rfl)))))), rfl⟩
theorem kw_1268 : Cond.code yMd_meetingWith cMd_meetingWith 4 (some .int) ∈ xW := List.mem_filter.mpr ⟨List.mem_append_right _ (List.mem_append_right _ (List.mem_append_right _ (List.mem_append_right _ (List.mem_append_right _ (List.mem_append_right _ (List.mem_of_getElem? (i := 68) rfl)))))), rfl⟩
theorem kw_1264 : Cond.code yMd_copies cMd_copies 13 (some .int) ∈ xW := List.mem_filter.mpr ⟨List.mem_append_right _ (List.mem_append_right _ (List.mem_append_right _ (List.mem_append_right _ (List.mem_append_right _ (List.mem_append_right _ (List.mem_of_getElem? (i := 64) rfl)))))), rfl⟩
theorem kw_1265 : Cond.methodLink "OnceNamedModel" 191 yMd_meetingWith ∈ xW := List.mem_filter.mpr ⟨List.mem_append_right _ (List.mem_append_right _ (List.mem_append_right _ (List.mem_append_right _ (List.mem_append_right _ (List.mem_append_right _ (List.mem_of_getElem? (i := 65) rfl)))))), rfl⟩
theorem kw_1267 : Cond.instanceMethod yMd_meetingWith ∈ xW := List.mem_filter.mpr ⟨List.mem_append_right _ (List.mem_append_right _ (List.mem_append_right _ (List.mem_append_right _ (List.mem_append_right _ (List.mem_append_right _ (List.mem_of_getElem? (i := 67) rfl)))))), rfl⟩
theorem ks_5_5 : Cond.selects "OnceNamedModel" yMd_meetingWith yMd_meetingWith ∈ xW := List.mem_filter.mpr ⟨List.mem_append_left _ (List.mem_map.mpr ⟨(⟨"OnceNamedModel", "meetingWith", "(II)I"⟩, 34), List.mem_append_right _ (List.mem_append_right _ (List.mem_append_right _ (List.mem_append_right _ (List.mem_of_getElem? (i := 5) rfl)))), rfl⟩), rfl⟩
theorem kw_1013 : Cond.fieldLink "OnceNamedModel" 83 "OnceNamedModel" "failed" "[I" ∈ xW := List.mem_filter.mpr ⟨List.mem_append_right _ (List.mem_append_right _ (List.mem_append_right _ (List.mem_append_right _ (List.mem_append_right _ (List.mem_append_left _ (List.mem_of_getElem? (i := 53) rfl)))))), rfl⟩
theorem kw_1017 : Cond.fieldLink "OnceNamedModel" 195 "OnceNamedModel" "slot" "I" ∈ xW := List.mem_filter.mpr ⟨List.mem_append_right _ (List.mem_append_right _ (List.mem_append_right _ (List.mem_append_right _ (List.mem_append_right _ (List.mem_append_left _ (List.mem_of_getElem? (i := 57) rfl)))))), rfl⟩
theorem kw_1018 : Cond.fieldLink "OnceNamedModel" 198 "OnceNamedModel" "over" "Z" ∈ xW := List.mem_filter.mpr ⟨List.mem_append_right _ (List.mem_append_right _ (List.mem_append_right _ (List.mem_append_right _ (List.mem_append_right _ (List.mem_append_left _ (List.mem_of_getElem? (i := 58) rfl)))))), rfl⟩
theorem kw_1280 : Cond.code yMd_fail cMd_fail 2 none ∈ xW := List.mem_filter.mpr ⟨List.mem_append_right _ (List.mem_append_right _ (List.mem_append_right _ (List.mem_append_right _ (List.mem_append_right _ (List.mem_append_right _ (List.mem_of_getElem? (i := 80) rfl)))))), rfl⟩
theorem kw_1012 : Cond.fieldLink "OnceNamedModel" 80 "OnceNamedModel" "saidCount" "[I" ∈ xW := List.mem_filter.mpr ⟨List.mem_append_right _ (List.mem_append_right _ (List.mem_append_right _ (List.mem_append_right _ (List.mem_append_right _ (List.mem_append_left _ (List.mem_of_getElem? (i := 52) rfl)))))), rfl⟩
theorem kw_1011 : Cond.fieldLink "OnceNamedModel" 77 "OnceNamedModel" "said" "[I" ∈ xW := List.mem_filter.mpr ⟨List.mem_append_right _ (List.mem_append_right _ (List.mem_append_right _ (List.mem_append_right _ (List.mem_append_right _ (List.mem_append_left _ (List.mem_of_getElem? (i := 51) rfl)))))), rfl⟩
theorem kw_1292 : Cond.code yMd_say cMd_say 2 none ∈ xW := List.mem_filter.mpr ⟨List.mem_append_right _ (List.mem_append_right _ (List.mem_append_right _ (List.mem_append_right _ (List.mem_append_right _ (List.mem_append_right _ (List.mem_of_getElem? (i := 92) rfl)))))), rfl⟩
theorem kw_1277 : Cond.methodLink "OnceNamedModel" 201 yMd_fail ∈ xW := List.mem_filter.mpr ⟨List.mem_append_right _ (List.mem_append_right _ (List.mem_append_right _ (List.mem_append_right _ (List.mem_append_right _ (List.mem_append_right _ (List.mem_of_getElem? (i := 77) rfl)))))), rfl⟩
theorem kw_1279 : Cond.instanceMethod yMd_fail ∈ xW := List.mem_filter.mpr ⟨List.mem_append_right _ (List.mem_append_right _ (List.mem_append_right _ (List.mem_append_right _ (List.mem_append_right _ (List.mem_append_right _ (List.mem_of_getElem? (i := 79) rfl)))))), rfl⟩
theorem ks_5_7 : Cond.selects "OnceNamedModel" yMd_fail yMd_fail ∈ xW := List.mem_filter.mpr ⟨List.mem_append_left _ (List.mem_map.mpr ⟨(⟨"OnceNamedModel", "fail", "(I)V"⟩, 34), List.mem_append_right _ (List.mem_append_right _ (List.mem_append_right _ (List.mem_append_right _ (List.mem_of_getElem? (i := 7) rfl)))), rfl⟩), rfl⟩
theorem kw_1296 : Cond.code yMd_result cMd_result 4 (some .int) ∈ xW := List.mem_filter.mpr ⟨List.mem_append_right _ (List.mem_append_right _ (List.mem_append_right _ (List.mem_append_right _ (List.mem_append_right _ (List.mem_append_right _ (List.mem_of_getElem? (i := 96) rfl)))))), rfl⟩
theorem kw_1014 : Cond.fieldLink "OnceNamedModel" 86 "OnceNamedModel" "values" "[I" ∈ xW := List.mem_filter.mpr ⟨List.mem_append_right _ (List.mem_append_right _ (List.mem_append_right _ (List.mem_append_right _ (List.mem_append_right _ (List.mem_append_left _ (List.mem_of_getElem? (i := 54) rfl)))))), rfl⟩
theorem kw_1288 : Cond.code yMd_doSteps cMd_doSteps 7 none ∈ xW := List.mem_filter.mpr ⟨List.mem_append_right _ (List.mem_append_right _ (List.mem_append_right _ (List.mem_append_right _ (List.mem_append_right _ (List.mem_append_right _ (List.mem_of_getElem? (i := 88) rfl)))))), rfl⟩
theorem kw_1293 : Cond.methodLink "OnceNamedModel" 207 yMd_result ∈ xW := List.mem_filter.mpr ⟨List.mem_append_right _ (List.mem_append_right _ (List.mem_append_right _ (List.mem_append_right _ (List.mem_append_right _ (List.mem_append_right _ (List.mem_of_getElem? (i := 93) rfl)))))), rfl⟩
theorem kw_1295 : Cond.instanceMethod yMd_result ∈ xW := List.mem_filter.mpr ⟨List.mem_append_right _ (List.mem_append_right _ (List.mem_append_right _ (List.mem_append_right _ (List.mem_append_right _ (List.mem_append_right _ (List.mem_of_getElem? (i := 95) rfl)))))), rfl⟩
theorem ks_5_11 : Cond.selects "OnceNamedModel" yMd_result yMd_result ∈ xW := List.mem_filter.mpr ⟨List.mem_append_left _ (List.mem_map.mpr ⟨(⟨"OnceNamedModel", "result", "(III)I"⟩, 34), List.mem_append_right _ (List.mem_append_right _ (List.mem_append_right _ (List.mem_append_right _ (List.mem_of_getElem? (i := 11) rfl)))), rfl⟩), rfl⟩
theorem kw_1289 : Cond.methodLink "OnceNamedModel" 204 yMd_say ∈ xW := List.mem_filter.mpr ⟨List.mem_append_right _ (List.mem_append_right _ (List.mem_append_right _ (List.mem_append_right _ (List.mem_append_right _ (List.mem_append_right _ (List.mem_of_getElem? (i := 89) rfl)))))), rfl⟩
theorem kw_1291 : Cond.instanceMethod yMd_say ∈ xW := List.mem_filter.mpr ⟨List.mem_append_right _ (List.mem_append_right _ (List.mem_append_right _ (List.mem_append_right _ (List.mem_append_right _ (List.mem_append_right _ (List.mem_of_getElem? (i := 91) rfl)))))), rfl⟩
theorem ks_5_10 : Cond.selects "OnceNamedModel" yMd_say yMd_say ∈ xW := List.mem_filter.mpr ⟨List.mem_append_left _ (List.mem_map.mpr ⟨(⟨"OnceNamedModel", "say", "(I)V"⟩, 34), List.mem_append_right _ (List.mem_append_right _ (List.mem_append_right _ (List.mem_append_right _ (List.mem_of_getElem? (i := 10) rfl)))), rfl⟩), rfl⟩
theorem kw_1015 : Cond.fieldLink "OnceNamedModel" 89 "OnceNamedModel" "nextValues" "[I" ∈ xW := List.mem_filter.mpr ⟨List.mem_append_right _ (List.mem_append_right _ (List.mem_append_right _ (List.mem_append_right _ (List.mem_append_right _ (List.mem_append_left _ (List.mem_of_getElem? (i := 55) rfl)))))), rfl⟩
theorem kw_1284 : Cond.code yMd_meet cMd_meet 5 none ∈ xW := List.mem_filter.mpr ⟨List.mem_append_right _ (List.mem_append_right _ (List.mem_append_right _ (List.mem_append_right _ (List.mem_append_right _ (List.mem_append_right _ (List.mem_of_getElem? (i := 84) rfl)))))), rfl⟩
theorem kw_1276 : Cond.code yMd_runInto cMd_runInto 7 none ∈ xW := List.mem_filter.mpr ⟨List.mem_append_right _ (List.mem_append_right _ (List.mem_append_right _ (List.mem_append_right _ (List.mem_append_right _ (List.mem_append_right _ (List.mem_of_getElem? (i := 76) rfl)))))), rfl⟩
theorem kw_1285 : Cond.methodLink "OnceNamedModel" 214 yMd_doSteps ∈ xW := List.mem_filter.mpr ⟨List.mem_append_right _ (List.mem_append_right _ (List.mem_append_right _ (List.mem_append_right _ (List.mem_append_right _ (List.mem_append_right _ (List.mem_of_getElem? (i := 85) rfl)))))), rfl⟩
theorem kw_1287 : Cond.instanceMethod yMd_doSteps ∈ xW := List.mem_filter.mpr ⟨List.mem_append_right _ (List.mem_append_right _ (List.mem_append_right _ (List.mem_append_right _ (List.mem_append_right _ (List.mem_append_right _ (List.mem_of_getElem? (i := 87) rfl)))))), rfl⟩
theorem ks_5_9 : Cond.selects "OnceNamedModel" yMd_doSteps yMd_doSteps ∈ xW := List.mem_filter.mpr ⟨List.mem_append_left _ (List.mem_map.mpr ⟨(⟨"OnceNamedModel", "doSteps", "(IZ)V"⟩, 34), List.mem_append_right _ (List.mem_append_right _ (List.mem_append_right _ (List.mem_append_right _ (List.mem_of_getElem? (i := 9) rfl)))), rfl⟩), rfl⟩
theorem kw_1281 : Cond.methodLink "OnceNamedModel" 210 yMd_meet ∈ xW := List.mem_filter.mpr ⟨List.mem_append_right _ (List.mem_append_right _ (List.mem_append_right _ (List.mem_append_right _ (List.mem_append_right _ (List.mem_append_right _ (List.mem_of_getElem? (i := 81) rfl)))))), rfl⟩
theorem kw_1283 : Cond.instanceMethod yMd_meet ∈ xW := List.mem_filter.mpr ⟨List.mem_append_right _ (List.mem_append_right _ (List.mem_append_right _ (List.mem_append_right _ (List.mem_append_right _ (List.mem_append_right _ (List.mem_of_getElem? (i := 83) rfl)))))), rfl⟩
theorem ks_5_8 : Cond.selects "OnceNamedModel" yMd_meet yMd_meet ∈ xW := List.mem_filter.mpr ⟨List.mem_append_left _ (List.mem_map.mpr ⟨(⟨"OnceNamedModel", "meet", "(II)V"⟩, 34), List.mem_append_right _ (List.mem_append_right _ (List.mem_append_right _ (List.mem_append_right _ (List.mem_of_getElem? (i := 8) rfl)))), rfl⟩), rfl⟩
theorem kw_1272 : Cond.code yMd_run cMd_run 2 (some .int) ∈ xW := List.mem_filter.mpr ⟨List.mem_append_right _ (List.mem_append_right _ (List.mem_append_right _ (List.mem_append_right _ (List.mem_append_right _ (List.mem_append_right _ (List.mem_of_getElem? (i := 72) rfl)))))), rfl⟩
theorem kw_1273 : Cond.methodLink "OnceNamedModel" 218 yMd_runInto ∈ xW := List.mem_filter.mpr ⟨List.mem_append_right _ (List.mem_append_right _ (List.mem_append_right _ (List.mem_append_right _ (List.mem_append_right _ (List.mem_append_right _ (List.mem_of_getElem? (i := 73) rfl)))))), rfl⟩
theorem kw_1275 : Cond.instanceMethod yMd_runInto ∈ xW := List.mem_filter.mpr ⟨List.mem_append_right _ (List.mem_append_right _ (List.mem_append_right _ (List.mem_append_right _ (List.mem_append_right _ (List.mem_append_right _ (List.mem_of_getElem? (i := 75) rfl)))))), rfl⟩
theorem ks_5_6 : Cond.selects "OnceNamedModel" yMd_runInto yMd_runInto ∈ xW := List.mem_filter.mpr ⟨List.mem_append_left _ (List.mem_map.mpr ⟨(⟨"OnceNamedModel", "runInto", "(IZ)V"⟩, 34), List.mem_append_right _ (List.mem_append_right _ (List.mem_append_right _ (List.mem_append_right _ (List.mem_of_getElem? (i := 6) rfl)))), rfl⟩), rfl⟩
theorem kw_1300 : Cond.code yMd_said cMd_said 2 (some .int) ∈ xW := List.mem_filter.mpr ⟨List.mem_append_right _ (List.mem_append_right _ (List.mem_append_right _ (List.mem_append_right _ (List.mem_append_right _ (List.mem_append_right _ (List.mem_of_getElem? (i := 100) rfl)))))), rfl⟩
theorem kw_1304 : Cond.code yMd_same cMd_same 4 (some .boolean) ∈ xW := List.mem_filter.mpr ⟨List.mem_append_right _ (List.mem_append_right _ (List.mem_append_right _ (List.mem_append_right _ (List.mem_append_right _ (List.mem_append_right _ (List.mem_of_getElem? (i := 104) rfl)))))), rfl⟩
def TX0 : u_T := fun k => match k with
  | 0 => ("OnceNamed", "blocks", "I", true)
  | 1 => ("OnceNamed", "program", "LOnceNamed$Program;", true)
  | 2 => ("OnceNamed", "graph", "LOnceNamed$Graph;", true)
  | 3 => ("OnceNamed", "named", "LOnceNamed$NamedForm;", true)
  | 4 => ("OnceNamed", "plan", "LOnceNamed$CopyPlan;", true)
  | 5 => ("OnceNamed", "runner", "LOnceNamed$Runner;", true)
  | 6 => ("OnceNamed", "latest", "LOnceNamed$Talk;", true)
  | 7 => ("OnceNamed", "talkOfProgram", "LOnceNamed$Talk;", true)
  | 8 => ("OnceNamed", "talkOfForm", "LOnceNamed$Talk;", true)
  | _ => ("OnceNamed", "formStands", "Z", false)
def tyX0 : Nat → FieldType := fun k => match k with
  | 0 => .int
  | 1 => .object "OnceNamed$Program"
  | 2 => .object "OnceNamed$Graph"
  | 3 => .object "OnceNamed$NamedForm"
  | 4 => .object "OnceNamed$CopyPlan"
  | 5 => .object "OnceNamed$Runner"
  | 6 => .object "OnceNamed$Talk"
  | 7 => .object "OnceNamed$Talk"
  | 8 => .object "OnceNamed$Talk"
  | _ => .boolean
theorem nmX0 : ∀ a, a < 10 → ∀ b, b < 10 → a ≠ b → (TX0 a).2.1 ≠ (TX0 b).2.1 := by decide +kernel
theorem tyX0_ok : ∀ k, k < 10 → parseFieldDescriptor (TX0 k).2.2.1 = some (tyX0 k) := by decide +kernel
theorem inX0 : ∀ w ∈ u_ws "OnceNamed" TX0 10, w ∈ xW := by
  show ∀ w ∈ [Cond.laysFinal "OnceNamed" "OnceNamed" "blocks" "I", Cond.laysFinal "OnceNamed" "OnceNamed" "program" "LOnceNamed$Program;", Cond.laysFinal "OnceNamed" "OnceNamed" "graph" "LOnceNamed$Graph;", Cond.laysFinal "OnceNamed" "OnceNamed" "named" "LOnceNamed$NamedForm;", Cond.laysFinal "OnceNamed" "OnceNamed" "plan" "LOnceNamed$CopyPlan;", Cond.laysFinal "OnceNamed" "OnceNamed" "runner" "LOnceNamed$Runner;", Cond.laysFinal "OnceNamed" "OnceNamed" "latest" "LOnceNamed$Talk;", Cond.laysFinal "OnceNamed" "OnceNamed" "talkOfProgram" "LOnceNamed$Talk;", Cond.laysFinal "OnceNamed" "OnceNamed" "talkOfForm" "LOnceNamed$Talk;", Cond.lays "OnceNamed" "OnceNamed" "formStands" "Z"], w ∈ xW
  exact List.forall_mem_cons.mpr ⟨kw_277, List.forall_mem_cons.mpr ⟨kw_279, List.forall_mem_cons.mpr ⟨kw_281, List.forall_mem_cons.mpr ⟨kw_283, List.forall_mem_cons.mpr ⟨kw_285, List.forall_mem_cons.mpr ⟨kw_287, List.forall_mem_cons.mpr ⟨kw_289, List.forall_mem_cons.mpr ⟨kw_291, List.forall_mem_cons.mpr ⟨kw_293, List.forall_mem_cons.mpr ⟨kw_295, fun _ h => absurd h List.not_mem_nil⟩⟩⟩⟩⟩⟩⟩⟩⟩⟩
def TX1 : u_T := fun k => match k with
  | 0 => ("OnceNamed$Program", "blocks", "I", true)
  | 1 => ("OnceNamed$Program", "stepCount", "[I", true)
  | 2 => ("OnceNamed$Program", "kind", "[I", true)
  | 3 => ("OnceNamed$Program", "target", "[I", true)
  | 4 => ("OnceNamed$Program", "first", "[I", true)
  | 5 => ("OnceNamed$Program", "second", "[I", true)
  | 6 => ("OnceNamed$Program", "forkVariable", "[I", true)
  | 7 => ("OnceNamed$Program", "yes", "[I", true)
  | 8 => ("OnceNamed$Program", "no", "[I", true)
  | _ => ("OnceNamed$Program", "starts", "[I", true)
def tyX1 : Nat → FieldType := fun k => match k with
  | 0 => .int
  | 1 => .array .int
  | 2 => .array .int
  | 3 => .array .int
  | 4 => .array .int
  | 5 => .array .int
  | 6 => .array .int
  | 7 => .array .int
  | 8 => .array .int
  | _ => .array .int
theorem nmX1 : ∀ a, a < 10 → ∀ b, b < 10 → a ≠ b → (TX1 a).2.1 ≠ (TX1 b).2.1 := by decide +kernel
theorem tyX1_ok : ∀ k, k < 10 → parseFieldDescriptor (TX1 k).2.2.1 = some (tyX1 k) := by decide +kernel
theorem inX1 : ∀ w ∈ u_ws "OnceNamed$Program" TX1 10, w ∈ xW := by
  show ∀ w ∈ [Cond.laysFinal "OnceNamed$Program" "OnceNamed$Program" "blocks" "I", Cond.laysFinal "OnceNamed$Program" "OnceNamed$Program" "stepCount" "[I", Cond.laysFinal "OnceNamed$Program" "OnceNamed$Program" "kind" "[I", Cond.laysFinal "OnceNamed$Program" "OnceNamed$Program" "target" "[I", Cond.laysFinal "OnceNamed$Program" "OnceNamed$Program" "first" "[I", Cond.laysFinal "OnceNamed$Program" "OnceNamed$Program" "second" "[I", Cond.laysFinal "OnceNamed$Program" "OnceNamed$Program" "forkVariable" "[I", Cond.laysFinal "OnceNamed$Program" "OnceNamed$Program" "yes" "[I", Cond.laysFinal "OnceNamed$Program" "OnceNamed$Program" "no" "[I", Cond.laysFinal "OnceNamed$Program" "OnceNamed$Program" "starts" "[I"], w ∈ xW
  exact List.forall_mem_cons.mpr ⟨kw_54, List.forall_mem_cons.mpr ⟨kw_56, List.forall_mem_cons.mpr ⟨kw_58, List.forall_mem_cons.mpr ⟨kw_60, List.forall_mem_cons.mpr ⟨kw_62, List.forall_mem_cons.mpr ⟨kw_64, List.forall_mem_cons.mpr ⟨kw_66, List.forall_mem_cons.mpr ⟨kw_68, List.forall_mem_cons.mpr ⟨kw_70, List.forall_mem_cons.mpr ⟨kw_72, fun _ h => absurd h List.not_mem_nil⟩⟩⟩⟩⟩⟩⟩⟩⟩⟩
def TX2 : u_T := fun k => match k with
  | 0 => ("OnceNamed$Graph", "blocks", "I", true)
  | 1 => ("OnceNamed$Graph", "forerunners", "[I", true)
  | 2 => ("OnceNamed$Graph", "below", "[I", true)
  | 3 => ("OnceNamed$Graph", "frontiers", "[I", true)
  | 4 => ("OnceNamed$Graph", "parents", "[I", true)
  | 5 => ("OnceNamed$Graph", "order", "[I", true)
  | 6 => ("OnceNamed$Graph", "waiting", "[I", true)
  | 7 => ("OnceNamed$Graph", "orderSize", "I", false)
  | _ => ("OnceNamed$Graph", "reached", "I", false)
def tyX2 : Nat → FieldType := fun k => match k with
  | 0 => .int
  | 1 => .array .int
  | 2 => .array .int
  | 3 => .array .int
  | 4 => .array .int
  | 5 => .array .int
  | 6 => .array .int
  | 7 => .int
  | _ => .int
theorem nmX2 : ∀ a, a < 9 → ∀ b, b < 9 → a ≠ b → (TX2 a).2.1 ≠ (TX2 b).2.1 := by decide +kernel
theorem tyX2_ok : ∀ k, k < 9 → parseFieldDescriptor (TX2 k).2.2.1 = some (tyX2 k) := by decide +kernel
theorem inX2 : ∀ w ∈ u_ws "OnceNamed$Graph" TX2 9, w ∈ xW := by
  show ∀ w ∈ [Cond.laysFinal "OnceNamed$Graph" "OnceNamed$Graph" "blocks" "I", Cond.laysFinal "OnceNamed$Graph" "OnceNamed$Graph" "forerunners" "[I", Cond.laysFinal "OnceNamed$Graph" "OnceNamed$Graph" "below" "[I", Cond.laysFinal "OnceNamed$Graph" "OnceNamed$Graph" "frontiers" "[I", Cond.laysFinal "OnceNamed$Graph" "OnceNamed$Graph" "parents" "[I", Cond.laysFinal "OnceNamed$Graph" "OnceNamed$Graph" "order" "[I", Cond.laysFinal "OnceNamed$Graph" "OnceNamed$Graph" "waiting" "[I", Cond.lays "OnceNamed$Graph" "OnceNamed$Graph" "orderSize" "I", Cond.lays "OnceNamed$Graph" "OnceNamed$Graph" "reached" "I"], w ∈ xW
  exact List.forall_mem_cons.mpr ⟨kw_91, List.forall_mem_cons.mpr ⟨kw_93, List.forall_mem_cons.mpr ⟨kw_95, List.forall_mem_cons.mpr ⟨kw_97, List.forall_mem_cons.mpr ⟨kw_99, List.forall_mem_cons.mpr ⟨kw_101, List.forall_mem_cons.mpr ⟨kw_103, List.forall_mem_cons.mpr ⟨kw_105, List.forall_mem_cons.mpr ⟨kw_107, fun _ h => absurd h List.not_mem_nil⟩⟩⟩⟩⟩⟩⟩⟩⟩
def TX3 : u_T := fun k => match k with
  | 0 => ("OnceNamed$NamedForm", "program", "LOnceNamed$Program;", true)
  | 1 => ("OnceNamed$NamedForm", "graph", "LOnceNamed$Graph;", true)
  | 2 => ("OnceNamed$NamedForm", "entry", "I", true)
  | 3 => ("OnceNamed$NamedForm", "meetingNames", "[I", true)
  | 4 => ("OnceNamed$NamedForm", "meetingUses", "[I", true)
  | 5 => ("OnceNamed$NamedForm", "stepNames", "[I", true)
  | 6 => ("OnceNamed$NamedForm", "firstUses", "[I", true)
  | 7 => ("OnceNamed$NamedForm", "secondUses", "[I", true)
  | 8 => ("OnceNamed$NamedForm", "endUses", "[I", true)
  | 9 => ("OnceNamed$NamedForm", "lastNames", "[I", true)
  | 10 => ("OnceNamed$NamedForm", "namesOf", "[I", true)
  | 11 => ("OnceNamed$NamedForm", "homeBlock", "[I", true)
  | 12 => ("OnceNamed$NamedForm", "homePlace", "[I", true)
  | _ => ("OnceNamed$NamedForm", "standsFor", "[I", true)
def tyX3 : Nat → FieldType := fun k => match k with
  | 0 => .object "OnceNamed$Program"
  | 1 => .object "OnceNamed$Graph"
  | 2 => .int
  | 3 => .array .int
  | 4 => .array .int
  | 5 => .array .int
  | 6 => .array .int
  | 7 => .array .int
  | 8 => .array .int
  | 9 => .array .int
  | 10 => .array .int
  | 11 => .array .int
  | 12 => .array .int
  | _ => .array .int
theorem nmX3 : ∀ a, a < 14 → ∀ b, b < 14 → a ≠ b → (TX3 a).2.1 ≠ (TX3 b).2.1 := by decide +kernel
theorem tyX3_ok : ∀ k, k < 14 → parseFieldDescriptor (TX3 k).2.2.1 = some (tyX3 k) := by decide +kernel
theorem inX3 : ∀ w ∈ u_ws "OnceNamed$NamedForm" TX3 14, w ∈ xW := by
  show ∀ w ∈ [Cond.laysFinal "OnceNamed$NamedForm" "OnceNamed$NamedForm" "program" "LOnceNamed$Program;", Cond.laysFinal "OnceNamed$NamedForm" "OnceNamed$NamedForm" "graph" "LOnceNamed$Graph;", Cond.laysFinal "OnceNamed$NamedForm" "OnceNamed$NamedForm" "entry" "I", Cond.laysFinal "OnceNamed$NamedForm" "OnceNamed$NamedForm" "meetingNames" "[I", Cond.laysFinal "OnceNamed$NamedForm" "OnceNamed$NamedForm" "meetingUses" "[I", Cond.laysFinal "OnceNamed$NamedForm" "OnceNamed$NamedForm" "stepNames" "[I", Cond.laysFinal "OnceNamed$NamedForm" "OnceNamed$NamedForm" "firstUses" "[I", Cond.laysFinal "OnceNamed$NamedForm" "OnceNamed$NamedForm" "secondUses" "[I", Cond.laysFinal "OnceNamed$NamedForm" "OnceNamed$NamedForm" "endUses" "[I", Cond.laysFinal "OnceNamed$NamedForm" "OnceNamed$NamedForm" "lastNames" "[I", Cond.laysFinal "OnceNamed$NamedForm" "OnceNamed$NamedForm" "namesOf" "[I", Cond.laysFinal "OnceNamed$NamedForm" "OnceNamed$NamedForm" "homeBlock" "[I", Cond.laysFinal "OnceNamed$NamedForm" "OnceNamed$NamedForm" "homePlace" "[I", Cond.laysFinal "OnceNamed$NamedForm" "OnceNamed$NamedForm" "standsFor" "[I"], w ∈ xW
  exact List.forall_mem_cons.mpr ⟨kw_134, List.forall_mem_cons.mpr ⟨kw_136, List.forall_mem_cons.mpr ⟨kw_138, List.forall_mem_cons.mpr ⟨kw_140, List.forall_mem_cons.mpr ⟨kw_142, List.forall_mem_cons.mpr ⟨kw_144, List.forall_mem_cons.mpr ⟨kw_146, List.forall_mem_cons.mpr ⟨kw_148, List.forall_mem_cons.mpr ⟨kw_150, List.forall_mem_cons.mpr ⟨kw_152, List.forall_mem_cons.mpr ⟨kw_154, List.forall_mem_cons.mpr ⟨kw_156, List.forall_mem_cons.mpr ⟨kw_158, List.forall_mem_cons.mpr ⟨kw_160, fun _ h => absurd h List.not_mem_nil⟩⟩⟩⟩⟩⟩⟩⟩⟩⟩⟩⟩⟩⟩
def TX4 : u_T := fun k => match k with
  | 0 => ("OnceNamed$CopyPlan", "pendingTo", "[I", true)
  | 1 => ("OnceNamed$CopyPlan", "pendingFrom", "[I", true)
  | 2 => ("OnceNamed$CopyPlan", "copyTo", "[I", true)
  | 3 => ("OnceNamed$CopyPlan", "copyFrom", "[I", true)
  | 4 => ("OnceNamed$CopyPlan", "pending", "I", false)
  | _ => ("OnceNamed$CopyPlan", "length", "I", false)
def tyX4 : Nat → FieldType := fun k => match k with
  | 0 => .array .int
  | 1 => .array .int
  | 2 => .array .int
  | 3 => .array .int
  | 4 => .int
  | _ => .int
theorem nmX4 : ∀ a, a < 6 → ∀ b, b < 6 → a ≠ b → (TX4 a).2.1 ≠ (TX4 b).2.1 := by decide +kernel
theorem tyX4_ok : ∀ k, k < 6 → parseFieldDescriptor (TX4 k).2.2.1 = some (tyX4 k) := by decide +kernel
theorem inX4 : ∀ w ∈ u_ws "OnceNamed$CopyPlan" TX4 6, w ∈ xW := by
  show ∀ w ∈ [Cond.laysFinal "OnceNamed$CopyPlan" "OnceNamed$CopyPlan" "pendingTo" "[I", Cond.laysFinal "OnceNamed$CopyPlan" "OnceNamed$CopyPlan" "pendingFrom" "[I", Cond.laysFinal "OnceNamed$CopyPlan" "OnceNamed$CopyPlan" "copyTo" "[I", Cond.laysFinal "OnceNamed$CopyPlan" "OnceNamed$CopyPlan" "copyFrom" "[I", Cond.lays "OnceNamed$CopyPlan" "OnceNamed$CopyPlan" "pending" "I", Cond.lays "OnceNamed$CopyPlan" "OnceNamed$CopyPlan" "length" "I"], w ∈ xW
  exact List.forall_mem_cons.mpr ⟨kw_175, List.forall_mem_cons.mpr ⟨kw_177, List.forall_mem_cons.mpr ⟨kw_179, List.forall_mem_cons.mpr ⟨kw_181, List.forall_mem_cons.mpr ⟨kw_183, List.forall_mem_cons.mpr ⟨kw_185, fun _ h => absurd h List.not_mem_nil⟩⟩⟩⟩⟩⟩
def TX5 : u_T := fun k => match k with
  | 0 => ("OnceNamed$Runner", "program", "LOnceNamed$Program;", true)
  | 1 => ("OnceNamed$Runner", "form", "LOnceNamed$NamedForm;", true)
  | 2 => ("OnceNamed$Runner", "plan", "LOnceNamed$CopyPlan;", true)
  | 3 => ("OnceNamed$Runner", "values", "[I", true)
  | 4 => ("OnceNamed$Runner", "arriving", "[I", true)
  | _ => ("OnceNamed$Runner", "way", "I", false)
def tyX5 : Nat → FieldType := fun k => match k with
  | 0 => .object "OnceNamed$Program"
  | 1 => .object "OnceNamed$NamedForm"
  | 2 => .object "OnceNamed$CopyPlan"
  | 3 => .array .int
  | 4 => .array .int
  | _ => .int
theorem nmX5 : ∀ a, a < 6 → ∀ b, b < 6 → a ≠ b → (TX5 a).2.1 ≠ (TX5 b).2.1 := by decide +kernel
theorem tyX5_ok : ∀ k, k < 6 → parseFieldDescriptor (TX5 k).2.2.1 = some (tyX5 k) := by decide +kernel
theorem inX5 : ∀ w ∈ u_ws "OnceNamed$Runner" TX5 6, w ∈ xW := by
  show ∀ w ∈ [Cond.laysFinal "OnceNamed$Runner" "OnceNamed$Runner" "program" "LOnceNamed$Program;", Cond.laysFinal "OnceNamed$Runner" "OnceNamed$Runner" "form" "LOnceNamed$NamedForm;", Cond.laysFinal "OnceNamed$Runner" "OnceNamed$Runner" "plan" "LOnceNamed$CopyPlan;", Cond.laysFinal "OnceNamed$Runner" "OnceNamed$Runner" "values" "[I", Cond.laysFinal "OnceNamed$Runner" "OnceNamed$Runner" "arriving" "[I", Cond.lays "OnceNamed$Runner" "OnceNamed$Runner" "way" "I"], w ∈ xW
  exact List.forall_mem_cons.mpr ⟨kw_200, List.forall_mem_cons.mpr ⟨kw_202, List.forall_mem_cons.mpr ⟨kw_204, List.forall_mem_cons.mpr ⟨kw_206, List.forall_mem_cons.mpr ⟨kw_208, List.forall_mem_cons.mpr ⟨kw_210, fun _ h => absurd h List.not_mem_nil⟩⟩⟩⟩⟩⟩
def TX6 : u_T := fun k => match k with
  | 0 => ("OnceNamed$Talk", "numbers", "[I", true)
  | 1 => ("OnceNamed$Talk", "size", "I", false)
  | _ => ("OnceNamed$Talk", "outcome", "I", false)
def tyX6 : Nat → FieldType := fun k => match k with
  | 0 => .array .int
  | 1 => .int
  | _ => .int
theorem nmX6 : ∀ a, a < 3 → ∀ b, b < 3 → a ≠ b → (TX6 a).2.1 ≠ (TX6 b).2.1 := by decide +kernel
theorem tyX6_ok : ∀ k, k < 3 → parseFieldDescriptor (TX6 k).2.2.1 = some (tyX6 k) := by decide +kernel
theorem inX6 : ∀ w ∈ u_ws "OnceNamed$Talk" TX6 3, w ∈ xW := by
  show ∀ w ∈ [Cond.laysFinal "OnceNamed$Talk" "OnceNamed$Talk" "numbers" "[I", Cond.lays "OnceNamed$Talk" "OnceNamed$Talk" "size" "I", Cond.lays "OnceNamed$Talk" "OnceNamed$Talk" "outcome" "I"], w ∈ xW
  exact List.forall_mem_cons.mpr ⟨kw_222, List.forall_mem_cons.mpr ⟨kw_224, List.forall_mem_cons.mpr ⟨kw_226, fun _ h => absurd h List.not_mem_nil⟩⟩⟩
def TX7 : u_T := fun k => match k with
  | 0 => ("OnceNamedModel", "thrown", "I", false)
  | 1 => ("OnceNamedModel", "n", "I", false)
  | 2 => ("OnceNamedModel", "many", "[I", false)
  | 3 => ("OnceNamedModel", "kinds", "[I", false)
  | 4 => ("OnceNamedModel", "vs", "[I", false)
  | 5 => ("OnceNamedModel", "ws", "[I", false)
  | 6 => ("OnceNamedModel", "xs", "[I", false)
  | 7 => ("OnceNamedModel", "ends", "[I", false)
  | 8 => ("OnceNamedModel", "endVariable", "[I", false)
  | 9 => ("OnceNamedModel", "yes", "[I", false)
  | 10 => ("OnceNamedModel", "no", "[I", false)
  | 11 => ("OnceNamedModel", "starts", "[I", false)
  | 12 => ("OnceNamedModel", "reached", "I", false)
  | 13 => ("OnceNamedModel", "dominators", "[I", false)
  | 14 => ("OnceNamedModel", "form", "Z", false)
  | 15 => ("OnceNamedModel", "meets", "[I", false)
  | 16 => ("OnceNamedModel", "sources", "[I", false)
  | 17 => ("OnceNamedModel", "set", "[I", false)
  | 18 => ("OnceNamedModel", "useW", "[I", false)
  | 19 => ("OnceNamedModel", "useX", "[I", false)
  | 20 => ("OnceNamedModel", "endUse", "[I", false)
  | 21 => ("OnceNamedModel", "gone", "[Z", false)
  | 22 => ("OnceNamedModel", "isName", "[Z", false)
  | 23 => ("OnceNamedModel", "nameBlock", "[I", false)
  | 24 => ("OnceNamedModel", "nameStep", "[I", false)
  | 25 => ("OnceNamedModel", "numbers", "[I", false)
  | 26 => ("OnceNamedModel", "said", "[I", false)
  | 27 => ("OnceNamedModel", "saidCount", "[I", false)
  | 28 => ("OnceNamedModel", "failed", "[I", false)
  | 29 => ("OnceNamedModel", "values", "[I", false)
  | 30 => ("OnceNamedModel", "nextValues", "[I", false)
  | 31 => ("OnceNamedModel", "open", "[I", false)
  | 32 => ("OnceNamedModel", "slot", "I", false)
  | _ => ("OnceNamedModel", "over", "Z", false)
def tyX7 : Nat → FieldType := fun k => match k with
  | 0 => .int
  | 1 => .int
  | 2 => .array .int
  | 3 => .array .int
  | 4 => .array .int
  | 5 => .array .int
  | 6 => .array .int
  | 7 => .array .int
  | 8 => .array .int
  | 9 => .array .int
  | 10 => .array .int
  | 11 => .array .int
  | 12 => .int
  | 13 => .array .int
  | 14 => .boolean
  | 15 => .array .int
  | 16 => .array .int
  | 17 => .array .int
  | 18 => .array .int
  | 19 => .array .int
  | 20 => .array .int
  | 21 => .array .boolean
  | 22 => .array .boolean
  | 23 => .array .int
  | 24 => .array .int
  | 25 => .array .int
  | 26 => .array .int
  | 27 => .array .int
  | 28 => .array .int
  | 29 => .array .int
  | 30 => .array .int
  | 31 => .array .int
  | 32 => .int
  | _ => .boolean
theorem nmX7 : ∀ a, a < 34 → ∀ b, b < 34 → a ≠ b → (TX7 a).2.1 ≠ (TX7 b).2.1 := by decide +kernel
theorem tyX7_ok : ∀ k, k < 34 → parseFieldDescriptor (TX7 k).2.2.1 = some (tyX7 k) := by decide +kernel
theorem inX7 : ∀ w ∈ u_ws "OnceNamedModel" TX7 34, w ∈ xW := by
  show ∀ w ∈ [Cond.lays "OnceNamedModel" "OnceNamedModel" "thrown" "I", Cond.lays "OnceNamedModel" "OnceNamedModel" "n" "I", Cond.lays "OnceNamedModel" "OnceNamedModel" "many" "[I", Cond.lays "OnceNamedModel" "OnceNamedModel" "kinds" "[I", Cond.lays "OnceNamedModel" "OnceNamedModel" "vs" "[I", Cond.lays "OnceNamedModel" "OnceNamedModel" "ws" "[I", Cond.lays "OnceNamedModel" "OnceNamedModel" "xs" "[I", Cond.lays "OnceNamedModel" "OnceNamedModel" "ends" "[I", Cond.lays "OnceNamedModel" "OnceNamedModel" "endVariable" "[I", Cond.lays "OnceNamedModel" "OnceNamedModel" "yes" "[I", Cond.lays "OnceNamedModel" "OnceNamedModel" "no" "[I", Cond.lays "OnceNamedModel" "OnceNamedModel" "starts" "[I", Cond.lays "OnceNamedModel" "OnceNamedModel" "reached" "I", Cond.lays "OnceNamedModel" "OnceNamedModel" "dominators" "[I", Cond.lays "OnceNamedModel" "OnceNamedModel" "form" "Z", Cond.lays "OnceNamedModel" "OnceNamedModel" "meets" "[I", Cond.lays "OnceNamedModel" "OnceNamedModel" "sources" "[I", Cond.lays "OnceNamedModel" "OnceNamedModel" "set" "[I", Cond.lays "OnceNamedModel" "OnceNamedModel" "useW" "[I", Cond.lays "OnceNamedModel" "OnceNamedModel" "useX" "[I", Cond.lays "OnceNamedModel" "OnceNamedModel" "endUse" "[I", Cond.lays "OnceNamedModel" "OnceNamedModel" "gone" "[Z", Cond.lays "OnceNamedModel" "OnceNamedModel" "isName" "[Z", Cond.lays "OnceNamedModel" "OnceNamedModel" "nameBlock" "[I", Cond.lays "OnceNamedModel" "OnceNamedModel" "nameStep" "[I", Cond.lays "OnceNamedModel" "OnceNamedModel" "numbers" "[I", Cond.lays "OnceNamedModel" "OnceNamedModel" "said" "[I", Cond.lays "OnceNamedModel" "OnceNamedModel" "saidCount" "[I", Cond.lays "OnceNamedModel" "OnceNamedModel" "failed" "[I", Cond.lays "OnceNamedModel" "OnceNamedModel" "values" "[I", Cond.lays "OnceNamedModel" "OnceNamedModel" "nextValues" "[I", Cond.lays "OnceNamedModel" "OnceNamedModel" "open" "[I", Cond.lays "OnceNamedModel" "OnceNamedModel" "slot" "I", Cond.lays "OnceNamedModel" "OnceNamedModel" "over" "Z"], w ∈ xW
  exact List.forall_mem_cons.mpr ⟨kw_1019, List.forall_mem_cons.mpr ⟨kw_1021, List.forall_mem_cons.mpr ⟨kw_1023, List.forall_mem_cons.mpr ⟨kw_1025, List.forall_mem_cons.mpr ⟨kw_1027, List.forall_mem_cons.mpr ⟨kw_1029, List.forall_mem_cons.mpr ⟨kw_1031, List.forall_mem_cons.mpr ⟨kw_1033, List.forall_mem_cons.mpr ⟨kw_1035, List.forall_mem_cons.mpr ⟨kw_1037, List.forall_mem_cons.mpr ⟨kw_1039, List.forall_mem_cons.mpr ⟨kw_1041, List.forall_mem_cons.mpr ⟨kw_1043, List.forall_mem_cons.mpr ⟨kw_1045, List.forall_mem_cons.mpr ⟨kw_1047, List.forall_mem_cons.mpr ⟨kw_1049, List.forall_mem_cons.mpr ⟨kw_1051, List.forall_mem_cons.mpr ⟨kw_1053, List.forall_mem_cons.mpr ⟨kw_1055, List.forall_mem_cons.mpr ⟨kw_1057, List.forall_mem_cons.mpr ⟨kw_1059, List.forall_mem_cons.mpr ⟨kw_1061, List.forall_mem_cons.mpr ⟨kw_1063, List.forall_mem_cons.mpr ⟨kw_1065, List.forall_mem_cons.mpr ⟨kw_1067, List.forall_mem_cons.mpr ⟨kw_1069, List.forall_mem_cons.mpr ⟨kw_1071, List.forall_mem_cons.mpr ⟨kw_1073, List.forall_mem_cons.mpr ⟨kw_1075, List.forall_mem_cons.mpr ⟨kw_1077, List.forall_mem_cons.mpr ⟨kw_1079, List.forall_mem_cons.mpr ⟨kw_1081, List.forall_mem_cons.mpr ⟨kw_1083, List.forall_mem_cons.mpr ⟨kw_1085, fun _ h => absurd h List.not_mem_nil⟩⟩⟩⟩⟩⟩⟩⟩⟩⟩⟩⟩⟩⟩⟩⟩⟩⟩⟩⟩⟩⟩⟩⟩⟩⟩⟩⟩⟩⟩⟩⟩⟩⟩
abbrev vwCl : List vw_C := [("OnceNamed", TX0, 10), ("OnceNamed$Program", TX1, 10), ("OnceNamed$Graph", TX2, 9), ("OnceNamed$NamedForm", TX3, 14), ("OnceNamed$CopyPlan", TX4, 6), ("OnceNamed$Runner", TX5, 6), ("OnceNamed$Talk", TX6, 3), ("OnceNamedModel", TX7, 34)]
/-- the two calls of a private method of the outer class out of inner ones -/
def xNN (U : State) : Prop := va_Nw (.methodLinkNest "OnceNamed$Graph" 45 yOn_has "OnceNamed") U ∧ va_Nw (.methodLinkNest "OnceNamed$NamedForm" 102 yOn_has "OnceNamed") U
theorem xNN_same {u U : State} (h : u.vm = U.vm) (hN : xNN u) : xNN U := ⟨va_Nw.same rfl h hN.1, va_Nw.same rfl h hN.2⟩
theorem xNN_warm {s U : State} (hW : s.WarmedH U.vm) (hN : xNN s) : xNN U := ⟨va_Nw.warmM hW hN.1, va_Nw.warmM hW hN.2⟩
/-! Words and rows of my own: booleans as ints, worlds at a start and an end, calls with the frame rule in one row -/
def bI (z : Bool) : Int32 := match z with
  | true => 1
  | false => 0
theorem bI_0 {z : Bool} (h : bI z = 0) : z = false := by
  cases z with
  | false => rfl
  | true => exact absurd h (by decide)
theorem bI_1 {z : Bool} (h : ¬ bI z = 0) : z = true := by
  cases z with
  | true => rfl
  | false => exact absurd rfl h
theorem bI_nar (z : Bool) : narrow .boolean (.int (bI z)) = .int (bI z) := by cases z <;> rfl
theorem bI_fit (z : Bool) : fits .boolean (.int (bI z)) = true := by cases z <;> rfl
theorem xsw_out5 {x : Int32} (h2 : ¬ x = 2) (h3 : ¬ x = 3) (h4 : ¬ x = 4) (h5 : ¬ x = 5) (h6 : ¬ x = 6) : x.toInt < 2 ∨ 6 < x.toInt := by
  have a2 := lv_neT h2 (show (2 : Int32).toInt = 2 by decide)
  have a3 := lv_neT h3 (show (3 : Int32).toInt = 3 by decide)
  have a4 := lv_neT h4 (show (4 : Int32).toInt = 4 by decide)
  have a5 := lv_neT h5 (show (5 : Int32).toInt = 5 by decide)
  have a6 := lv_neT h6 (show (6 : Int32).toInt = 6 by decide)
  omega
/-- a world at a method's start -/
def xPc (D : va_G) (tys : List (ClassId × FieldType)) (WD : va_W) (sz : Nat) (U : State) : Prop := U.heap.size = sz ∧ va_P D vwCl WD U.heap ∧ va_K D vwCl tys U ∧ va_D (fun _ => True) WD ∧ xNN U
/-- a world at a method's end -/
def xB (D : va_G) (tys : List (ClassId × FieldType)) (A : Nat → Prop) (WD : va_W) (t : State) : Prop := va_P D vwCl WD t.heap ∧ va_K D vwCl tys t ∧ va_D A WD
theorem xblind {D : va_G} {tys : List (ClassId × FieldType)} {WD : va_W} {sz : Nat} {av : List Value} : FrameBlind (va_Pc av (xPc D tys WD sz)) := by
  intro a U g mk q
  obtain ⟨q0, q1, qP, qK, qD, qN⟩ := q
  exact ⟨q0, q1, qP, va_K.moved (u := U) (U := U.calling g mk a) (Vm.Alike.refl U.vm) qK, qD, xNN_same (u := U) (U := U.calling g mk a) rfl qN⟩
theorem xP_sub {D : va_G} {cl : List vw_C} {ws ws' : va_W} {H : Heap} {is : List Nat} (h : va_P D cl ws H) (hC : is.map (fun i => ws[i]?) = ws'.map some) : va_P D cl ws' H := by
  intro k q hk
  have h1 : (is.map (fun i => ws[i]?))[k]? = some (some q) := by rw [hC, List.getElem?_map, hk]; rfl
  rw [List.getElem?_map] at h1
  cases hi : is[k]? with
  | none => rw [hi] at h1; cases h1
  | some i => rw [hi] at h1; exact h i q (Option.some.inj h1)
theorem xpreS {s : State} {H : Heap} {D : va_G} {tys : List (ClassId × FieldType)} {WD wc : va_W} {A : Nat → Prop} {As : List Value} (hK : va_K D vwCl tys s) (hP : va_P D vwCl WD H) (hD : va_D A WD) (hN : xNN s) (isC : List Nat) (hC : isC.map (fun i => WD[i]?) = wc.map some) (hn : va_nd isC = true) : PreS s H (va_Pc As (xPc D tys wc H.size)) As :=
  ⟨xblind, fun U hU hW => ⟨rfl, by rw [hU], by rw [hU]; exact xP_sub hP hC, va_K.moved hW.alike hK, (hD.sub isC hn hC).weaken (fun _ _ _ _ => trivial), xNN_warm hW hN⟩⟩
theorem xpreV {s : State} {H : Heap} {D : va_G} {tys : List (ClassId × FieldType)} {WD wc : va_W} {A : Nat → Prop} {As : List Value} {b ci : Nat} {q : vw_C} {fs : List Value} (hK : va_K D vwCl tys s) (hP : va_P D vwCl WD H) (hD : va_D A WD) (hN : xNN s) (isC : List Nat) (hC : isC.map (fun i => WD[i]?) = wc.map some) (hn : va_nd isC = true) (q0 : Nat) (he : WD[q0]? = some (b, .inr (ci, fs))) (hc : vwCl[ci]? = some q) : PreV s H q.1 b (va_Pc (.ref b :: As) (xPc D tys wc H.size)) As :=
  ⟨xblind, va_recv hK hP hc he, fun U hU hW => ⟨rfl, by rw [hU], by rw [hU]; exact xP_sub hP hC, va_K.moved hW.alike hK, (hD.sub isC hn hC).weaken (fun _ _ _ _ => trivial), xNN_warm hW hN⟩⟩
section XC
variable {p : Program} {l : Launch} {e : Env} {R : Room} {s : State} {m : MethodId} {args : Array Value} {below : List Frame} {meth : Method} {c : Code} {H : Heap} {locs : List Loc} {cells slots : Nat} {Q : State → Prop}
variable {pc : Nat} {ls : Array Slot} {rest st0 : List Value} {a : Array Value} {A0 : Nat → Prop} {H0 : Heap} {mc ms : Nat} {D : va_G} {tys : List (ClassId × FieldType)} {WD wc : va_W}
theorem xci {S : Type} {post : Int32 → S → Prop} {w1 : S → va_W}
    (hr : va_Run p l e R s m args below meth c H locs cells slots mc ms (F0 m pc ls st0) rest (va_Qi post (fun u t => xB D tys (va_A wc H.size) (w1 u) t) (va_A wc H.size) a) (va_A wc H.size))
    (hP : va_P D vwCl WD H) (hD : va_D A0 WD) (hS : va_S A0 H0 H locs) (hA : ∀ q, H0.size ≤ q → A0 q) (isC isR : List Nat) (hC : isC.map (fun i => WD[i]?) = wc.map some) (hR : isR.map (fun i => WD[i]?) = (isR.filterMap (fun i => WD[i]?)).map some) (hn : va_nd isR = true) (hdis : (isR.all fun i => !isC.contains i) = true) (isP : List Nat) (hn2 : va_nd isP = true)
    (hP2 : ∀ u, isP.map (fun i => (isR.filterMap (fun i => WD[i]?) ++ w1 u)[i]?) = (isP.filterMap (fun i => (isR.filterMap (fun i => WD[i]?) ++ w1 u)[i]?)).map some)
    (kk : ∀ (r : Int32) (u : S) (H1 : Heap) (locs1 : List Loc), post r u → va_P D vwCl (isP.filterMap (fun i => (isR.filterMap (fun i => WD[i]?) ++ w1 u)[i]?)) H1 → va_D A0 (isP.filterMap (fun i => (isR.filterMap (fun i => WD[i]?) ++ w1 u)[i]?)) → va_S A0 H0 H1 locs1 → W p l e R s m args below meth c H1 locs1 (cells + mc) (slots + ms) Q (F0 m (pc + 3) ls (.int r :: rest))) : W p l e R s m args below meth c H locs cells slots Q (F0 m pc ls st0) := by
  have hFc := va_free hD hS hA isC hC
  refine va_calli hr hS (fun q _ h => hFc q h) hFc (fun r u t H1 locs1 ht hvm hp hB hz hk hS => ?_)
  obtain ⟨hP1, hK1, hD1⟩ := hB
  rw [ht] at hP1
  obtain ⟨hP', hD'⟩ := va_join hP hD isC isR hC hR hn (fun i hi hc => by
    have h1 := List.all_eq_true.mp hdis i hi
    simp at h1
    exact h1 hc) hk hFc hP1 hD1
  exact kk r u H1 locs1 hp (hP'.sub isP rfl) (hD'.sub isP hn2 (hP2 u)) hS
theorem xcv {S : Type} {post : S → Prop} {w1 : S → va_W}
    (hr : va_Run p l e R s m args below meth c H locs cells slots mc ms (F0 m pc ls st0) rest (va_Qv post (fun u t => xB D tys (va_A wc H.size) (w1 u) t) (va_A wc H.size) a) (va_A wc H.size))
    (hP : va_P D vwCl WD H) (hD : va_D A0 WD) (hS : va_S A0 H0 H locs) (hA : ∀ q, H0.size ≤ q → A0 q) (isC isR : List Nat) (hC : isC.map (fun i => WD[i]?) = wc.map some) (hR : isR.map (fun i => WD[i]?) = (isR.filterMap (fun i => WD[i]?)).map some) (hn : va_nd isR = true) (hdis : (isR.all fun i => !isC.contains i) = true) (isP : List Nat) (hn2 : va_nd isP = true)
    (hP2 : ∀ u, isP.map (fun i => (isR.filterMap (fun i => WD[i]?) ++ w1 u)[i]?) = (isP.filterMap (fun i => (isR.filterMap (fun i => WD[i]?) ++ w1 u)[i]?)).map some)
    (kk : ∀ (u : S) (H1 : Heap) (locs1 : List Loc), post u → va_P D vwCl (isP.filterMap (fun i => (isR.filterMap (fun i => WD[i]?) ++ w1 u)[i]?)) H1 → va_D A0 (isP.filterMap (fun i => (isR.filterMap (fun i => WD[i]?) ++ w1 u)[i]?)) → va_S A0 H0 H1 locs1 → W p l e R s m args below meth c H1 locs1 (cells + mc) (slots + ms) Q (F0 m (pc + 3) ls rest)) : W p l e R s m args below meth c H locs cells slots Q (F0 m pc ls st0) := by
  have hFc := va_free hD hS hA isC hC
  refine va_callv hr hS (fun q _ h => hFc q h) hFc (fun u t H1 locs1 ht hvm hp hB hz hk hS => ?_)
  obtain ⟨hP1, hK1, hD1⟩ := hB
  rw [ht] at hP1
  obtain ⟨hP', hD'⟩ := va_join hP hD isC isR hC hR hn (fun i hi hc => by
    have h1 := List.all_eq_true.mp hdis i hi
    simp at h1
    exact h1 hc) hk hFc hP1 hD1
  exact kk u H1 locs1 hp (hP'.sub isP rfl) (hD'.sub isP hn2 (hP2 u)) hS
end XC
/-! arrays of booleans -/
def updB (g : Nat → Bool) (k : Nat) (z : Bool) : Nat → Bool := fun j => if j = k then z else g j
theorem updB_upd (g : Nat → Bool) (k : Nat) (z : Bool) : upd (fun j => bI (g j)) k (vp_nar .boolean (bI z)) = fun j => bI (updB g k z j) := by
  have h : vp_nar .boolean (bI z) = bI z := by cases z <;> rfl
  funext j
  rw [h]
  by_cases hj : j = k
  · subst hj; simp [upd, updB]
  · simp [upd, updB, hj]
section XZ
variable {p : Program} {l : Launch} {e : Env} {R : Room} {s : State} {m : MethodId} {args : Array Value} {below : List Frame} {meth : Method} {c : Code} {H : Heap} {locs : List Loc} {cells slots : Nat} {Q : State → Prop}
variable {cc : ByteArray} {pc : Nat} {ls : Array Slot} {rest : List Value} {D : va_G} {cl : List vw_C} {A : Nat → Prop} {a : Nat} {tys : List (ClassId × FieldType)} {ws : va_W} {H0 : Heap}
theorem xzald (hexec : p.tables.exec = Jvm.exec) (hb : c.code = cc) (hK : va_K D cl tys s) (hP : va_P D cl ws H) (q0 t0 : Nat) {cB : ClassId} {n : Nat} {g : Nat → Bool} (ha : ws[q0]? = some (a, .inl (cB, n, .inl (fun j => bI (g j))))) (ht : tys[t0]? = some (cB, .boolean)) {i : Int32} (hin : vp_in i n) (hdg : decode cc pc = .ok (.baload, 1))
    (kk : W p l e R s m args below meth c H locs cells slots Q (F0 m (pc + 1) ls (.int (bI (g i.toNatClampNeg)) :: rest))) : W p l e R s m args below meth c H locs cells slots Q (F0 m pc ls (.int i :: .ref a :: rest)) := va_zald hexec hb hK hP q0 t0 ha ht hin hdg kk
theorem xzast (hexec : p.tables.exec = Jvm.exec) (hb : c.code = cc) (hK : va_K D cl tys s) (hP : va_P D cl ws H) (hD : va_D A ws) (hS : va_S A H0 H locs) (q0 t0 : Nat) {cB : ClassId} {n : Nat} {g : Nat → Bool} (ha : ws[q0]? = some (a, .inl (cB, n, .inl (fun j => bI (g j))))) (ht : tys[t0]? = some (cB, .boolean)) {i : Int32} {z : Bool} (hin : vp_in i n) (hdg : decode cc pc = .ok (.bastore, 1))
    (kk : ∀ (H1 : Heap) (locs1 : List Loc), va_P D cl (ws.set q0 (a, .inl (cB, n, .inl (fun j => bI (updB g i.toNatClampNeg z j))))) H1 → va_D A (ws.set q0 (a, .inl (cB, n, .inl (fun j => bI (updB g i.toNatClampNeg z j))))) → va_S A H0 H1 locs1 → W p l e R s m args below meth c H1 locs1 cells slots Q (F0 m (pc + 1) ls rest)) : W p l e R s m args below meth c H locs cells slots Q (F0 m pc ls (.int (bI z) :: .int i :: .ref a :: rest)) := by
  refine va_zast hexec hb hK hP hD hS q0 t0 ha ht hin hdg (fun H1 locs1 h1 h2 h3 => ?_)
  rw [updB_upd] at h1 h2
  exact kk H1 locs1 h1 h2 h3
end XZ
