section
-- ===== PART A: goes FIRST, ahead of the names: the tables' words, and 'selects' of the private methods out of them =====
/-- a private method of a class that the tables say can be made, by its rows of tables_1 -/
def lw_okq (q : MethodName × Nat) : Prop := (q.1.cls ≠ "java/lang/invoke/MethodHandle" ∧ q.1.cls ≠ "java/lang/invoke/VarHandle") ∧ Cond.instantiable q.1.cls q.2 ∈ tables_1 ∧ Cond.privateMethod q.1 ∈ tables_1 ∧ Cond.instanceMethod q.1 ∈ tables_1
theorem lw_p0 : lw_okq (⟨"OnceNamed$Graph", "reachedWithout", "(LOnceNamed$Program;I)I"⟩, 9) := ⟨⟨by decide +kernel, by decide +kernel⟩, List.mem_of_getElem? (i := 77) (by decide +kernel), List.mem_of_getElem? (i := 234) (by decide +kernel), List.mem_of_getElem? (i := 235) (by decide +kernel)⟩
theorem lw_p1 : lw_okq (⟨"OnceNamed$Graph", "findForerunners", "(LOnceNamed$Program;)V"⟩, 9) := ⟨⟨by decide +kernel, by decide +kernel⟩, List.mem_of_getElem? (i := 77) (by decide +kernel), List.mem_of_getElem? (i := 245) (by decide +kernel), List.mem_of_getElem? (i := 246) (by decide +kernel)⟩
theorem lw_p2 : lw_okq (⟨"OnceNamed$Graph", "nearestAbove", "(I)I"⟩, 9) := ⟨⟨by decide +kernel, by decide +kernel⟩, List.mem_of_getElem? (i := 77) (by decide +kernel), List.mem_of_getElem? (i := 250) (by decide +kernel), List.mem_of_getElem? (i := 251) (by decide +kernel)⟩
theorem lw_p3 : lw_okq (⟨"OnceNamed$Graph", "findFrontier", "(I)I"⟩, 9) := ⟨⟨by decide +kernel, by decide +kernel⟩, List.mem_of_getElem? (i := 77) (by decide +kernel), List.mem_of_getElem? (i := 260) (by decide +kernel), List.mem_of_getElem? (i := 261) (by decide +kernel)⟩
theorem lw_p4 : lw_okq (⟨"OnceNamed$Graph", "findOrder", "()V"⟩, 9) := ⟨⟨by decide +kernel, by decide +kernel⟩, List.mem_of_getElem? (i := 77) (by decide +kernel), List.mem_of_getElem? (i := 264) (by decide +kernel), List.mem_of_getElem? (i := 265) (by decide +kernel)⟩
theorem lw_p5 : lw_okq (⟨"OnceNamed$NamedForm", "forgetAll", "()V"⟩, 14) := ⟨⟨by decide +kernel, by decide +kernel⟩, List.mem_of_getElem? (i := 111) (by decide +kernel), List.mem_of_getElem? (i := 307) (by decide +kernel), List.mem_of_getElem? (i := 308) (by decide +kernel)⟩
theorem lw_p6 : lw_okq (⟨"OnceNamed$NamedForm", "markMeetings", "(I)V"⟩, 14) := ⟨⟨by decide +kernel, by decide +kernel⟩, List.mem_of_getElem? (i := 111) (by decide +kernel), List.mem_of_getElem? (i := 312) (by decide +kernel), List.mem_of_getElem? (i := 313) (by decide +kernel)⟩
theorem lw_p7 : lw_okq (⟨"OnceNamed$NamedForm", "newName", "(III)I"⟩, 14) := ⟨⟨by decide +kernel, by decide +kernel⟩, List.mem_of_getElem? (i := 111) (by decide +kernel), List.mem_of_getElem? (i := 340) (by decide +kernel), List.mem_of_getElem? (i := 341) (by decide +kernel)⟩
theorem lw_p8 : lw_okq (⟨"OnceNamed$NamedForm", "nameBlock", "(I)V"⟩, 14) := ⟨⟨by decide +kernel, by decide +kernel⟩, List.mem_of_getElem? (i := 111) (by decide +kernel), List.mem_of_getElem? (i := 344) (by decide +kernel), List.mem_of_getElem? (i := 345) (by decide +kernel)⟩
theorem lw_p9 : lw_okq (⟨"OnceNamed$NamedForm", "nameStep", "(II)V"⟩, 14) := ⟨⟨by decide +kernel, by decide +kernel⟩, List.mem_of_getElem? (i := 111) (by decide +kernel), List.mem_of_getElem? (i := 359) (by decide +kernel), List.mem_of_getElem? (i := 360) (by decide +kernel)⟩
theorem lw_p10 : lw_okq (⟨"OnceNamed$NamedForm", "lastName", "(II)I"⟩, 14) := ⟨⟨by decide +kernel, by decide +kernel⟩, List.mem_of_getElem? (i := 111) (by decide +kernel), List.mem_of_getElem? (i := 370) (by decide +kernel), List.mem_of_getElem? (i := 371) (by decide +kernel)⟩
theorem lw_p11 : lw_okq (⟨"OnceNamed$NamedForm", "findMeetingUses", "()V"⟩, 14) := ⟨⟨by decide +kernel, by decide +kernel⟩, List.mem_of_getElem? (i := 111) (by decide +kernel), List.mem_of_getElem? (i := 386) (by decide +kernel), List.mem_of_getElem? (i := 387) (by decide +kernel)⟩
theorem lw_p12 : lw_okq (⟨"OnceNamed$NamedForm", "findUsesOfMeeting", "(II)V"⟩, 14) := ⟨⟨by decide +kernel, by decide +kernel⟩, List.mem_of_getElem? (i := 111) (by decide +kernel), List.mem_of_getElem? (i := 390) (by decide +kernel), List.mem_of_getElem? (i := 391) (by decide +kernel)⟩
theorem lw_p13 : lw_okq (⟨"OnceNamed$NamedForm", "useOfMeeting", "(III)I"⟩, 14) := ⟨⟨by decide +kernel, by decide +kernel⟩, List.mem_of_getElem? (i := 111) (by decide +kernel), List.mem_of_getElem? (i := 398) (by decide +kernel), List.mem_of_getElem? (i := 399) (by decide +kernel)⟩
theorem lw_p14 : lw_okq (⟨"OnceNamed", "requireBlock", "(I)V"⟩, 10) := ⟨⟨by decide +kernel, by decide +kernel⟩, List.mem_of_getElem? (i := 22) (by decide +kernel), List.mem_of_getElem? (i := 414) (by decide +kernel), List.mem_of_getElem? (i := 415) (by decide +kernel)⟩
theorem lw_p15 : lw_okq (⟨"java/lang/Throwable", "fillInStackTrace", "(I)Ljava/lang/Throwable;"⟩, 6) := ⟨⟨by decide +kernel, by decide +kernel⟩, List.mem_of_getElem? (i := 458) (by decide +kernel), List.mem_of_getElem? (i := 456) (by decide +kernel), List.mem_of_getElem? (i := 457) (by decide +kernel)⟩
def lw_privs_1 : List (MethodName × Nat) := [(⟨"OnceNamed$Graph", "reachedWithout", "(LOnceNamed$Program;I)I"⟩, 9), (⟨"OnceNamed$Graph", "findForerunners", "(LOnceNamed$Program;)V"⟩, 9), (⟨"OnceNamed$Graph", "nearestAbove", "(I)I"⟩, 9), (⟨"OnceNamed$Graph", "findFrontier", "(I)I"⟩, 9), (⟨"OnceNamed$Graph", "findOrder", "()V"⟩, 9), (⟨"OnceNamed$NamedForm", "forgetAll", "()V"⟩, 14), (⟨"OnceNamed$NamedForm", "markMeetings", "(I)V"⟩, 14), (⟨"OnceNamed$NamedForm", "newName", "(III)I"⟩, 14), (⟨"OnceNamed$NamedForm", "nameBlock", "(I)V"⟩, 14), (⟨"OnceNamed$NamedForm", "nameStep", "(II)V"⟩, 14), (⟨"OnceNamed$NamedForm", "lastName", "(II)I"⟩, 14), (⟨"OnceNamed$NamedForm", "findMeetingUses", "()V"⟩, 14), (⟨"OnceNamed$NamedForm", "findUsesOfMeeting", "(II)V"⟩, 14), (⟨"OnceNamed$NamedForm", "useOfMeeting", "(III)I"⟩, 14), (⟨"OnceNamed", "requireBlock", "(I)V"⟩, 10), (⟨"java/lang/Throwable", "fillInStackTrace", "(I)Ljava/lang/Throwable;"⟩, 6)]
theorem lw_r1 : ∀ q ∈ lw_privs_1, lw_okq q := List.forall_mem_cons.mpr ⟨lw_p0, List.forall_mem_cons.mpr ⟨lw_p1, List.forall_mem_cons.mpr ⟨lw_p2, List.forall_mem_cons.mpr ⟨lw_p3, List.forall_mem_cons.mpr ⟨lw_p4, List.forall_mem_cons.mpr ⟨lw_p5, List.forall_mem_cons.mpr ⟨lw_p6, List.forall_mem_cons.mpr ⟨lw_p7, List.forall_mem_cons.mpr ⟨lw_p8, List.forall_mem_cons.mpr ⟨lw_p9, List.forall_mem_cons.mpr ⟨lw_p10, List.forall_mem_cons.mpr ⟨lw_p11, List.forall_mem_cons.mpr ⟨lw_p12, List.forall_mem_cons.mpr ⟨lw_p13, List.forall_mem_cons.mpr ⟨lw_p14, List.forall_mem_cons.mpr ⟨lw_p15, fun _ h => absurd h List.not_mem_nil⟩⟩⟩⟩⟩⟩⟩⟩⟩⟩⟩⟩⟩⟩⟩⟩
theorem lw_p16 : lw_okq (⟨"OnceNamed", "giveEnd", "(IIII)V"⟩, 10) := ⟨⟨by decide +kernel, by decide +kernel⟩, List.mem_of_getElem? (i := 22) (by decide +kernel), List.mem_of_getElem? (i := 528) (by decide +kernel), List.mem_of_getElem? (i := 529) (by decide +kernel)⟩
theorem lw_p17 : lw_okq (⟨"OnceNamed", "requireForm", "()V"⟩, 10) := ⟨⟨by decide +kernel, by decide +kernel⟩, List.mem_of_getElem? (i := 22) (by decide +kernel), List.mem_of_getElem? (i := 569) (by decide +kernel), List.mem_of_getElem? (i := 570) (by decide +kernel)⟩
theorem lw_p18 : lw_okq (⟨"OnceNamed$NamedForm", "isBlockSound", "(I)Z"⟩, 14) := ⟨⟨by decide +kernel, by decide +kernel⟩, List.mem_of_getElem? (i := 111) (by decide +kernel), List.mem_of_getElem? (i := 593) (by decide +kernel), List.mem_of_getElem? (i := 594) (by decide +kernel)⟩
theorem lw_p19 : lw_okq (⟨"OnceNamed$NamedForm", "isUseSound", "(III)Z"⟩, 14) := ⟨⟨by decide +kernel, by decide +kernel⟩, List.mem_of_getElem? (i := 111) (by decide +kernel), List.mem_of_getElem? (i := 597) (by decide +kernel), List.mem_of_getElem? (i := 598) (by decide +kernel)⟩
theorem lw_p20 : lw_okq (⟨"OnceNamed$NamedForm", "areMeetingsSound", "(I)Z"⟩, 14) := ⟨⟨by decide +kernel, by decide +kernel⟩, List.mem_of_getElem? (i := 111) (by decide +kernel), List.mem_of_getElem? (i := 605) (by decide +kernel), List.mem_of_getElem? (i := 606) (by decide +kernel)⟩
theorem lw_p21 : lw_okq (⟨"OnceNamed$NamedForm", "dropCopiesOf", "(I)I"⟩, 14) := ⟨⟨by decide +kernel, by decide +kernel⟩, List.mem_of_getElem? (i := 111) (by decide +kernel), List.mem_of_getElem? (i := 614) (by decide +kernel), List.mem_of_getElem? (i := 615) (by decide +kernel)⟩
theorem lw_p22 : lw_okq (⟨"OnceNamed$NamedForm", "replaceAll", "([I)V"⟩, 14) := ⟨⟨by decide +kernel, by decide +kernel⟩, List.mem_of_getElem? (i := 111) (by decide +kernel), List.mem_of_getElem? (i := 622) (by decide +kernel), List.mem_of_getElem? (i := 623) (by decide +kernel)⟩
theorem lw_p23 : lw_okq (⟨"OnceNamed", "requireMeetingUse", "(III)V"⟩, 10) := ⟨⟨by decide +kernel, by decide +kernel⟩, List.mem_of_getElem? (i := 22) (by decide +kernel), List.mem_of_getElem? (i := 672) (by decide +kernel), List.mem_of_getElem? (i := 673) (by decide +kernel)⟩
theorem lw_p24 : lw_okq (⟨"OnceNamed", "requireBlockOrEntry", "(I)V"⟩, 10) := ⟨⟨by decide +kernel, by decide +kernel⟩, List.mem_of_getElem? (i := 22) (by decide +kernel), List.mem_of_getElem? (i := 676) (by decide +kernel), List.mem_of_getElem? (i := 677) (by decide +kernel)⟩
theorem lw_p25 : lw_okq (⟨"OnceNamed", "requireStep", "(II)V"⟩, 10) := ⟨⟨by decide +kernel, by decide +kernel⟩, List.mem_of_getElem? (i := 22) (by decide +kernel), List.mem_of_getElem? (i := 692) (by decide +kernel), List.mem_of_getElem? (i := 693) (by decide +kernel)⟩
theorem lw_p26 : lw_okq (⟨"OnceNamed", "requireUse", "(III)V"⟩, 10) := ⟨⟨by decide +kernel, by decide +kernel⟩, List.mem_of_getElem? (i := 22) (by decide +kernel), List.mem_of_getElem? (i := 708) (by decide +kernel), List.mem_of_getElem? (i := 709) (by decide +kernel)⟩
theorem lw_p27 : lw_okq (⟨"OnceNamed", "nameUsed", "(III)I"⟩, 10) := ⟨⟨by decide +kernel, by decide +kernel⟩, List.mem_of_getElem? (i := 22) (by decide +kernel), List.mem_of_getElem? (i := 713) (by decide +kernel), List.mem_of_getElem? (i := 714) (by decide +kernel)⟩
theorem lw_p28 : lw_okq (⟨"OnceNamed", "requireName", "(I)V"⟩, 10) := ⟨⟨by decide +kernel, by decide +kernel⟩, List.mem_of_getElem? (i := 22) (by decide +kernel), List.mem_of_getElem? (i := 736) (by decide +kernel), List.mem_of_getElem? (i := 737) (by decide +kernel)⟩
theorem lw_p29 : lw_okq (⟨"OnceNamed$CopyPlan", "collect", "(LOnceNamed$NamedForm;II)V"⟩, 6) := ⟨⟨by decide +kernel, by decide +kernel⟩, List.mem_of_getElem? (i := 164) (by decide +kernel), List.mem_of_getElem? (i := 782) (by decide +kernel), List.mem_of_getElem? (i := 783) (by decide +kernel)⟩
theorem lw_p30 : lw_okq (⟨"OnceNamed$CopyPlan", "freeMove", "()I"⟩, 6) := ⟨⟨by decide +kernel, by decide +kernel⟩, List.mem_of_getElem? (i := 164) (by decide +kernel), List.mem_of_getElem? (i := 788) (by decide +kernel), List.mem_of_getElem? (i := 789) (by decide +kernel)⟩
theorem lw_p31 : lw_okq (⟨"OnceNamed$CopyPlan", "isAwaited", "(I)Z"⟩, 6) := ⟨⟨by decide +kernel, by decide +kernel⟩, List.mem_of_getElem? (i := 164) (by decide +kernel), List.mem_of_getElem? (i := 792) (by decide +kernel), List.mem_of_getElem? (i := 793) (by decide +kernel)⟩
def lw_privs_2 : List (MethodName × Nat) := [(⟨"OnceNamed", "giveEnd", "(IIII)V"⟩, 10), (⟨"OnceNamed", "requireForm", "()V"⟩, 10), (⟨"OnceNamed$NamedForm", "isBlockSound", "(I)Z"⟩, 14), (⟨"OnceNamed$NamedForm", "isUseSound", "(III)Z"⟩, 14), (⟨"OnceNamed$NamedForm", "areMeetingsSound", "(I)Z"⟩, 14), (⟨"OnceNamed$NamedForm", "dropCopiesOf", "(I)I"⟩, 14), (⟨"OnceNamed$NamedForm", "replaceAll", "([I)V"⟩, 14), (⟨"OnceNamed", "requireMeetingUse", "(III)V"⟩, 10), (⟨"OnceNamed", "requireBlockOrEntry", "(I)V"⟩, 10), (⟨"OnceNamed", "requireStep", "(II)V"⟩, 10), (⟨"OnceNamed", "requireUse", "(III)V"⟩, 10), (⟨"OnceNamed", "nameUsed", "(III)I"⟩, 10), (⟨"OnceNamed", "requireName", "(I)V"⟩, 10), (⟨"OnceNamed$CopyPlan", "collect", "(LOnceNamed$NamedForm;II)V"⟩, 6), (⟨"OnceNamed$CopyPlan", "freeMove", "()I"⟩, 6), (⟨"OnceNamed$CopyPlan", "isAwaited", "(I)Z"⟩, 6)]
theorem lw_r2 : ∀ q ∈ lw_privs_2, lw_okq q := List.forall_mem_cons.mpr ⟨lw_p16, List.forall_mem_cons.mpr ⟨lw_p17, List.forall_mem_cons.mpr ⟨lw_p18, List.forall_mem_cons.mpr ⟨lw_p19, List.forall_mem_cons.mpr ⟨lw_p20, List.forall_mem_cons.mpr ⟨lw_p21, List.forall_mem_cons.mpr ⟨lw_p22, List.forall_mem_cons.mpr ⟨lw_p23, List.forall_mem_cons.mpr ⟨lw_p24, List.forall_mem_cons.mpr ⟨lw_p25, List.forall_mem_cons.mpr ⟨lw_p26, List.forall_mem_cons.mpr ⟨lw_p27, List.forall_mem_cons.mpr ⟨lw_p28, List.forall_mem_cons.mpr ⟨lw_p29, List.forall_mem_cons.mpr ⟨lw_p30, List.forall_mem_cons.mpr ⟨lw_p31, fun _ h => absurd h List.not_mem_nil⟩⟩⟩⟩⟩⟩⟩⟩⟩⟩⟩⟩⟩⟩⟩⟩
theorem lw_p32 : lw_okq (⟨"OnceNamed$CopyPlan", "copy", "(II)V"⟩, 6) := ⟨⟨by decide +kernel, by decide +kernel⟩, List.mem_of_getElem? (i := 164) (by decide +kernel), List.mem_of_getElem? (i := 796) (by decide +kernel), List.mem_of_getElem? (i := 797) (by decide +kernel)⟩
theorem lw_p33 : lw_okq (⟨"OnceNamed$CopyPlan", "remove", "(I)V"⟩, 6) := ⟨⟨by decide +kernel, by decide +kernel⟩, List.mem_of_getElem? (i := 164) (by decide +kernel), List.mem_of_getElem? (i := 800) (by decide +kernel), List.mem_of_getElem? (i := 801) (by decide +kernel)⟩
theorem lw_p34 : lw_okq (⟨"OnceNamed$CopyPlan", "readFromCopy", "()V"⟩, 6) := ⟨⟨by decide +kernel, by decide +kernel⟩, List.mem_of_getElem? (i := 164) (by decide +kernel), List.mem_of_getElem? (i := 804) (by decide +kernel), List.mem_of_getElem? (i := 805) (by decide +kernel)⟩
theorem lw_p35 : lw_okq (⟨"OnceNamed", "requireRunnable", "(I)V"⟩, 10) := ⟨⟨by decide +kernel, by decide +kernel⟩, List.mem_of_getElem? (i := 22) (by decide +kernel), List.mem_of_getElem? (i := 820) (by decide +kernel), List.mem_of_getElem? (i := 821) (by decide +kernel)⟩
theorem lw_p36 : lw_okq (⟨"OnceNamed$Runner", "enterProgram", "()V"⟩, 6) := ⟨⟨by decide +kernel, by decide +kernel⟩, List.mem_of_getElem? (i := 189) (by decide +kernel), List.mem_of_getElem? (i := 833) (by decide +kernel), List.mem_of_getElem? (i := 834) (by decide +kernel)⟩
theorem lw_p37 : lw_okq (⟨"OnceNamed$Runner", "setAtOnce", "(II)V"⟩, 6) := ⟨⟨by decide +kernel, by decide +kernel⟩, List.mem_of_getElem? (i := 189) (by decide +kernel), List.mem_of_getElem? (i := 847) (by decide +kernel), List.mem_of_getElem? (i := 848) (by decide +kernel)⟩
theorem lw_p38 : lw_okq (⟨"OnceNamed$Runner", "valueOf", "(I)I"⟩, 6) := ⟨⟨by decide +kernel, by decide +kernel⟩, List.mem_of_getElem? (i := 189) (by decide +kernel), List.mem_of_getElem? (i := 852) (by decide +kernel), List.mem_of_getElem? (i := 853) (by decide +kernel)⟩
theorem lw_p39 : lw_okq (⟨"OnceNamed$Runner", "setByCopies", "(II)V"⟩, 6) := ⟨⟨by decide +kernel, by decide +kernel⟩, List.mem_of_getElem? (i := 189) (by decide +kernel), List.mem_of_getElem? (i := 857) (by decide +kernel), List.mem_of_getElem? (i := 858) (by decide +kernel)⟩
theorem lw_p40 : lw_okq (⟨"OnceNamed$Runner", "doSteps", "(ILOnceNamed$Talk;)V"⟩, 6) := ⟨⟨by decide +kernel, by decide +kernel⟩, List.mem_of_getElem? (i := 189) (by decide +kernel), List.mem_of_getElem? (i := 871) (by decide +kernel), List.mem_of_getElem? (i := 872) (by decide +kernel)⟩
theorem lw_p41 : lw_okq (⟨"OnceNamed$Runner", "placeOf", "(I)I"⟩, 6) := ⟨⟨by decide +kernel, by decide +kernel⟩, List.mem_of_getElem? (i := 189) (by decide +kernel), List.mem_of_getElem? (i := 881) (by decide +kernel), List.mem_of_getElem? (i := 882) (by decide +kernel)⟩
theorem lw_p42 : lw_okq (⟨"OnceNamed$Runner", "doStep", "(IIIIILOnceNamed$Talk;)V"⟩, 6) := ⟨⟨by decide +kernel, by decide +kernel⟩, List.mem_of_getElem? (i := 189) (by decide +kernel), List.mem_of_getElem? (i := 887) (by decide +kernel), List.mem_of_getElem? (i := 888) (by decide +kernel)⟩
theorem lw_p43 : lw_okq (⟨"OnceNamed$Runner", "nextBlock", "(I)I"⟩, 6) := ⟨⟨by decide +kernel, by decide +kernel⟩, List.mem_of_getElem? (i := 189) (by decide +kernel), List.mem_of_getElem? (i := 909) (by decide +kernel), List.mem_of_getElem? (i := 910) (by decide +kernel)⟩
theorem lw_p44 : lw_okq (⟨"OnceNamedModel", "noBlock", "(I)Z"⟩, 34) := ⟨⟨by decide +kernel, by decide +kernel⟩, List.mem_of_getElem? (i := 980) (by decide +kernel), List.mem_of_getElem? (i := 1098) (by decide +kernel), List.mem_of_getElem? (i := 1099) (by decide +kernel)⟩
theorem lw_p45 : lw_okq (⟨"OnceNamedModel", "noVariable", "(I)Z"⟩, 34) := ⟨⟨by decide +kernel, by decide +kernel⟩, List.mem_of_getElem? (i := 980) (by decide +kernel), List.mem_of_getElem? (i := 1102) (by decide +kernel), List.mem_of_getElem? (i := 1103) (by decide +kernel)⟩
theorem lw_p46 : lw_okq (⟨"OnceNamedModel", "look", "()V"⟩, 34) := ⟨⟨by decide +kernel, by decide +kernel⟩, List.mem_of_getElem? (i := 980) (by decide +kernel), List.mem_of_getElem? (i := 1126) (by decide +kernel), List.mem_of_getElem? (i := 1127) (by decide +kernel)⟩
theorem lw_p47 : lw_okq (⟨"OnceNamedModel", "reachedWithout", "(I)I"⟩, 34) := ⟨⟨by decide +kernel, by decide +kernel⟩, List.mem_of_getElem? (i := 980) (by decide +kernel), List.mem_of_getElem? (i := 1130) (by decide +kernel), List.mem_of_getElem? (i := 1131) (by decide +kernel)⟩
def lw_privs_3 : List (MethodName × Nat) := [(⟨"OnceNamed$CopyPlan", "copy", "(II)V"⟩, 6), (⟨"OnceNamed$CopyPlan", "remove", "(I)V"⟩, 6), (⟨"OnceNamed$CopyPlan", "readFromCopy", "()V"⟩, 6), (⟨"OnceNamed", "requireRunnable", "(I)V"⟩, 10), (⟨"OnceNamed$Runner", "enterProgram", "()V"⟩, 6), (⟨"OnceNamed$Runner", "setAtOnce", "(II)V"⟩, 6), (⟨"OnceNamed$Runner", "valueOf", "(I)I"⟩, 6), (⟨"OnceNamed$Runner", "setByCopies", "(II)V"⟩, 6), (⟨"OnceNamed$Runner", "doSteps", "(ILOnceNamed$Talk;)V"⟩, 6), (⟨"OnceNamed$Runner", "placeOf", "(I)I"⟩, 6), (⟨"OnceNamed$Runner", "doStep", "(IIIIILOnceNamed$Talk;)V"⟩, 6), (⟨"OnceNamed$Runner", "nextBlock", "(I)I"⟩, 6), (⟨"OnceNamedModel", "noBlock", "(I)Z"⟩, 34), (⟨"OnceNamedModel", "noVariable", "(I)Z"⟩, 34), (⟨"OnceNamedModel", "look", "()V"⟩, 34), (⟨"OnceNamedModel", "reachedWithout", "(I)I"⟩, 34)]
theorem lw_r3 : ∀ q ∈ lw_privs_3, lw_okq q := List.forall_mem_cons.mpr ⟨lw_p32, List.forall_mem_cons.mpr ⟨lw_p33, List.forall_mem_cons.mpr ⟨lw_p34, List.forall_mem_cons.mpr ⟨lw_p35, List.forall_mem_cons.mpr ⟨lw_p36, List.forall_mem_cons.mpr ⟨lw_p37, List.forall_mem_cons.mpr ⟨lw_p38, List.forall_mem_cons.mpr ⟨lw_p39, List.forall_mem_cons.mpr ⟨lw_p40, List.forall_mem_cons.mpr ⟨lw_p41, List.forall_mem_cons.mpr ⟨lw_p42, List.forall_mem_cons.mpr ⟨lw_p43, List.forall_mem_cons.mpr ⟨lw_p44, List.forall_mem_cons.mpr ⟨lw_p45, List.forall_mem_cons.mpr ⟨lw_p46, List.forall_mem_cons.mpr ⟨lw_p47, fun _ h => absurd h List.not_mem_nil⟩⟩⟩⟩⟩⟩⟩⟩⟩⟩⟩⟩⟩⟩⟩⟩
theorem lw_p48 : lw_okq (⟨"OnceNamedModel", "has", "(II)Z"⟩, 34) := ⟨⟨by decide +kernel, by decide +kernel⟩, List.mem_of_getElem? (i := 980) (by decide +kernel), List.mem_of_getElem? (i := 1134) (by decide +kernel), List.mem_of_getElem? (i := 1135) (by decide +kernel)⟩
theorem lw_p49 : lw_okq (⟨"OnceNamedModel", "parentOf", "(I)I"⟩, 34) := ⟨⟨by decide +kernel, by decide +kernel⟩, List.mem_of_getElem? (i := 980) (by decide +kernel), List.mem_of_getElem? (i := 1138) (by decide +kernel), List.mem_of_getElem? (i := 1139) (by decide +kernel)⟩
theorem lw_p50 : lw_okq (⟨"OnceNamedModel", "countOf", "(I)I"⟩, 34) := ⟨⟨by decide +kernel, by decide +kernel⟩, List.mem_of_getElem? (i := 980) (by decide +kernel), List.mem_of_getElem? (i := 1142) (by decide +kernel), List.mem_of_getElem? (i := 1143) (by decide +kernel)⟩
theorem lw_p51 : lw_okq (⟨"OnceNamedModel", "inFrontier", "(II)Z"⟩, 34) := ⟨⟨by decide +kernel, by decide +kernel⟩, List.mem_of_getElem? (i := 980) (by decide +kernel), List.mem_of_getElem? (i := 1154) (by decide +kernel), List.mem_of_getElem? (i := 1155) (by decide +kernel)⟩
theorem lw_p52 : lw_okq (⟨"OnceNamedModel", "strictly", "(II)Z"⟩, 34) := ⟨⟨by decide +kernel, by decide +kernel⟩, List.mem_of_getElem? (i := 980) (by decide +kernel), List.mem_of_getElem? (i := 1158) (by decide +kernel), List.mem_of_getElem? (i := 1159) (by decide +kernel)⟩
theorem lw_p53 : lw_okq (⟨"OnceNamedModel", "follows", "(II)Z"⟩, 34) := ⟨⟨by decide +kernel, by decide +kernel⟩, List.mem_of_getElem? (i := 980) (by decide +kernel), List.mem_of_getElem? (i := 1162) (by decide +kernel), List.mem_of_getElem? (i := 1163) (by decide +kernel)⟩
theorem lw_p54 : lw_okq (⟨"OnceNamedModel", "findMeetings", "()V"⟩, 34) := ⟨⟨by decide +kernel, by decide +kernel⟩, List.mem_of_getElem? (i := 980) (by decide +kernel), List.mem_of_getElem? (i := 1170) (by decide +kernel), List.mem_of_getElem? (i := 1171) (by decide +kernel)⟩
theorem lw_p55 : lw_okq (⟨"OnceNamedModel", "setsVariable", "(II)Z"⟩, 34) := ⟨⟨by decide +kernel, by decide +kernel⟩, List.mem_of_getElem? (i := 980) (by decide +kernel), List.mem_of_getElem? (i := 1174) (by decide +kernel), List.mem_of_getElem? (i := 1175) (by decide +kernel)⟩
theorem lw_p56 : lw_okq (⟨"OnceNamedModel", "giveNames", "()V"⟩, 34) := ⟨⟨by decide +kernel, by decide +kernel⟩, List.mem_of_getElem? (i := 980) (by decide +kernel), List.mem_of_getElem? (i := 1178) (by decide +kernel), List.mem_of_getElem? (i := 1179) (by decide +kernel)⟩
theorem lw_p57 : lw_okq (⟨"OnceNamedModel", "newName", "(III)I"⟩, 34) := ⟨⟨by decide +kernel, by decide +kernel⟩, List.mem_of_getElem? (i := 980) (by decide +kernel), List.mem_of_getElem? (i := 1182) (by decide +kernel), List.mem_of_getElem? (i := 1183) (by decide +kernel)⟩
theorem lw_p58 : lw_okq (⟨"OnceNamedModel", "nameBlockOf", "(I)V"⟩, 34) := ⟨⟨by decide +kernel, by decide +kernel⟩, List.mem_of_getElem? (i := 980) (by decide +kernel), List.mem_of_getElem? (i := 1186) (by decide +kernel), List.mem_of_getElem? (i := 1187) (by decide +kernel)⟩
theorem lw_p59 : lw_okq (⟨"OnceNamedModel", "giveUses", "(I)V"⟩, 34) := ⟨⟨by decide +kernel, by decide +kernel⟩, List.mem_of_getElem? (i := 980) (by decide +kernel), List.mem_of_getElem? (i := 1190) (by decide +kernel), List.mem_of_getElem? (i := 1191) (by decide +kernel)⟩
theorem lw_p60 : lw_okq (⟨"OnceNamedModel", "latest", "(III)I"⟩, 34) := ⟨⟨by decide +kernel, by decide +kernel⟩, List.mem_of_getElem? (i := 980) (by decide +kernel), List.mem_of_getElem? (i := 1194) (by decide +kernel), List.mem_of_getElem? (i := 1195) (by decide +kernel)⟩
theorem lw_p61 : lw_okq (⟨"OnceNamedModel", "isValid", "()Z"⟩, 34) := ⟨⟨by decide +kernel, by decide +kernel⟩, List.mem_of_getElem? (i := 980) (by decide +kernel), List.mem_of_getElem? (i := 1202) (by decide +kernel), List.mem_of_getElem? (i := 1203) (by decide +kernel)⟩
theorem lw_p62 : lw_okq (⟨"OnceNamedModel", "before", "(III)Z"⟩, 34) := ⟨⟨by decide +kernel, by decide +kernel⟩, List.mem_of_getElem? (i := 980) (by decide +kernel), List.mem_of_getElem? (i := 1206) (by decide +kernel), List.mem_of_getElem? (i := 1207) (by decide +kernel)⟩
theorem lw_p63 : lw_okq (⟨"OnceNamedModel", "behind", "(I)I"⟩, 34) := ⟨⟨by decide +kernel, by decide +kernel⟩, List.mem_of_getElem? (i := 980) (by decide +kernel), List.mem_of_getElem? (i := 1214) (by decide +kernel), List.mem_of_getElem? (i := 1215) (by decide +kernel)⟩
def lw_privs_4 : List (MethodName × Nat) := [(⟨"OnceNamedModel", "has", "(II)Z"⟩, 34), (⟨"OnceNamedModel", "parentOf", "(I)I"⟩, 34), (⟨"OnceNamedModel", "countOf", "(I)I"⟩, 34), (⟨"OnceNamedModel", "inFrontier", "(II)Z"⟩, 34), (⟨"OnceNamedModel", "strictly", "(II)Z"⟩, 34), (⟨"OnceNamedModel", "follows", "(II)Z"⟩, 34), (⟨"OnceNamedModel", "findMeetings", "()V"⟩, 34), (⟨"OnceNamedModel", "setsVariable", "(II)Z"⟩, 34), (⟨"OnceNamedModel", "giveNames", "()V"⟩, 34), (⟨"OnceNamedModel", "newName", "(III)I"⟩, 34), (⟨"OnceNamedModel", "nameBlockOf", "(I)V"⟩, 34), (⟨"OnceNamedModel", "giveUses", "(I)V"⟩, 34), (⟨"OnceNamedModel", "latest", "(III)I"⟩, 34), (⟨"OnceNamedModel", "isValid", "()Z"⟩, 34), (⟨"OnceNamedModel", "before", "(III)Z"⟩, 34), (⟨"OnceNamedModel", "behind", "(I)I"⟩, 34)]
theorem lw_r4 : ∀ q ∈ lw_privs_4, lw_okq q := List.forall_mem_cons.mpr ⟨lw_p48, List.forall_mem_cons.mpr ⟨lw_p49, List.forall_mem_cons.mpr ⟨lw_p50, List.forall_mem_cons.mpr ⟨lw_p51, List.forall_mem_cons.mpr ⟨lw_p52, List.forall_mem_cons.mpr ⟨lw_p53, List.forall_mem_cons.mpr ⟨lw_p54, List.forall_mem_cons.mpr ⟨lw_p55, List.forall_mem_cons.mpr ⟨lw_p56, List.forall_mem_cons.mpr ⟨lw_p57, List.forall_mem_cons.mpr ⟨lw_p58, List.forall_mem_cons.mpr ⟨lw_p59, List.forall_mem_cons.mpr ⟨lw_p60, List.forall_mem_cons.mpr ⟨lw_p61, List.forall_mem_cons.mpr ⟨lw_p62, List.forall_mem_cons.mpr ⟨lw_p63, fun _ h => absurd h List.not_mem_nil⟩⟩⟩⟩⟩⟩⟩⟩⟩⟩⟩⟩⟩⟩⟩⟩
theorem lw_p64 : lw_okq (⟨"OnceNamedModel", "sourceOf", "(III)I"⟩, 34) := ⟨⟨by decide +kernel, by decide +kernel⟩, List.mem_of_getElem? (i := 980) (by decide +kernel), List.mem_of_getElem? (i := 1226) (by decide +kernel), List.mem_of_getElem? (i := 1227) (by decide +kernel)⟩
theorem lw_p65 : lw_okq (⟨"OnceNamedModel", "noStep", "(II)Z"⟩, 34) := ⟨⟨by decide +kernel, by decide +kernel⟩, List.mem_of_getElem? (i := 980) (by decide +kernel), List.mem_of_getElem? (i := 1234) (by decide +kernel), List.mem_of_getElem? (i := 1235) (by decide +kernel)⟩
theorem lw_p66 : lw_okq (⟨"OnceNamedModel", "noUse", "(III)Z"⟩, 34) := ⟨⟨by decide +kernel, by decide +kernel⟩, List.mem_of_getElem? (i := 980) (by decide +kernel), List.mem_of_getElem? (i := 1242) (by decide +kernel), List.mem_of_getElem? (i := 1243) (by decide +kernel)⟩
theorem lw_p67 : lw_okq (⟨"OnceNamedModel", "useOf", "(III)I"⟩, 34) := ⟨⟨by decide +kernel, by decide +kernel⟩, List.mem_of_getElem? (i := 980) (by decide +kernel), List.mem_of_getElem? (i := 1246) (by decide +kernel), List.mem_of_getElem? (i := 1247) (by decide +kernel)⟩
theorem lw_p68 : lw_okq (⟨"OnceNamedModel", "noName", "(I)Z"⟩, 34) := ⟨⟨by decide +kernel, by decide +kernel⟩, List.mem_of_getElem? (i := 980) (by decide +kernel), List.mem_of_getElem? (i := 1254) (by decide +kernel), List.mem_of_getElem? (i := 1255) (by decide +kernel)⟩
theorem lw_p69 : lw_okq (⟨"OnceNamedModel", "meetingWith", "(II)I"⟩, 34) := ⟨⟨by decide +kernel, by decide +kernel⟩, List.mem_of_getElem? (i := 980) (by decide +kernel), List.mem_of_getElem? (i := 1266) (by decide +kernel), List.mem_of_getElem? (i := 1267) (by decide +kernel)⟩
theorem lw_p70 : lw_okq (⟨"OnceNamedModel", "runInto", "(IZ)V"⟩, 34) := ⟨⟨by decide +kernel, by decide +kernel⟩, List.mem_of_getElem? (i := 980) (by decide +kernel), List.mem_of_getElem? (i := 1274) (by decide +kernel), List.mem_of_getElem? (i := 1275) (by decide +kernel)⟩
theorem lw_p71 : lw_okq (⟨"OnceNamedModel", "fail", "(I)V"⟩, 34) := ⟨⟨by decide +kernel, by decide +kernel⟩, List.mem_of_getElem? (i := 980) (by decide +kernel), List.mem_of_getElem? (i := 1278) (by decide +kernel), List.mem_of_getElem? (i := 1279) (by decide +kernel)⟩
theorem lw_p72 : lw_okq (⟨"OnceNamedModel", "meet", "(II)V"⟩, 34) := ⟨⟨by decide +kernel, by decide +kernel⟩, List.mem_of_getElem? (i := 980) (by decide +kernel), List.mem_of_getElem? (i := 1282) (by decide +kernel), List.mem_of_getElem? (i := 1283) (by decide +kernel)⟩
theorem lw_p73 : lw_okq (⟨"OnceNamedModel", "doSteps", "(IZ)V"⟩, 34) := ⟨⟨by decide +kernel, by decide +kernel⟩, List.mem_of_getElem? (i := 980) (by decide +kernel), List.mem_of_getElem? (i := 1286) (by decide +kernel), List.mem_of_getElem? (i := 1287) (by decide +kernel)⟩
theorem lw_p74 : lw_okq (⟨"OnceNamedModel", "say", "(I)V"⟩, 34) := ⟨⟨by decide +kernel, by decide +kernel⟩, List.mem_of_getElem? (i := 980) (by decide +kernel), List.mem_of_getElem? (i := 1290) (by decide +kernel), List.mem_of_getElem? (i := 1291) (by decide +kernel)⟩
theorem lw_p75 : lw_okq (⟨"OnceNamedModel", "result", "(III)I"⟩, 34) := ⟨⟨by decide +kernel, by decide +kernel⟩, List.mem_of_getElem? (i := 980) (by decide +kernel), List.mem_of_getElem? (i := 1294) (by decide +kernel), List.mem_of_getElem? (i := 1295) (by decide +kernel)⟩
def lw_privs_5 : List (MethodName × Nat) := [(⟨"OnceNamedModel", "sourceOf", "(III)I"⟩, 34), (⟨"OnceNamedModel", "noStep", "(II)Z"⟩, 34), (⟨"OnceNamedModel", "noUse", "(III)Z"⟩, 34), (⟨"OnceNamedModel", "useOf", "(III)I"⟩, 34), (⟨"OnceNamedModel", "noName", "(I)Z"⟩, 34), (⟨"OnceNamedModel", "meetingWith", "(II)I"⟩, 34), (⟨"OnceNamedModel", "runInto", "(IZ)V"⟩, 34), (⟨"OnceNamedModel", "fail", "(I)V"⟩, 34), (⟨"OnceNamedModel", "meet", "(II)V"⟩, 34), (⟨"OnceNamedModel", "doSteps", "(IZ)V"⟩, 34), (⟨"OnceNamedModel", "say", "(I)V"⟩, 34), (⟨"OnceNamedModel", "result", "(III)I"⟩, 34)]
theorem lw_r5 : ∀ q ∈ lw_privs_5, lw_okq q := List.forall_mem_cons.mpr ⟨lw_p64, List.forall_mem_cons.mpr ⟨lw_p65, List.forall_mem_cons.mpr ⟨lw_p66, List.forall_mem_cons.mpr ⟨lw_p67, List.forall_mem_cons.mpr ⟨lw_p68, List.forall_mem_cons.mpr ⟨lw_p69, List.forall_mem_cons.mpr ⟨lw_p70, List.forall_mem_cons.mpr ⟨lw_p71, List.forall_mem_cons.mpr ⟨lw_p72, List.forall_mem_cons.mpr ⟨lw_p73, List.forall_mem_cons.mpr ⟨lw_p74, List.forall_mem_cons.mpr ⟨lw_p75, fun _ h => absurd h List.not_mem_nil⟩⟩⟩⟩⟩⟩⟩⟩⟩⟩⟩⟩
def lw_privs : List (MethodName × Nat) := lw_privs_1 ++ (lw_privs_2 ++ (lw_privs_3 ++ (lw_privs_4 ++ (lw_privs_5))))
def lw_tbl : List Cond := k2_sels lw_privs ++ tables_1
theorem lw_privs_ok : ∀ q ∈ lw_privs, lw_okq q := by
  show ∀ q ∈ lw_privs_1 ++ (lw_privs_2 ++ (lw_privs_3 ++ (lw_privs_4 ++ (lw_privs_5)))), lw_okq q
  exact List.forall_mem_append.mpr ⟨lw_r1, List.forall_mem_append.mpr ⟨lw_r2, List.forall_mem_append.mpr ⟨lw_r3, List.forall_mem_append.mpr ⟨lw_r4, lw_r5⟩⟩⟩⟩
end
section
/-! The words that every method of ours is given: those of the tables that hold in every later state too -/
def xW : List Cond := lw_tbl.filter goodWord
theorem xW_good : ∀ w ∈ xW, goodWord w = true := fun _ h => (List.mem_filter.mp h).2
theorem xW_in : ∀ w ∈ xW, w ∈ lw_tbl := fun _ h => (List.mem_filter.mp h).1
theorem goodX {a : Cond} {ws : List Cond} (h : ∀ w ∈ ws, w ∈ xW) : GoodIn (a :: xW) ws := fun w hw => ⟨List.mem_cons_of_mem _ (h w hw), good_of_word (xW_good w (h w hw))⟩
theorem goodB {a cd : Cond} (h : cd ∈ xW) : GoodIn (a :: xW) (cd :: xW) := goodX (List.forall_mem_cons.mpr ⟨h, fun _ h => h⟩)
theorem goodV {a cd : Cond} {own C : String} {idx : Nat} {y : MethodName} (h1 : Cond.methodLink own idx y ∈ xW) (h2 : Cond.instanceMethod y ∈ xW) (h3 : Cond.selects C y y ∈ xW) (h4 : Cond.initialized C ∈ xW) (h5 : cd ∈ xW) : GoodIn (a :: xW) (wsV own idx C y (cd :: xW)) :=
  goodX (List.forall_mem_cons.mpr ⟨h1, List.forall_mem_cons.mpr ⟨h2, List.forall_mem_cons.mpr ⟨h3, List.forall_mem_cons.mpr ⟨h4, List.forall_mem_cons.mpr ⟨h5, fun _ h => h⟩⟩⟩⟩⟩)
theorem goodS {a cd : Cond} {own : String} {idx : Nat} {y : MethodName} (h1 : Cond.methodLink own idx y ∈ xW) (h2 : Cond.static y ∈ xW) (h3 : Cond.initialized y.cls ∈ xW) (h5 : cd ∈ xW) : GoodIn (a :: xW) (va_wsS own idx y (cd :: xW)) :=
  goodX (List.forall_mem_cons.mpr ⟨h1, List.forall_mem_cons.mpr ⟨h2, List.forall_mem_cons.mpr ⟨h3, List.forall_mem_cons.mpr ⟨h5, fun _ h => h⟩⟩⟩⟩)
abbrev cArrays_fill : ByteArray := prog_22_method_103_code
abbrev yArrays_fill : MethodName := ⟨"java/util/Arrays", "fill", "([II)V"⟩
abbrev cInteger_bitCount : ByteArray := prog_15_method_49_code
abbrev yInteger_bitCount : MethodName := ⟨"java/lang/Integer", "bitCount", "(I)I"⟩
abbrev cOn_has : ByteArray := prog_1_method_36_code
abbrev yOn_has : MethodName := ⟨"OnceNamed", "has", "(II)Z"⟩
abbrev cProgram_setsVariable : ByteArray := prog_5_method_2_code
abbrev yProgram_setsVariable : MethodName := ⟨"OnceNamed$Program", "setsVariable", "(I)Z"⟩
abbrev cProgram_usesFirst : ByteArray := prog_5_method_3_code
abbrev yProgram_usesFirst : MethodName := ⟨"OnceNamed$Program", "usesFirst", "(I)Z"⟩
abbrev cProgram_usesSecond : ByteArray := prog_5_method_4_code
abbrev yProgram_usesSecond : MethodName := ⟨"OnceNamed$Program", "usesSecond", "(I)Z"⟩
abbrev cProgram_blockCount : ByteArray := prog_5_method_5_code
abbrev yProgram_blockCount : MethodName := ⟨"OnceNamed$Program", "blockCount", "()I"⟩
abbrev cProgram_stepsOf : ByteArray := prog_5_method_6_code
abbrev yProgram_stepsOf : MethodName := ⟨"OnceNamed$Program", "stepsOf", "(I)I"⟩
abbrev cProgram_addStep : ByteArray := prog_5_method_7_code
abbrev yProgram_addStep : MethodName := ⟨"OnceNamed$Program", "addStep", "(IIIII)V"⟩
abbrev cProgram_changeEnd : ByteArray := prog_5_method_8_code
abbrev yProgram_changeEnd : MethodName := ⟨"OnceNamed$Program", "changeEnd", "(IIII)V"⟩
abbrev cProgram_changeStart : ByteArray := prog_5_method_9_code
abbrev yProgram_changeStart : MethodName := ⟨"OnceNamed$Program", "changeStart", "(II)V"⟩
abbrev cProgram_startOf : ByteArray := prog_5_method_10_code
abbrev yProgram_startOf : MethodName := ⟨"OnceNamed$Program", "startOf", "(I)I"⟩
abbrev cProgram_kindOf : ByteArray := prog_5_method_11_code
abbrev yProgram_kindOf : MethodName := ⟨"OnceNamed$Program", "kindOf", "(II)I"⟩
abbrev cProgram_numberPut : ByteArray := prog_5_method_12_code
abbrev yProgram_numberPut : MethodName := ⟨"OnceNamed$Program", "numberPut", "(II)I"⟩
abbrev cProgram_variableSet : ByteArray := prog_5_method_13_code
abbrev yProgram_variableSet : MethodName := ⟨"OnceNamed$Program", "variableSet", "(II)I"⟩
abbrev cProgram_firstVariable : ByteArray := prog_5_method_14_code
abbrev yProgram_firstVariable : MethodName := ⟨"OnceNamed$Program", "firstVariable", "(II)I"⟩
abbrev cProgram_secondVariable : ByteArray := prog_5_method_15_code
abbrev yProgram_secondVariable : MethodName := ⟨"OnceNamed$Program", "secondVariable", "(II)I"⟩
abbrev cProgram_variableOfFork : ByteArray := prog_5_method_16_code
abbrev yProgram_variableOfFork : MethodName := ⟨"OnceNamed$Program", "variableOfFork", "(I)I"⟩
abbrev cProgram_blockAfter : ByteArray := prog_5_method_17_code
abbrev yProgram_blockAfter : MethodName := ⟨"OnceNamed$Program", "blockAfter", "(IZ)I"⟩
abbrev cProgram_followers : ByteArray := prog_5_method_18_code
abbrev yProgram_followers : MethodName := ⟨"OnceNamed$Program", "followers", "(I)I"⟩
abbrev cProgram_setsInBlock : ByteArray := prog_5_method_19_code
abbrev yProgram_setsInBlock : MethodName := ⟨"OnceNamed$Program", "setsInBlock", "(II)Z"⟩
abbrev cTalk_begin : ByteArray := prog_7_method_2_code
abbrev yTalk_begin : MethodName := ⟨"OnceNamed$Talk", "begin", "()V"⟩
abbrev cTalk_say : ByteArray := prog_7_method_3_code
abbrev yTalk_say : MethodName := ⟨"OnceNamed$Talk", "say", "(I)V"⟩
abbrev cTalk_fail : ByteArray := prog_7_method_4_code
abbrev yTalk_fail : MethodName := ⟨"OnceNamed$Talk", "fail", "(I)V"⟩
abbrev cTalk_outcome : ByteArray := prog_7_method_5_code
abbrev yTalk_outcome : MethodName := ⟨"OnceNamed$Talk", "outcome", "()I"⟩
abbrev cTalk_size : ByteArray := prog_7_method_6_code
abbrev yTalk_size : MethodName := ⟨"OnceNamed$Talk", "size", "()I"⟩
abbrev cTalk_number : ByteArray := prog_7_method_7_code
abbrev yTalk_number : MethodName := ⟨"OnceNamed$Talk", "number", "(I)I"⟩
abbrev cTalk_isLike : ByteArray := prog_7_method_8_code
abbrev yTalk_isLike : MethodName := ⟨"OnceNamed$Talk", "isLike", "(LOnceNamed$Talk;)Z"⟩
abbrev cGraph_survey : ByteArray := prog_3_method_2_code
abbrev yGraph_survey : MethodName := ⟨"OnceNamed$Graph", "survey", "(LOnceNamed$Program;)V"⟩
abbrev cGraph_reachedWithout : ByteArray := prog_3_method_3_code
abbrev yGraph_reachedWithout : MethodName := ⟨"OnceNamed$Graph", "reachedWithout", "(LOnceNamed$Program;I)I"⟩
abbrev cGraph_findForerunners : ByteArray := prog_3_method_4_code
abbrev yGraph_findForerunners : MethodName := ⟨"OnceNamed$Graph", "findForerunners", "(LOnceNamed$Program;)V"⟩
abbrev cGraph_nearestAbove : ByteArray := prog_3_method_5_code
abbrev yGraph_nearestAbove : MethodName := ⟨"OnceNamed$Graph", "nearestAbove", "(I)I"⟩
abbrev cGraph_findFrontier : ByteArray := prog_3_method_6_code
abbrev yGraph_findFrontier : MethodName := ⟨"OnceNamed$Graph", "findFrontier", "(I)I"⟩
abbrev cGraph_findOrder : ByteArray := prog_3_method_7_code
abbrev yGraph_findOrder : MethodName := ⟨"OnceNamed$Graph", "findOrder", "()V"⟩
abbrev cGraph_parentOf : ByteArray := prog_3_method_8_code
abbrev yGraph_parentOf : MethodName := ⟨"OnceNamed$Graph", "parentOf", "(I)I"⟩
abbrev cGraph_hasBelow : ByteArray := prog_3_method_9_code
abbrev yGraph_hasBelow : MethodName := ⟨"OnceNamed$Graph", "hasBelow", "(II)Z"⟩
abbrev cGraph_frontierOf : ByteArray := prog_3_method_10_code
abbrev yGraph_frontierOf : MethodName := ⟨"OnceNamed$Graph", "frontierOf", "(I)I"⟩
abbrev cGraph_frontierOfAll : ByteArray := prog_3_method_11_code
abbrev yGraph_frontierOfAll : MethodName := ⟨"OnceNamed$Graph", "frontierOfAll", "(I)I"⟩
abbrev cGraph_leadsTo : ByteArray := prog_3_method_12_code
abbrev yGraph_leadsTo : MethodName := ⟨"OnceNamed$Graph", "leadsTo", "(II)Z"⟩
abbrev cGraph_reachedCount : ByteArray := prog_3_method_13_code
abbrev yGraph_reachedCount : MethodName := ⟨"OnceNamed$Graph", "reachedCount", "()I"⟩
abbrev cGraph_inOrder : ByteArray := prog_3_method_14_code
abbrev yGraph_inOrder : MethodName := ⟨"OnceNamed$Graph", "inOrder", "(I)I"⟩
abbrev cNamedForm_assemble : ByteArray := prog_4_method_2_code
abbrev yNamedForm_assemble : MethodName := ⟨"OnceNamed$NamedForm", "assemble", "()I"⟩
abbrev cNamedForm_forgetAll : ByteArray := prog_4_method_3_code
abbrev yNamedForm_forgetAll : MethodName := ⟨"OnceNamed$NamedForm", "forgetAll", "()V"⟩
abbrev cNamedForm_markMeetings : ByteArray := prog_4_method_4_code
abbrev yNamedForm_markMeetings : MethodName := ⟨"OnceNamed$NamedForm", "markMeetings", "(I)V"⟩
abbrev cNamedForm_newName : ByteArray := prog_4_method_5_code
abbrev yNamedForm_newName : MethodName := ⟨"OnceNamed$NamedForm", "newName", "(III)I"⟩
abbrev cNamedForm_lastName : ByteArray := prog_4_method_6_code
abbrev yNamedForm_lastName : MethodName := ⟨"OnceNamed$NamedForm", "lastName", "(II)I"⟩
abbrev cNamedForm_nameBlock : ByteArray := prog_4_method_7_code
abbrev yNamedForm_nameBlock : MethodName := ⟨"OnceNamed$NamedForm", "nameBlock", "(I)V"⟩
abbrev cNamedForm_nameStep : ByteArray := prog_4_method_8_code
abbrev yNamedForm_nameStep : MethodName := ⟨"OnceNamed$NamedForm", "nameStep", "(II)V"⟩
abbrev cNamedForm_findMeetingUses : ByteArray := prog_4_method_9_code
abbrev yNamedForm_findMeetingUses : MethodName := ⟨"OnceNamed$NamedForm", "findMeetingUses", "()V"⟩
abbrev cNamedForm_findUsesOfMeeting : ByteArray := prog_4_method_10_code
abbrev yNamedForm_findUsesOfMeeting : MethodName := ⟨"OnceNamed$NamedForm", "findUsesOfMeeting", "(II)V"⟩
abbrev cNamedForm_useOfMeeting : ByteArray := prog_4_method_11_code
abbrev yNamedForm_useOfMeeting : MethodName := ⟨"OnceNamed$NamedForm", "useOfMeeting", "(III)I"⟩
abbrev cNamedForm_isSound : ByteArray := prog_4_method_12_code
abbrev yNamedForm_isSound : MethodName := ⟨"OnceNamed$NamedForm", "isSound", "()Z"⟩
abbrev cNamedForm_isBlockSound : ByteArray := prog_4_method_13_code
abbrev yNamedForm_isBlockSound : MethodName := ⟨"OnceNamed$NamedForm", "isBlockSound", "(I)Z"⟩
abbrev cNamedForm_areMeetingsSound : ByteArray := prog_4_method_14_code
abbrev yNamedForm_areMeetingsSound : MethodName := ⟨"OnceNamed$NamedForm", "areMeetingsSound", "(I)Z"⟩
abbrev cNamedForm_isUseSound : ByteArray := prog_4_method_15_code
abbrev yNamedForm_isUseSound : MethodName := ⟨"OnceNamed$NamedForm", "isUseSound", "(III)Z"⟩
abbrev cNamedForm_dropCopies : ByteArray := prog_4_method_16_code
abbrev yNamedForm_dropCopies : MethodName := ⟨"OnceNamed$NamedForm", "dropCopies", "()I"⟩
abbrev cNamedForm_dropCopiesOf : ByteArray := prog_4_method_17_code
abbrev yNamedForm_dropCopiesOf : MethodName := ⟨"OnceNamed$NamedForm", "dropCopiesOf", "(I)I"⟩
abbrev cNamedForm_replaceAll : ByteArray := prog_4_method_18_code
abbrev yNamedForm_replaceAll : MethodName := ⟨"OnceNamed$NamedForm", "replaceAll", "([I)V"⟩
abbrev cNamedForm_hasName : ByteArray := prog_4_method_19_code
abbrev yNamedForm_hasName : MethodName := ⟨"OnceNamed$NamedForm", "hasName", "(I)Z"⟩
abbrev cNamedForm_entryName : ByteArray := prog_4_method_20_code
abbrev yNamedForm_entryName : MethodName := ⟨"OnceNamed$NamedForm", "entryName", "(I)I"⟩
abbrev cNamedForm_meetingName : ByteArray := prog_4_method_21_code
abbrev yNamedForm_meetingName : MethodName := ⟨"OnceNamed$NamedForm", "meetingName", "(II)I"⟩
abbrev cNamedForm_meetingUse : ByteArray := prog_4_method_22_code
abbrev yNamedForm_meetingUse : MethodName := ⟨"OnceNamed$NamedForm", "meetingUse", "(III)I"⟩
abbrev cNamedForm_nameSet : ByteArray := prog_4_method_23_code
abbrev yNamedForm_nameSet : MethodName := ⟨"OnceNamed$NamedForm", "nameSet", "(II)I"⟩
abbrev cNamedForm_stepUse : ByteArray := prog_4_method_24_code
abbrev yNamedForm_stepUse : MethodName := ⟨"OnceNamed$NamedForm", "stepUse", "(III)I"⟩
abbrev cNamedForm_endUse : ByteArray := prog_4_method_25_code
abbrev yNamedForm_endUse : MethodName := ⟨"OnceNamed$NamedForm", "endUse", "(I)I"⟩
abbrev cNamedForm_changeEndUse : ByteArray := prog_4_method_26_code
abbrev yNamedForm_changeEndUse : MethodName := ⟨"OnceNamed$NamedForm", "changeEndUse", "(II)V"⟩
abbrev cNamedForm_changeStepUse : ByteArray := prog_4_method_27_code
abbrev yNamedForm_changeStepUse : MethodName := ⟨"OnceNamed$NamedForm", "changeStepUse", "(IIII)V"⟩
abbrev cNamedForm_changeMeetingUse : ByteArray := prog_4_method_28_code
abbrev yNamedForm_changeMeetingUse : MethodName := ⟨"OnceNamed$NamedForm", "changeMeetingUse", "(IIII)V"⟩
abbrev cCopyPlan_draw : ByteArray := prog_2_method_2_code
abbrev yCopyPlan_draw : MethodName := ⟨"OnceNamed$CopyPlan", "draw", "(LOnceNamed$NamedForm;II)V"⟩
abbrev cCopyPlan_length : ByteArray := prog_2_method_3_code
abbrev yCopyPlan_length : MethodName := ⟨"OnceNamed$CopyPlan", "length", "()I"⟩
abbrev cCopyPlan_to : ByteArray := prog_2_method_4_code
abbrev yCopyPlan_to : MethodName := ⟨"OnceNamed$CopyPlan", "to", "(I)I"⟩
abbrev cCopyPlan_from : ByteArray := prog_2_method_5_code
abbrev yCopyPlan_from : MethodName := ⟨"OnceNamed$CopyPlan", "from", "(I)I"⟩
abbrev cCopyPlan_collect : ByteArray := prog_2_method_6_code
abbrev yCopyPlan_collect : MethodName := ⟨"OnceNamed$CopyPlan", "collect", "(LOnceNamed$NamedForm;II)V"⟩
abbrev cCopyPlan_freeMove : ByteArray := prog_2_method_7_code
abbrev yCopyPlan_freeMove : MethodName := ⟨"OnceNamed$CopyPlan", "freeMove", "()I"⟩
abbrev cCopyPlan_isAwaited : ByteArray := prog_2_method_8_code
abbrev yCopyPlan_isAwaited : MethodName := ⟨"OnceNamed$CopyPlan", "isAwaited", "(I)Z"⟩
abbrev cCopyPlan_copy : ByteArray := prog_2_method_9_code
abbrev yCopyPlan_copy : MethodName := ⟨"OnceNamed$CopyPlan", "copy", "(II)V"⟩
abbrev cCopyPlan_remove : ByteArray := prog_2_method_10_code
abbrev yCopyPlan_remove : MethodName := ⟨"OnceNamed$CopyPlan", "remove", "(I)V"⟩
abbrev cCopyPlan_readFromCopy : ByteArray := prog_2_method_11_code
abbrev yCopyPlan_readFromCopy : MethodName := ⟨"OnceNamed$CopyPlan", "readFromCopy", "()V"⟩
abbrev cRunner_perform : ByteArray := prog_6_method_2_code
abbrev yRunner_perform : MethodName := ⟨"OnceNamed$Runner", "perform", "(ILOnceNamed$Talk;)V"⟩
abbrev cRunner_enterProgram : ByteArray := prog_6_method_3_code
abbrev yRunner_enterProgram : MethodName := ⟨"OnceNamed$Runner", "enterProgram", "()V"⟩
abbrev cRunner_setAtOnce : ByteArray := prog_6_method_4_code
abbrev yRunner_setAtOnce : MethodName := ⟨"OnceNamed$Runner", "setAtOnce", "(II)V"⟩
abbrev cRunner_setByCopies : ByteArray := prog_6_method_5_code
abbrev yRunner_setByCopies : MethodName := ⟨"OnceNamed$Runner", "setByCopies", "(II)V"⟩
abbrev cRunner_valueOf : ByteArray := prog_6_method_6_code
abbrev yRunner_valueOf : MethodName := ⟨"OnceNamed$Runner", "valueOf", "(I)I"⟩
abbrev cRunner_placeOf : ByteArray := prog_6_method_7_code
abbrev yRunner_placeOf : MethodName := ⟨"OnceNamed$Runner", "placeOf", "(I)I"⟩
abbrev cRunner_doSteps : ByteArray := prog_6_method_8_code
abbrev yRunner_doSteps : MethodName := ⟨"OnceNamed$Runner", "doSteps", "(ILOnceNamed$Talk;)V"⟩
abbrev cRunner_doStep : ByteArray := prog_6_method_9_code
abbrev yRunner_doStep : MethodName := ⟨"OnceNamed$Runner", "doStep", "(IIIIILOnceNamed$Talk;)V"⟩
abbrev cRunner_reckon : ByteArray := prog_6_method_10_code
abbrev yRunner_reckon : MethodName := ⟨"OnceNamed$Runner", "reckon", "(III)I"⟩
abbrev cRunner_nextBlock : ByteArray := prog_6_method_11_code
abbrev yRunner_nextBlock : MethodName := ⟨"OnceNamed$Runner", "nextBlock", "(I)I"⟩
theorem kw_277 : Cond.laysFinal "OnceNamed" "OnceNamed" "blocks" "I" ∈ xW := List.mem_filter.mpr ⟨List.mem_append_right _ (List.mem_append_right _ (List.mem_append_left _ (List.mem_of_getElem? (i := 37) rfl))), rfl⟩
theorem kw_279 : Cond.laysFinal "OnceNamed" "OnceNamed" "program" "LOnceNamed$Program;" ∈ xW := List.mem_filter.mpr ⟨List.mem_append_right _ (List.mem_append_right _ (List.mem_append_left _ (List.mem_of_getElem? (i := 39) rfl))), rfl⟩
theorem kw_281 : Cond.laysFinal "OnceNamed" "OnceNamed" "graph" "LOnceNamed$Graph;" ∈ xW := List.mem_filter.mpr ⟨List.mem_append_right _ (List.mem_append_right _ (List.mem_append_left _ (List.mem_of_getElem? (i := 41) rfl))), rfl⟩
theorem kw_283 : Cond.laysFinal "OnceNamed" "OnceNamed" "named" "LOnceNamed$NamedForm;" ∈ xW := List.mem_filter.mpr ⟨List.mem_append_right _ (List.mem_append_right _ (List.mem_append_left _ (List.mem_of_getElem? (i := 43) rfl))), rfl⟩
theorem kw_285 : Cond.laysFinal "OnceNamed" "OnceNamed" "plan" "LOnceNamed$CopyPlan;" ∈ xW := List.mem_filter.mpr ⟨List.mem_append_right _ (List.mem_append_right _ (List.mem_append_left _ (List.mem_of_getElem? (i := 45) rfl))), rfl⟩
theorem kw_287 : Cond.laysFinal "OnceNamed" "OnceNamed" "runner" "LOnceNamed$Runner;" ∈ xW := List.mem_filter.mpr ⟨List.mem_append_right _ (List.mem_append_right _ (List.mem_append_left _ (List.mem_of_getElem? (i := 47) rfl))), rfl⟩
theorem kw_289 : Cond.laysFinal "OnceNamed" "OnceNamed" "latest" "LOnceNamed$Talk;" ∈ xW := List.mem_filter.mpr ⟨List.mem_append_right _ (List.mem_append_right _ (List.mem_append_left _ (List.mem_of_getElem? (i := 49) rfl))), rfl⟩
theorem kw_291 : Cond.laysFinal "OnceNamed" "OnceNamed" "talkOfProgram" "LOnceNamed$Talk;" ∈ xW := List.mem_filter.mpr ⟨List.mem_append_right _ (List.mem_append_right _ (List.mem_append_left _ (List.mem_of_getElem? (i := 51) rfl))), rfl⟩
theorem kw_293 : Cond.laysFinal "OnceNamed" "OnceNamed" "talkOfForm" "LOnceNamed$Talk;" ∈ xW := List.mem_filter.mpr ⟨List.mem_append_right _ (List.mem_append_right _ (List.mem_append_left _ (List.mem_of_getElem? (i := 53) rfl))), rfl⟩
theorem kw_295 : Cond.lays "OnceNamed" "OnceNamed" "formStands" "Z" ∈ xW := List.mem_filter.mpr ⟨List.mem_append_right _ (List.mem_append_right _ (List.mem_append_left _ (List.mem_of_getElem? (i := 55) rfl))), rfl⟩
theorem kw_54 : Cond.laysFinal "OnceNamed$Program" "OnceNamed$Program" "blocks" "I" ∈ xW := List.mem_filter.mpr ⟨List.mem_append_right _ (List.mem_append_left _ (List.mem_of_getElem? (i := 54) rfl)), rfl⟩
theorem kw_56 : Cond.laysFinal "OnceNamed$Program" "OnceNamed$Program" "stepCount" "[I" ∈ xW := List.mem_filter.mpr ⟨List.mem_append_right _ (List.mem_append_left _ (List.mem_of_getElem? (i := 56) rfl)), rfl⟩
theorem kw_58 : Cond.laysFinal "OnceNamed$Program" "OnceNamed$Program" "kind" "[I" ∈ xW := List.mem_filter.mpr ⟨List.mem_append_right _ (List.mem_append_left _ (List.mem_of_getElem? (i := 58) rfl)), rfl⟩
theorem kw_60 : Cond.laysFinal "OnceNamed$Program" "OnceNamed$Program" "target" "[I" ∈ xW := List.mem_filter.mpr ⟨List.mem_append_right _ (List.mem_append_left _ (List.mem_of_getElem? (i := 60) rfl)), rfl⟩
theorem kw_62 : Cond.laysFinal "OnceNamed$Program" "OnceNamed$Program" "first" "[I" ∈ xW := List.mem_filter.mpr ⟨List.mem_append_right _ (List.mem_append_left _ (List.mem_of_getElem? (i := 62) rfl)), rfl⟩
theorem kw_64 : Cond.laysFinal "OnceNamed$Program" "OnceNamed$Program" "second" "[I" ∈ xW := List.mem_filter.mpr ⟨List.mem_append_right _ (List.mem_append_left _ (List.mem_of_getElem? (i := 64) rfl)), rfl⟩
theorem kw_66 : Cond.laysFinal "OnceNamed$Program" "OnceNamed$Program" "forkVariable" "[I" ∈ xW := List.mem_filter.mpr ⟨List.mem_append_right _ (List.mem_append_left _ (List.mem_of_getElem? (i := 66) rfl)), rfl⟩
theorem kw_68 : Cond.laysFinal "OnceNamed$Program" "OnceNamed$Program" "yes" "[I" ∈ xW := List.mem_filter.mpr ⟨List.mem_append_right _ (List.mem_append_left _ (List.mem_of_getElem? (i := 68) rfl)), rfl⟩
theorem kw_70 : Cond.laysFinal "OnceNamed$Program" "OnceNamed$Program" "no" "[I" ∈ xW := List.mem_filter.mpr ⟨List.mem_append_right _ (List.mem_append_left _ (List.mem_of_getElem? (i := 70) rfl)), rfl⟩
theorem kw_72 : Cond.laysFinal "OnceNamed$Program" "OnceNamed$Program" "starts" "[I" ∈ xW := List.mem_filter.mpr ⟨List.mem_append_right _ (List.mem_append_left _ (List.mem_of_getElem? (i := 72) rfl)), rfl⟩
theorem kw_91 : Cond.laysFinal "OnceNamed$Graph" "OnceNamed$Graph" "blocks" "I" ∈ xW := List.mem_filter.mpr ⟨List.mem_append_right _ (List.mem_append_left _ (List.mem_of_getElem? (i := 91) rfl)), rfl⟩
theorem kw_93 : Cond.laysFinal "OnceNamed$Graph" "OnceNamed$Graph" "forerunners" "[I" ∈ xW := List.mem_filter.mpr ⟨List.mem_append_right _ (List.mem_append_left _ (List.mem_of_getElem? (i := 93) rfl)), rfl⟩
theorem kw_95 : Cond.laysFinal "OnceNamed$Graph" "OnceNamed$Graph" "below" "[I" ∈ xW := List.mem_filter.mpr ⟨List.mem_append_right _ (List.mem_append_left _ (List.mem_of_getElem? (i := 95) rfl)), rfl⟩
theorem kw_97 : Cond.laysFinal "OnceNamed$Graph" "OnceNamed$Graph" "frontiers" "[I" ∈ xW := List.mem_filter.mpr ⟨List.mem_append_right _ (List.mem_append_left _ (List.mem_of_getElem? (i := 97) rfl)), rfl⟩
theorem kw_99 : Cond.laysFinal "OnceNamed$Graph" "OnceNamed$Graph" "parents" "[I" ∈ xW := List.mem_filter.mpr ⟨List.mem_append_right _ (List.mem_append_left _ (List.mem_of_getElem? (i := 99) rfl)), rfl⟩
theorem kw_101 : Cond.laysFinal "OnceNamed$Graph" "OnceNamed$Graph" "order" "[I" ∈ xW := List.mem_filter.mpr ⟨List.mem_append_right _ (List.mem_append_left _ (List.mem_of_getElem? (i := 101) rfl)), rfl⟩
theorem kw_103 : Cond.laysFinal "OnceNamed$Graph" "OnceNamed$Graph" "waiting" "[I" ∈ xW := List.mem_filter.mpr ⟨List.mem_append_right _ (List.mem_append_left _ (List.mem_of_getElem? (i := 103) rfl)), rfl⟩
theorem kw_105 : Cond.lays "OnceNamed$Graph" "OnceNamed$Graph" "orderSize" "I" ∈ xW := List.mem_filter.mpr ⟨List.mem_append_right _ (List.mem_append_left _ (List.mem_of_getElem? (i := 105) rfl)), rfl⟩
theorem kw_107 : Cond.lays "OnceNamed$Graph" "OnceNamed$Graph" "reached" "I" ∈ xW := List.mem_filter.mpr ⟨List.mem_append_right _ (List.mem_append_left _ (List.mem_of_getElem? (i := 107) rfl)), rfl⟩
theorem kw_134 : Cond.laysFinal "OnceNamed$NamedForm" "OnceNamed$NamedForm" "program" "LOnceNamed$Program;" ∈ xW := List.mem_filter.mpr ⟨List.mem_append_right _ (List.mem_append_left _ (List.mem_of_getElem? (i := 134) rfl)), rfl⟩
theorem kw_136 : Cond.laysFinal "OnceNamed$NamedForm" "OnceNamed$NamedForm" "graph" "LOnceNamed$Graph;" ∈ xW := List.mem_filter.mpr ⟨List.mem_append_right _ (List.mem_append_left _ (List.mem_of_getElem? (i := 136) rfl)), rfl⟩
theorem kw_138 : Cond.laysFinal "OnceNamed$NamedForm" "OnceNamed$NamedForm" "entry" "I" ∈ xW := List.mem_filter.mpr ⟨List.mem_append_right _ (List.mem_append_left _ (List.mem_of_getElem? (i := 138) rfl)), rfl⟩
theorem kw_140 : Cond.laysFinal "OnceNamed$NamedForm" "OnceNamed$NamedForm" "meetingNames" "[I" ∈ xW := List.mem_filter.mpr ⟨List.mem_append_right _ (List.mem_append_left _ (List.mem_of_getElem? (i := 140) rfl)), rfl⟩
theorem kw_142 : Cond.laysFinal "OnceNamed$NamedForm" "OnceNamed$NamedForm" "meetingUses" "[I" ∈ xW := List.mem_filter.mpr ⟨List.mem_append_right _ (List.mem_append_left _ (List.mem_of_getElem? (i := 142) rfl)), rfl⟩
theorem kw_144 : Cond.laysFinal "OnceNamed$NamedForm" "OnceNamed$NamedForm" "stepNames" "[I" ∈ xW := List.mem_filter.mpr ⟨List.mem_append_right _ (List.mem_append_left _ (List.mem_of_getElem? (i := 144) rfl)), rfl⟩
theorem kw_146 : Cond.laysFinal "OnceNamed$NamedForm" "OnceNamed$NamedForm" "firstUses" "[I" ∈ xW := List.mem_filter.mpr ⟨List.mem_append_right _ (List.mem_append_left _ (List.mem_of_getElem? (i := 146) rfl)), rfl⟩
theorem kw_148 : Cond.laysFinal "OnceNamed$NamedForm" "OnceNamed$NamedForm" "secondUses" "[I" ∈ xW := List.mem_filter.mpr ⟨List.mem_append_right _ (List.mem_append_left _ (List.mem_of_getElem? (i := 148) rfl)), rfl⟩
theorem kw_150 : Cond.laysFinal "OnceNamed$NamedForm" "OnceNamed$NamedForm" "endUses" "[I" ∈ xW := List.mem_filter.mpr ⟨List.mem_append_right _ (List.mem_append_left _ (List.mem_of_getElem? (i := 150) rfl)), rfl⟩
theorem kw_152 : Cond.laysFinal "OnceNamed$NamedForm" "OnceNamed$NamedForm" "lastNames" "[I" ∈ xW := List.mem_filter.mpr ⟨List.mem_append_right _ (List.mem_append_left _ (List.mem_of_getElem? (i := 152) rfl)), rfl⟩
theorem kw_154 : Cond.laysFinal "OnceNamed$NamedForm" "OnceNamed$NamedForm" "namesOf" "[I" ∈ xW := List.mem_filter.mpr ⟨List.mem_append_right _ (List.mem_append_left _ (List.mem_of_getElem? (i := 154) rfl)), rfl⟩
theorem kw_156 : Cond.laysFinal "OnceNamed$NamedForm" "OnceNamed$NamedForm" "homeBlock" "[I" ∈ xW := List.mem_filter.mpr ⟨List.mem_append_right _ (List.mem_append_left _ (List.mem_of_getElem? (i := 156) rfl)), rfl⟩
theorem kw_158 : Cond.laysFinal "OnceNamed$NamedForm" "OnceNamed$NamedForm" "homePlace" "[I" ∈ xW := List.mem_filter.mpr ⟨List.mem_append_right _ (List.mem_append_left _ (List.mem_of_getElem? (i := 158) rfl)), rfl⟩
theorem kw_160 : Cond.laysFinal "OnceNamed$NamedForm" "OnceNamed$NamedForm" "standsFor" "[I" ∈ xW := List.mem_filter.mpr ⟨List.mem_append_right _ (List.mem_append_left _ (List.mem_of_getElem? (i := 160) rfl)), rfl⟩
theorem kw_175 : Cond.laysFinal "OnceNamed$CopyPlan" "OnceNamed$CopyPlan" "pendingTo" "[I" ∈ xW := List.mem_filter.mpr ⟨List.mem_append_right _ (List.mem_append_left _ (List.mem_of_getElem? (i := 175) rfl)), rfl⟩
theorem kw_177 : Cond.laysFinal "OnceNamed$CopyPlan" "OnceNamed$CopyPlan" "pendingFrom" "[I" ∈ xW := List.mem_filter.mpr ⟨List.mem_append_right _ (List.mem_append_left _ (List.mem_of_getElem? (i := 177) rfl)), rfl⟩
theorem kw_179 : Cond.laysFinal "OnceNamed$CopyPlan" "OnceNamed$CopyPlan" "copyTo" "[I" ∈ xW := List.mem_filter.mpr ⟨List.mem_append_right _ (List.mem_append_left _ (List.mem_of_getElem? (i := 179) rfl)), rfl⟩
theorem kw_181 : Cond.laysFinal "OnceNamed$CopyPlan" "OnceNamed$CopyPlan" "copyFrom" "[I" ∈ xW := List.mem_filter.mpr ⟨List.mem_append_right _ (List.mem_append_left _ (List.mem_of_getElem? (i := 181) rfl)), rfl⟩
theorem kw_183 : Cond.lays "OnceNamed$CopyPlan" "OnceNamed$CopyPlan" "pending" "I" ∈ xW := List.mem_filter.mpr ⟨List.mem_append_right _ (List.mem_append_left _ (List.mem_of_getElem? (i := 183) rfl)), rfl⟩
theorem kw_185 : Cond.lays "OnceNamed$CopyPlan" "OnceNamed$CopyPlan" "length" "I" ∈ xW := List.mem_filter.mpr ⟨List.mem_append_right _ (List.mem_append_left _ (List.mem_of_getElem? (i := 185) rfl)), rfl⟩
theorem kw_200 : Cond.laysFinal "OnceNamed$Runner" "OnceNamed$Runner" "program" "LOnceNamed$Program;" ∈ xW := List.mem_filter.mpr ⟨List.mem_append_right _ (List.mem_append_left _ (List.mem_of_getElem? (i := 200) rfl)), rfl⟩
theorem kw_202 : Cond.laysFinal "OnceNamed$Runner" "OnceNamed$Runner" "form" "LOnceNamed$NamedForm;" ∈ xW := List.mem_filter.mpr ⟨List.mem_append_right _ (List.mem_append_left _ (List.mem_of_getElem? (i := 202) rfl)), rfl⟩
theorem kw_204 : Cond.laysFinal "OnceNamed$Runner" "OnceNamed$Runner" "plan" "LOnceNamed$CopyPlan;" ∈ xW := List.mem_filter.mpr ⟨List.mem_append_right _ (List.mem_append_left _ (List.mem_of_getElem? (i := 204) rfl)), rfl⟩
theorem kw_206 : Cond.laysFinal "OnceNamed$Runner" "OnceNamed$Runner" "values" "[I" ∈ xW := List.mem_filter.mpr ⟨List.mem_append_right _ (List.mem_append_left _ (List.mem_of_getElem? (i := 206) rfl)), rfl⟩
theorem kw_208 : Cond.laysFinal "OnceNamed$Runner" "OnceNamed$Runner" "arriving" "[I" ∈ xW := List.mem_filter.mpr ⟨List.mem_append_right _ (List.mem_append_left _ (List.mem_of_getElem? (i := 208) rfl)), rfl⟩
theorem kw_210 : Cond.lays "OnceNamed$Runner" "OnceNamed$Runner" "way" "I" ∈ xW := List.mem_filter.mpr ⟨List.mem_append_right _ (List.mem_append_left _ (List.mem_of_getElem? (i := 210) rfl)), rfl⟩
theorem kw_222 : Cond.laysFinal "OnceNamed$Talk" "OnceNamed$Talk" "numbers" "[I" ∈ xW := List.mem_filter.mpr ⟨List.mem_append_right _ (List.mem_append_left _ (List.mem_of_getElem? (i := 222) rfl)), rfl⟩
theorem kw_224 : Cond.lays "OnceNamed$Talk" "OnceNamed$Talk" "size" "I" ∈ xW := List.mem_filter.mpr ⟨List.mem_append_right _ (List.mem_append_left _ (List.mem_of_getElem? (i := 224) rfl)), rfl⟩
theorem kw_226 : Cond.lays "OnceNamed$Talk" "OnceNamed$Talk" "outcome" "I" ∈ xW := List.mem_filter.mpr ⟨List.mem_append_right _ (List.mem_append_left _ (List.mem_of_getElem? (i := 226) rfl)), rfl⟩
theorem kw_43 : Cond.code yArrays_fill cArrays_fill 4 none ∈ xW := List.mem_filter.mpr ⟨List.mem_append_right _ (List.mem_append_left _ (List.mem_of_getElem? (i := 43) rfl)), rfl⟩
theorem kw_256 : Cond.constant "java/lang/Integer" 265 1431655765 ∈ xW := List.mem_filter.mpr ⟨List.mem_append_right _ (List.mem_append_right _ (List.mem_append_left _ (List.mem_of_getElem? (i := 16) rfl))), rfl⟩
theorem kw_257 : Cond.constant "java/lang/Integer" 266 858993459 ∈ xW := List.mem_filter.mpr ⟨List.mem_append_right _ (List.mem_append_right _ (List.mem_append_left _ (List.mem_of_getElem? (i := 17) rfl))), rfl⟩
theorem kw_258 : Cond.constant "java/lang/Integer" 267 252645135 ∈ xW := List.mem_filter.mpr ⟨List.mem_append_right _ (List.mem_append_right _ (List.mem_append_left _ (List.mem_of_getElem? (i := 18) rfl))), rfl⟩
theorem kw_255 : Cond.code yInteger_bitCount cInteger_bitCount 1 (some .int) ∈ xW := List.mem_filter.mpr ⟨List.mem_append_right _ (List.mem_append_right _ (List.mem_append_left _ (List.mem_of_getElem? (i := 15) rfl))), rfl⟩
theorem kw_239 : Cond.code yOn_has cOn_has 2 (some .boolean) ∈ xW := List.mem_filter.mpr ⟨List.mem_append_right _ (List.mem_append_left _ (List.mem_of_getElem? (i := 239) rfl)), rfl⟩
theorem kw_333 : Cond.code yProgram_setsVariable cProgram_setsVariable 1 (some .boolean) ∈ xW := List.mem_filter.mpr ⟨List.mem_append_right _ (List.mem_append_right _ (List.mem_append_left _ (List.mem_of_getElem? (i := 93) rfl))), rfl⟩
theorem kw_368 : Cond.code yProgram_usesFirst cProgram_usesFirst 1 (some .boolean) ∈ xW := List.mem_filter.mpr ⟨List.mem_append_right _ (List.mem_append_right _ (List.mem_append_left _ (List.mem_of_getElem? (i := 128) rfl))), rfl⟩
theorem kw_379 : Cond.code yProgram_usesSecond cProgram_usesSecond 1 (some .boolean) ∈ xW := List.mem_filter.mpr ⟨List.mem_append_right _ (List.mem_append_right _ (List.mem_append_left _ (List.mem_of_getElem? (i := 139) rfl))), rfl⟩
theorem kw_44 : Cond.fieldLink "OnceNamed$Program" 9 "OnceNamed$Program" "blocks" "I" ∈ xW := List.mem_filter.mpr ⟨List.mem_append_right _ (List.mem_append_left _ (List.mem_of_getElem? (i := 44) rfl)), rfl⟩
theorem kw_119 : Cond.code yProgram_blockCount cProgram_blockCount 1 (some .int) ∈ xW := List.mem_filter.mpr ⟨List.mem_append_right _ (List.mem_append_left _ (List.mem_of_getElem? (i := 119) rfl)), rfl⟩
theorem kw_45 : Cond.fieldLink "OnceNamed$Program" 15 "OnceNamed$Program" "stepCount" "[I" ∈ xW := List.mem_filter.mpr ⟨List.mem_append_right _ (List.mem_append_left _ (List.mem_of_getElem? (i := 45) rfl)), rfl⟩
theorem kw_357 : Cond.code yProgram_stepsOf cProgram_stepsOf 2 (some .int) ∈ xW := List.mem_filter.mpr ⟨List.mem_append_right _ (List.mem_append_right _ (List.mem_append_left _ (List.mem_of_getElem? (i := 117) rfl))), rfl⟩
theorem kw_46 : Cond.fieldLink "OnceNamed$Program" 19 "OnceNamed$Program" "kind" "[I" ∈ xW := List.mem_filter.mpr ⟨List.mem_append_right _ (List.mem_append_left _ (List.mem_of_getElem? (i := 46) rfl)), rfl⟩
theorem kw_47 : Cond.fieldLink "OnceNamed$Program" 22 "OnceNamed$Program" "target" "[I" ∈ xW := List.mem_filter.mpr ⟨List.mem_append_right _ (List.mem_append_left _ (List.mem_of_getElem? (i := 47) rfl)), rfl⟩
theorem kw_48 : Cond.fieldLink "OnceNamed$Program" 25 "OnceNamed$Program" "first" "[I" ∈ xW := List.mem_filter.mpr ⟨List.mem_append_right _ (List.mem_append_left _ (List.mem_of_getElem? (i := 48) rfl)), rfl⟩
theorem kw_49 : Cond.fieldLink "OnceNamed$Program" 28 "OnceNamed$Program" "second" "[I" ∈ xW := List.mem_filter.mpr ⟨List.mem_append_right _ (List.mem_append_left _ (List.mem_of_getElem? (i := 49) rfl)), rfl⟩
theorem kw_519 : Cond.code yProgram_addStep cProgram_addStep 7 none ∈ xW := List.mem_filter.mpr ⟨List.mem_append_right _ (List.mem_append_right _ (List.mem_append_right _ (List.mem_append_left _ (List.mem_of_getElem? (i := 39) rfl)))), rfl⟩
theorem kw_50 : Cond.fieldLink "OnceNamed$Program" 31 "OnceNamed$Program" "forkVariable" "[I" ∈ xW := List.mem_filter.mpr ⟨List.mem_append_right _ (List.mem_append_left _ (List.mem_of_getElem? (i := 50) rfl)), rfl⟩
theorem kw_51 : Cond.fieldLink "OnceNamed$Program" 34 "OnceNamed$Program" "yes" "[I" ∈ xW := List.mem_filter.mpr ⟨List.mem_append_right _ (List.mem_append_left _ (List.mem_of_getElem? (i := 51) rfl)), rfl⟩
theorem kw_52 : Cond.fieldLink "OnceNamed$Program" 37 "OnceNamed$Program" "no" "[I" ∈ xW := List.mem_filter.mpr ⟨List.mem_append_right _ (List.mem_append_left _ (List.mem_of_getElem? (i := 52) rfl)), rfl⟩
theorem kw_534 : Cond.code yProgram_changeEnd cProgram_changeEnd 5 none ∈ xW := List.mem_filter.mpr ⟨List.mem_append_right _ (List.mem_append_right _ (List.mem_append_right _ (List.mem_append_left _ (List.mem_of_getElem? (i := 54) rfl)))), rfl⟩
theorem kw_53 : Cond.fieldLink "OnceNamed$Program" 40 "OnceNamed$Program" "starts" "[I" ∈ xW := List.mem_filter.mpr ⟨List.mem_append_right _ (List.mem_append_left _ (List.mem_of_getElem? (i := 53) rfl)), rfl⟩
theorem kw_559 : Cond.code yProgram_changeStart cProgram_changeStart 3 none ∈ xW := List.mem_filter.mpr ⟨List.mem_append_right _ (List.mem_append_right _ (List.mem_append_right _ (List.mem_append_left _ (List.mem_of_getElem? (i := 79) rfl)))), rfl⟩
theorem kw_844 : Cond.code yProgram_startOf cProgram_startOf 2 (some .int) ∈ xW := List.mem_filter.mpr ⟨List.mem_append_right _ (List.mem_append_right _ (List.mem_append_right _ (List.mem_append_right _ (List.mem_append_left _ (List.mem_of_getElem? (i := 124) rfl))))), rfl⟩
theorem kw_620 : Cond.code yProgram_kindOf cProgram_kindOf 3 (some .int) ∈ xW := List.mem_filter.mpr ⟨List.mem_append_right _ (List.mem_append_right _ (List.mem_append_right _ (List.mem_append_left _ (List.mem_of_getElem? (i := 140) rfl)))), rfl⟩
theorem kw_902 : Cond.code yProgram_numberPut cProgram_numberPut 3 (some .int) ∈ xW := List.mem_filter.mpr ⟨List.mem_append_right _ (List.mem_append_right _ (List.mem_append_right _ (List.mem_append_right _ (List.mem_append_left _ (List.mem_of_getElem? (i := 182) rfl))))), rfl⟩
theorem kw_330 : Cond.code yProgram_variableSet cProgram_variableSet 4 (some .int) ∈ xW := List.mem_filter.mpr ⟨List.mem_append_right _ (List.mem_append_right _ (List.mem_append_left _ (List.mem_of_getElem? (i := 90) rfl))), rfl⟩
theorem kw_331 : Cond.methodLink "OnceNamed$Program" 49 yProgram_setsVariable ∈ xW := List.mem_filter.mpr ⟨List.mem_append_right _ (List.mem_append_right _ (List.mem_append_left _ (List.mem_of_getElem? (i := 91) rfl))), rfl⟩
theorem kw_332 : Cond.static yProgram_setsVariable ∈ xW := List.mem_filter.mpr ⟨List.mem_append_right _ (List.mem_append_right _ (List.mem_append_left _ (List.mem_of_getElem? (i := 92) rfl))), rfl⟩
theorem kw_3 : Cond.initialized "OnceNamed$Program" ∈ xW := List.mem_filter.mpr ⟨List.mem_append_right _ (List.mem_append_left _ (List.mem_of_getElem? (i := 3) rfl)), rfl⟩
theorem kw_365 : Cond.code yProgram_firstVariable cProgram_firstVariable 4 (some .int) ∈ xW := List.mem_filter.mpr ⟨List.mem_append_right _ (List.mem_append_right _ (List.mem_append_left _ (List.mem_of_getElem? (i := 125) rfl))), rfl⟩
theorem kw_366 : Cond.methodLink "OnceNamed$Program" 53 yProgram_usesFirst ∈ xW := List.mem_filter.mpr ⟨List.mem_append_right _ (List.mem_append_right _ (List.mem_append_left _ (List.mem_of_getElem? (i := 126) rfl))), rfl⟩
theorem kw_367 : Cond.static yProgram_usesFirst ∈ xW := List.mem_filter.mpr ⟨List.mem_append_right _ (List.mem_append_right _ (List.mem_append_left _ (List.mem_of_getElem? (i := 127) rfl))), rfl⟩
theorem kw_376 : Cond.code yProgram_secondVariable cProgram_secondVariable 4 (some .int) ∈ xW := List.mem_filter.mpr ⟨List.mem_append_right _ (List.mem_append_right _ (List.mem_append_left _ (List.mem_of_getElem? (i := 136) rfl))), rfl⟩
theorem kw_377 : Cond.methodLink "OnceNamed$Program" 56 yProgram_usesSecond ∈ xW := List.mem_filter.mpr ⟨List.mem_append_right _ (List.mem_append_right _ (List.mem_append_left _ (List.mem_of_getElem? (i := 137) rfl))), rfl⟩
theorem kw_378 : Cond.static yProgram_usesSecond ∈ xW := List.mem_filter.mpr ⟨List.mem_append_right _ (List.mem_append_right _ (List.mem_append_left _ (List.mem_of_getElem? (i := 138) rfl))), rfl⟩
theorem kw_384 : Cond.code yProgram_variableOfFork cProgram_variableOfFork 2 (some .int) ∈ xW := List.mem_filter.mpr ⟨List.mem_append_right _ (List.mem_append_right _ (List.mem_append_left _ (List.mem_of_getElem? (i := 144) rfl))), rfl⟩
theorem kw_917 : Cond.code yProgram_blockAfter cProgram_blockAfter 3 (some .int) ∈ xW := List.mem_filter.mpr ⟨List.mem_append_right _ (List.mem_append_right _ (List.mem_append_right _ (List.mem_append_right _ (List.mem_append_left _ (List.mem_of_getElem? (i := 197) rfl))))), rfl⟩
theorem kw_243 : Cond.code yProgram_followers cProgram_followers 2 (some .int) ∈ xW := List.mem_filter.mpr ⟨List.mem_append_right _ (List.mem_append_right _ (List.mem_append_left _ (List.mem_of_getElem? (i := 3) rfl))), rfl⟩
theorem kw_326 : Cond.code yProgram_setsInBlock cProgram_setsInBlock 4 (some .boolean) ∈ xW := List.mem_filter.mpr ⟨List.mem_append_right _ (List.mem_append_right _ (List.mem_append_left _ (List.mem_of_getElem? (i := 86) rfl))), rfl⟩
theorem kw_327 : Cond.methodLink "OnceNamed$Program" 59 yProgram_variableSet ∈ xW := List.mem_filter.mpr ⟨List.mem_append_right _ (List.mem_append_right _ (List.mem_append_left _ (List.mem_of_getElem? (i := 87) rfl))), rfl⟩
theorem kw_328 : Cond.instanceMethod yProgram_variableSet ∈ xW := List.mem_filter.mpr ⟨List.mem_append_right _ (List.mem_append_right _ (List.mem_append_left _ (List.mem_of_getElem? (i := 88) rfl))), rfl⟩
theorem kw_329 : Cond.selects "OnceNamed$Program" yProgram_variableSet yProgram_variableSet ∈ xW := List.mem_filter.mpr ⟨List.mem_append_right _ (List.mem_append_right _ (List.mem_append_left _ (List.mem_of_getElem? (i := 89) rfl))), rfl⟩
theorem kw_220 : Cond.fieldLink "OnceNamed$Talk" 13 "OnceNamed$Talk" "size" "I" ∈ xW := List.mem_filter.mpr ⟨List.mem_append_right _ (List.mem_append_left _ (List.mem_of_getElem? (i := 220) rfl)), rfl⟩
theorem kw_221 : Cond.fieldLink "OnceNamed$Talk" 17 "OnceNamed$Talk" "outcome" "I" ∈ xW := List.mem_filter.mpr ⟨List.mem_append_right _ (List.mem_append_left _ (List.mem_of_getElem? (i := 221) rfl)), rfl⟩
theorem kw_831 : Cond.code yTalk_begin cTalk_begin 1 none ∈ xW := List.mem_filter.mpr ⟨List.mem_append_right _ (List.mem_append_right _ (List.mem_append_right _ (List.mem_append_right _ (List.mem_append_left _ (List.mem_of_getElem? (i := 111) rfl))))), rfl⟩
theorem kw_219 : Cond.fieldLink "OnceNamed$Talk" 9 "OnceNamed$Talk" "numbers" "[I" ∈ xW := List.mem_filter.mpr ⟨List.mem_append_right _ (List.mem_append_left _ (List.mem_of_getElem? (i := 219) rfl)), rfl⟩
theorem kw_894 : Cond.code yTalk_say cTalk_say 2 none ∈ xW := List.mem_filter.mpr ⟨List.mem_append_right _ (List.mem_append_right _ (List.mem_append_right _ (List.mem_append_right _ (List.mem_append_left _ (List.mem_of_getElem? (i := 174) rfl))))), rfl⟩
theorem kw_898 : Cond.code yTalk_fail cTalk_fail 2 none ∈ xW := List.mem_filter.mpr ⟨List.mem_append_right _ (List.mem_append_right _ (List.mem_append_right _ (List.mem_append_right _ (List.mem_append_left _ (List.mem_of_getElem? (i := 178) rfl))))), rfl⟩
theorem kw_878 : Cond.code yTalk_outcome cTalk_outcome 1 (some .int) ∈ xW := List.mem_filter.mpr ⟨List.mem_append_right _ (List.mem_append_right _ (List.mem_append_right _ (List.mem_append_right _ (List.mem_append_left _ (List.mem_of_getElem? (i := 158) rfl))))), rfl⟩
theorem kw_939 : Cond.code yTalk_size cTalk_size 1 (some .int) ∈ xW := List.mem_filter.mpr ⟨List.mem_append_right _ (List.mem_append_right _ (List.mem_append_right _ (List.mem_append_right _ (List.mem_append_left _ (List.mem_of_getElem? (i := 219) rfl))))), rfl⟩
theorem kw_967 : Cond.code yTalk_number cTalk_number 2 (some .int) ∈ xW := List.mem_filter.mpr ⟨List.mem_append_right _ (List.mem_append_right _ (List.mem_append_right _ (List.mem_append_right _ (List.mem_append_right _ (List.mem_append_left _ (List.mem_of_getElem? (i := 7) rfl)))))), rfl⟩
theorem kw_978 : Cond.code yTalk_isLike cTalk_isLike 3 (some .boolean) ∈ xW := List.mem_filter.mpr ⟨List.mem_append_right _ (List.mem_append_right _ (List.mem_append_right _ (List.mem_append_right _ (List.mem_append_right _ (List.mem_append_left _ (List.mem_of_getElem? (i := 18) rfl)))))), rfl⟩
theorem kw_82 : Cond.fieldLink "OnceNamed$Graph" 9 "OnceNamed$Graph" "blocks" "I" ∈ xW := List.mem_filter.mpr ⟨List.mem_append_right _ (List.mem_append_left _ (List.mem_of_getElem? (i := 82) rfl)), rfl⟩
theorem kw_236 : Cond.code yGraph_reachedWithout cGraph_reachedWithout 8 (some .int) ∈ xW := List.mem_filter.mpr ⟨List.mem_append_right _ (List.mem_append_left _ (List.mem_of_getElem? (i := 236) rfl)), rfl⟩
theorem kw_1 : Cond.initialized "OnceNamed" ∈ xW := List.mem_filter.mpr ⟨List.mem_append_right _ (List.mem_append_left _ (List.mem_of_getElem? (i := 1) rfl)), rfl⟩
theorem kw_238 : Cond.static yOn_has ∈ xW := List.mem_filter.mpr ⟨List.mem_append_right _ (List.mem_append_left _ (List.mem_of_getElem? (i := 238) rfl)), rfl⟩
theorem kw_240 : Cond.methodLink "OnceNamed$Graph" 59 yProgram_followers ∈ xW := List.mem_filter.mpr ⟨List.mem_append_right _ (List.mem_append_right _ (List.mem_append_left _ (List.mem_of_getElem? (i := 0) rfl))), rfl⟩
theorem kw_241 : Cond.instanceMethod yProgram_followers ∈ xW := List.mem_filter.mpr ⟨List.mem_append_right _ (List.mem_append_right _ (List.mem_append_left _ (List.mem_of_getElem? (i := 1) rfl))), rfl⟩
theorem kw_242 : Cond.selects "OnceNamed$Program" yProgram_followers yProgram_followers ∈ xW := List.mem_filter.mpr ⟨List.mem_append_right _ (List.mem_append_right _ (List.mem_append_left _ (List.mem_of_getElem? (i := 2) rfl))), rfl⟩
theorem kw_83 : Cond.fieldLink "OnceNamed$Graph" 15 "OnceNamed$Graph" "forerunners" "[I" ∈ xW := List.mem_filter.mpr ⟨List.mem_append_right _ (List.mem_append_left _ (List.mem_of_getElem? (i := 83) rfl)), rfl⟩
theorem kw_90 : Cond.fieldLink "OnceNamed$Graph" 38 "OnceNamed$Graph" "reached" "I" ∈ xW := List.mem_filter.mpr ⟨List.mem_append_right _ (List.mem_append_left _ (List.mem_of_getElem? (i := 90) rfl)), rfl⟩
theorem kw_247 : Cond.code yGraph_findForerunners cGraph_findForerunners 5 none ∈ xW := List.mem_filter.mpr ⟨List.mem_append_right _ (List.mem_append_right _ (List.mem_append_left _ (List.mem_of_getElem? (i := 7) rfl))), rfl⟩
theorem kw_248 : Cond.methodLink "OnceNamed$Graph" 64 yArrays_fill ∈ xW := List.mem_filter.mpr ⟨List.mem_append_right _ (List.mem_append_right _ (List.mem_append_left _ (List.mem_of_getElem? (i := 8) rfl))), rfl⟩
theorem kw_42 : Cond.static yArrays_fill ∈ xW := List.mem_filter.mpr ⟨List.mem_append_right _ (List.mem_append_left _ (List.mem_of_getElem? (i := 42) rfl)), rfl⟩
theorem kw_4 : Cond.initialized "java/util/Arrays" ∈ xW := List.mem_filter.mpr ⟨List.mem_append_right _ (List.mem_append_left _ (List.mem_of_getElem? (i := 4) rfl)), rfl⟩
theorem kw_89 : Cond.fieldLink "OnceNamed$Graph" 75 "OnceNamed$Graph" "orderSize" "I" ∈ xW := List.mem_filter.mpr ⟨List.mem_append_right _ (List.mem_append_left _ (List.mem_of_getElem? (i := 89) rfl)), rfl⟩
theorem kw_88 : Cond.fieldLink "OnceNamed$Graph" 31 "OnceNamed$Graph" "waiting" "[I" ∈ xW := List.mem_filter.mpr ⟨List.mem_append_right _ (List.mem_append_left _ (List.mem_of_getElem? (i := 88) rfl)), rfl⟩
theorem kw_87 : Cond.fieldLink "OnceNamed$Graph" 28 "OnceNamed$Graph" "order" "[I" ∈ xW := List.mem_filter.mpr ⟨List.mem_append_right _ (List.mem_append_left _ (List.mem_of_getElem? (i := 87) rfl)), rfl⟩
theorem kw_86 : Cond.fieldLink "OnceNamed$Graph" 25 "OnceNamed$Graph" "parents" "[I" ∈ xW := List.mem_filter.mpr ⟨List.mem_append_right _ (List.mem_append_left _ (List.mem_of_getElem? (i := 86) rfl)), rfl⟩
theorem kw_266 : Cond.code yGraph_findOrder cGraph_findOrder 5 none ∈ xW := List.mem_filter.mpr ⟨List.mem_append_right _ (List.mem_append_right _ (List.mem_append_left _ (List.mem_of_getElem? (i := 26) rfl))), rfl⟩
theorem kw_84 : Cond.fieldLink "OnceNamed$Graph" 19 "OnceNamed$Graph" "below" "[I" ∈ xW := List.mem_filter.mpr ⟨List.mem_append_right _ (List.mem_append_left _ (List.mem_of_getElem? (i := 84) rfl)), rfl⟩
theorem kw_262 : Cond.code yGraph_findFrontier cGraph_findFrontier 5 (some .int) ∈ xW := List.mem_filter.mpr ⟨List.mem_append_right _ (List.mem_append_right _ (List.mem_append_left _ (List.mem_of_getElem? (i := 22) rfl))), rfl⟩
theorem kw_252 : Cond.code yGraph_nearestAbove cGraph_nearestAbove 6 (some .int) ∈ xW := List.mem_filter.mpr ⟨List.mem_append_right _ (List.mem_append_right _ (List.mem_append_left _ (List.mem_of_getElem? (i := 12) rfl))), rfl⟩
theorem kw_253 : Cond.methodLink "OnceNamed$Graph" 70 yInteger_bitCount ∈ xW := List.mem_filter.mpr ⟨List.mem_append_right _ (List.mem_append_right _ (List.mem_append_left _ (List.mem_of_getElem? (i := 13) rfl))), rfl⟩
theorem kw_254 : Cond.static yInteger_bitCount ∈ xW := List.mem_filter.mpr ⟨List.mem_append_right _ (List.mem_append_right _ (List.mem_append_left _ (List.mem_of_getElem? (i := 14) rfl))), rfl⟩
theorem kw_10 : Cond.initialized "java/lang/Integer" ∈ xW := List.mem_filter.mpr ⟨List.mem_append_right _ (List.mem_append_left _ (List.mem_of_getElem? (i := 10) rfl)), rfl⟩
theorem kw_85 : Cond.fieldLink "OnceNamed$Graph" 22 "OnceNamed$Graph" "frontiers" "[I" ∈ xW := List.mem_filter.mpr ⟨List.mem_append_right _ (List.mem_append_left _ (List.mem_of_getElem? (i := 85) rfl)), rfl⟩
theorem kw_232 : Cond.code yGraph_survey cGraph_survey 3 none ∈ xW := List.mem_filter.mpr ⟨List.mem_append_right _ (List.mem_append_left _ (List.mem_of_getElem? (i := 232) rfl)), rfl⟩
theorem kw_233 : Cond.methodLink "OnceNamed$Graph" 34 yGraph_reachedWithout ∈ xW := List.mem_filter.mpr ⟨List.mem_append_right _ (List.mem_append_left _ (List.mem_of_getElem? (i := 233) rfl)), rfl⟩
theorem kw_235 : Cond.instanceMethod yGraph_reachedWithout ∈ xW := List.mem_filter.mpr ⟨List.mem_append_right _ (List.mem_append_left _ (List.mem_of_getElem? (i := 235) rfl)), rfl⟩
theorem ks_1_0 : Cond.selects "OnceNamed$Graph" yGraph_reachedWithout yGraph_reachedWithout ∈ xW := List.mem_filter.mpr ⟨List.mem_append_left _ (List.mem_map.mpr ⟨(⟨"OnceNamed$Graph", "reachedWithout", "(LOnceNamed$Program;I)I"⟩, 9), List.mem_append_left _ (List.mem_of_getElem? (i := 0) rfl), rfl⟩), rfl⟩
theorem kw_5 : Cond.initialized "OnceNamed$Graph" ∈ xW := List.mem_filter.mpr ⟨List.mem_append_right _ (List.mem_append_left _ (List.mem_of_getElem? (i := 5) rfl)), rfl⟩
theorem kw_244 : Cond.methodLink "OnceNamed$Graph" 41 yGraph_findForerunners ∈ xW := List.mem_filter.mpr ⟨List.mem_append_right _ (List.mem_append_right _ (List.mem_append_left _ (List.mem_of_getElem? (i := 4) rfl))), rfl⟩
theorem kw_246 : Cond.instanceMethod yGraph_findForerunners ∈ xW := List.mem_filter.mpr ⟨List.mem_append_right _ (List.mem_append_right _ (List.mem_append_left _ (List.mem_of_getElem? (i := 6) rfl))), rfl⟩
theorem ks_1_1 : Cond.selects "OnceNamed$Graph" yGraph_findForerunners yGraph_findForerunners ∈ xW := List.mem_filter.mpr ⟨List.mem_append_left _ (List.mem_map.mpr ⟨(⟨"OnceNamed$Graph", "findForerunners", "(LOnceNamed$Program;)V"⟩, 9), List.mem_append_left _ (List.mem_of_getElem? (i := 1) rfl), rfl⟩), rfl⟩
theorem kw_259 : Cond.methodLink "OnceNamed$Graph" 53 yGraph_findFrontier ∈ xW := List.mem_filter.mpr ⟨List.mem_append_right _ (List.mem_append_right _ (List.mem_append_left _ (List.mem_of_getElem? (i := 19) rfl))), rfl⟩
theorem kw_261 : Cond.instanceMethod yGraph_findFrontier ∈ xW := List.mem_filter.mpr ⟨List.mem_append_right _ (List.mem_append_right _ (List.mem_append_left _ (List.mem_of_getElem? (i := 21) rfl))), rfl⟩
theorem ks_1_3 : Cond.selects "OnceNamed$Graph" yGraph_findFrontier yGraph_findFrontier ∈ xW := List.mem_filter.mpr ⟨List.mem_append_left _ (List.mem_map.mpr ⟨(⟨"OnceNamed$Graph", "findFrontier", "(I)I"⟩, 9), List.mem_append_left _ (List.mem_of_getElem? (i := 3) rfl), rfl⟩), rfl⟩
theorem kw_249 : Cond.methodLink "OnceNamed$Graph" 49 yGraph_nearestAbove ∈ xW := List.mem_filter.mpr ⟨List.mem_append_right _ (List.mem_append_right _ (List.mem_append_left _ (List.mem_of_getElem? (i := 9) rfl))), rfl⟩
theorem kw_251 : Cond.instanceMethod yGraph_nearestAbove ∈ xW := List.mem_filter.mpr ⟨List.mem_append_right _ (List.mem_append_right _ (List.mem_append_left _ (List.mem_of_getElem? (i := 11) rfl))), rfl⟩
theorem ks_1_2 : Cond.selects "OnceNamed$Graph" yGraph_nearestAbove yGraph_nearestAbove ∈ xW := List.mem_filter.mpr ⟨List.mem_append_left _ (List.mem_map.mpr ⟨(⟨"OnceNamed$Graph", "nearestAbove", "(I)I"⟩, 9), List.mem_append_left _ (List.mem_of_getElem? (i := 2) rfl), rfl⟩), rfl⟩
theorem kw_263 : Cond.methodLink "OnceNamed$Graph" 56 yGraph_findOrder ∈ xW := List.mem_filter.mpr ⟨List.mem_append_right _ (List.mem_append_right _ (List.mem_append_left _ (List.mem_of_getElem? (i := 23) rfl))), rfl⟩
theorem kw_265 : Cond.instanceMethod yGraph_findOrder ∈ xW := List.mem_filter.mpr ⟨List.mem_append_right _ (List.mem_append_right _ (List.mem_append_left _ (List.mem_of_getElem? (i := 25) rfl))), rfl⟩
theorem ks_1_4 : Cond.selects "OnceNamed$Graph" yGraph_findOrder yGraph_findOrder ∈ xW := List.mem_filter.mpr ⟨List.mem_append_left _ (List.mem_map.mpr ⟨(⟨"OnceNamed$Graph", "findOrder", "()V"⟩, 9), List.mem_append_left _ (List.mem_of_getElem? (i := 4) rfl), rfl⟩), rfl⟩
theorem kw_350 : Cond.code yGraph_parentOf cGraph_parentOf 2 (some .int) ∈ xW := List.mem_filter.mpr ⟨List.mem_append_right _ (List.mem_append_right _ (List.mem_append_left _ (List.mem_of_getElem? (i := 110) rfl))), rfl⟩
theorem kw_603 : Cond.code yGraph_hasBelow cGraph_hasBelow 3 (some .boolean) ∈ xW := List.mem_filter.mpr ⟨List.mem_append_right _ (List.mem_append_right _ (List.mem_append_right _ (List.mem_append_left _ (List.mem_of_getElem? (i := 123) rfl)))), rfl⟩
theorem kw_651 : Cond.code yGraph_frontierOf cGraph_frontierOf 2 (some .int) ∈ xW := List.mem_filter.mpr ⟨List.mem_append_right _ (List.mem_append_right _ (List.mem_append_right _ (List.mem_append_left _ (List.mem_of_getElem? (i := 171) rfl)))), rfl⟩
theorem kw_337 : Cond.code yGraph_frontierOfAll cGraph_frontierOfAll 4 (some .int) ∈ xW := List.mem_filter.mpr ⟨List.mem_append_right _ (List.mem_append_right _ (List.mem_append_left _ (List.mem_of_getElem? (i := 97) rfl))), rfl⟩
theorem kw_396 : Cond.code yGraph_leadsTo cGraph_leadsTo 3 (some .boolean) ∈ xW := List.mem_filter.mpr ⟨List.mem_append_right _ (List.mem_append_right _ (List.mem_append_left _ (List.mem_of_getElem? (i := 156) rfl))), rfl⟩
theorem kw_318 : Cond.code yGraph_reachedCount cGraph_reachedCount 1 (some .int) ∈ xW := List.mem_filter.mpr ⟨List.mem_append_right _ (List.mem_append_right _ (List.mem_append_left _ (List.mem_of_getElem? (i := 78) rfl))), rfl⟩
theorem kw_322 : Cond.code yGraph_inOrder cGraph_inOrder 2 (some .int) ∈ xW := List.mem_filter.mpr ⟨List.mem_append_right _ (List.mem_append_right _ (List.mem_append_left _ (List.mem_of_getElem? (i := 82) rfl))), rfl⟩
theorem kw_121 : Cond.fieldLink "OnceNamed$NamedForm" 15 "OnceNamed$NamedForm" "graph" "LOnceNamed$Graph;" ∈ xW := List.mem_filter.mpr ⟨List.mem_append_right _ (List.mem_append_left _ (List.mem_of_getElem? (i := 121) rfl)), rfl⟩
theorem kw_120 : Cond.fieldLink "OnceNamed$NamedForm" 11 "OnceNamed$NamedForm" "program" "LOnceNamed$Program;" ∈ xW := List.mem_filter.mpr ⟨List.mem_append_right _ (List.mem_append_left _ (List.mem_of_getElem? (i := 120) rfl)), rfl⟩
theorem kw_122 : Cond.fieldLink "OnceNamed$NamedForm" 25 "OnceNamed$NamedForm" "entry" "I" ∈ xW := List.mem_filter.mpr ⟨List.mem_append_right _ (List.mem_append_left _ (List.mem_of_getElem? (i := 122) rfl)), rfl⟩
theorem kw_123 : Cond.fieldLink "OnceNamed$NamedForm" 29 "OnceNamed$NamedForm" "meetingNames" "[I" ∈ xW := List.mem_filter.mpr ⟨List.mem_append_right _ (List.mem_append_left _ (List.mem_of_getElem? (i := 123) rfl)), rfl⟩
theorem kw_314 : Cond.code yNamedForm_markMeetings cNamedForm_markMeetings 5 none ∈ xW := List.mem_filter.mpr ⟨List.mem_append_right _ (List.mem_append_right _ (List.mem_append_left _ (List.mem_of_getElem? (i := 74) rfl))), rfl⟩
theorem kw_315 : Cond.methodLink "OnceNamed$NamedForm" 70 yGraph_reachedCount ∈ xW := List.mem_filter.mpr ⟨List.mem_append_right _ (List.mem_append_right _ (List.mem_append_left _ (List.mem_of_getElem? (i := 75) rfl))), rfl⟩
theorem kw_316 : Cond.instanceMethod yGraph_reachedCount ∈ xW := List.mem_filter.mpr ⟨List.mem_append_right _ (List.mem_append_right _ (List.mem_append_left _ (List.mem_of_getElem? (i := 76) rfl))), rfl⟩
theorem kw_317 : Cond.selects "OnceNamed$Graph" yGraph_reachedCount yGraph_reachedCount ∈ xW := List.mem_filter.mpr ⟨List.mem_append_right _ (List.mem_append_right _ (List.mem_append_left _ (List.mem_of_getElem? (i := 77) rfl))), rfl⟩
theorem kw_319 : Cond.methodLink "OnceNamed$NamedForm" 75 yGraph_inOrder ∈ xW := List.mem_filter.mpr ⟨List.mem_append_right _ (List.mem_append_right _ (List.mem_append_left _ (List.mem_of_getElem? (i := 79) rfl))), rfl⟩
theorem kw_320 : Cond.instanceMethod yGraph_inOrder ∈ xW := List.mem_filter.mpr ⟨List.mem_append_right _ (List.mem_append_right _ (List.mem_append_left _ (List.mem_of_getElem? (i := 80) rfl))), rfl⟩
theorem kw_321 : Cond.selects "OnceNamed$Graph" yGraph_inOrder yGraph_inOrder ∈ xW := List.mem_filter.mpr ⟨List.mem_append_right _ (List.mem_append_right _ (List.mem_append_left _ (List.mem_of_getElem? (i := 81) rfl))), rfl⟩
theorem kw_323 : Cond.methodLink "OnceNamed$NamedForm" 95 yProgram_setsInBlock ∈ xW := List.mem_filter.mpr ⟨List.mem_append_right _ (List.mem_append_right _ (List.mem_append_left _ (List.mem_of_getElem? (i := 83) rfl))), rfl⟩
theorem kw_324 : Cond.instanceMethod yProgram_setsInBlock ∈ xW := List.mem_filter.mpr ⟨List.mem_append_right _ (List.mem_append_right _ (List.mem_append_left _ (List.mem_of_getElem? (i := 84) rfl))), rfl⟩
theorem kw_325 : Cond.selects "OnceNamed$Program" yProgram_setsInBlock yProgram_setsInBlock ∈ xW := List.mem_filter.mpr ⟨List.mem_append_right _ (List.mem_append_right _ (List.mem_append_left _ (List.mem_of_getElem? (i := 85) rfl))), rfl⟩
theorem kw_334 : Cond.methodLink "OnceNamed$NamedForm" 99 yGraph_frontierOfAll ∈ xW := List.mem_filter.mpr ⟨List.mem_append_right _ (List.mem_append_right _ (List.mem_append_left _ (List.mem_of_getElem? (i := 94) rfl))), rfl⟩
theorem kw_335 : Cond.instanceMethod yGraph_frontierOfAll ∈ xW := List.mem_filter.mpr ⟨List.mem_append_right _ (List.mem_append_right _ (List.mem_append_left _ (List.mem_of_getElem? (i := 95) rfl))), rfl⟩
theorem kw_336 : Cond.selects "OnceNamed$Graph" yGraph_frontierOfAll yGraph_frontierOfAll ∈ xW := List.mem_filter.mpr ⟨List.mem_append_right _ (List.mem_append_right _ (List.mem_append_left _ (List.mem_of_getElem? (i := 96) rfl))), rfl⟩
theorem kw_124 : Cond.fieldLink "OnceNamed$NamedForm" 33 "OnceNamed$NamedForm" "meetingUses" "[I" ∈ xW := List.mem_filter.mpr ⟨List.mem_append_right _ (List.mem_append_left _ (List.mem_of_getElem? (i := 124) rfl)), rfl⟩
theorem kw_125 : Cond.fieldLink "OnceNamed$NamedForm" 36 "OnceNamed$NamedForm" "stepNames" "[I" ∈ xW := List.mem_filter.mpr ⟨List.mem_append_right _ (List.mem_append_left _ (List.mem_of_getElem? (i := 125) rfl)), rfl⟩
theorem kw_126 : Cond.fieldLink "OnceNamed$NamedForm" 39 "OnceNamed$NamedForm" "firstUses" "[I" ∈ xW := List.mem_filter.mpr ⟨List.mem_append_right _ (List.mem_append_left _ (List.mem_of_getElem? (i := 126) rfl)), rfl⟩
theorem kw_127 : Cond.fieldLink "OnceNamed$NamedForm" 42 "OnceNamed$NamedForm" "secondUses" "[I" ∈ xW := List.mem_filter.mpr ⟨List.mem_append_right _ (List.mem_append_left _ (List.mem_of_getElem? (i := 127) rfl)), rfl⟩
theorem kw_128 : Cond.fieldLink "OnceNamed$NamedForm" 45 "OnceNamed$NamedForm" "endUses" "[I" ∈ xW := List.mem_filter.mpr ⟨List.mem_append_right _ (List.mem_append_left _ (List.mem_of_getElem? (i := 128) rfl)), rfl⟩
theorem kw_130 : Cond.fieldLink "OnceNamed$NamedForm" 51 "OnceNamed$NamedForm" "namesOf" "[I" ∈ xW := List.mem_filter.mpr ⟨List.mem_append_right _ (List.mem_append_left _ (List.mem_of_getElem? (i := 130) rfl)), rfl⟩
theorem kw_131 : Cond.fieldLink "OnceNamed$NamedForm" 54 "OnceNamed$NamedForm" "homeBlock" "[I" ∈ xW := List.mem_filter.mpr ⟨List.mem_append_right _ (List.mem_append_left _ (List.mem_of_getElem? (i := 131) rfl)), rfl⟩
theorem kw_309 : Cond.code yNamedForm_forgetAll cNamedForm_forgetAll 2 none ∈ xW := List.mem_filter.mpr ⟨List.mem_append_right _ (List.mem_append_right _ (List.mem_append_left _ (List.mem_of_getElem? (i := 69) rfl))), rfl⟩
theorem kw_310 : Cond.methodLink "OnceNamed$NamedForm" 86 yArrays_fill ∈ xW := List.mem_filter.mpr ⟨List.mem_append_right _ (List.mem_append_right _ (List.mem_append_left _ (List.mem_of_getElem? (i := 70) rfl))), rfl⟩
theorem kw_311 : Cond.methodLink "OnceNamed$NamedForm" 92 yNamedForm_markMeetings ∈ xW := List.mem_filter.mpr ⟨List.mem_append_right _ (List.mem_append_right _ (List.mem_append_left _ (List.mem_of_getElem? (i := 71) rfl))), rfl⟩
theorem kw_313 : Cond.instanceMethod yNamedForm_markMeetings ∈ xW := List.mem_filter.mpr ⟨List.mem_append_right _ (List.mem_append_right _ (List.mem_append_left _ (List.mem_of_getElem? (i := 73) rfl))), rfl⟩
theorem ks_1_6 : Cond.selects "OnceNamed$NamedForm" yNamedForm_markMeetings yNamedForm_markMeetings ∈ xW := List.mem_filter.mpr ⟨List.mem_append_left _ (List.mem_map.mpr ⟨(⟨"OnceNamed$NamedForm", "markMeetings", "(I)V"⟩, 14), List.mem_append_left _ (List.mem_of_getElem? (i := 6) rfl), rfl⟩), rfl⟩
theorem kw_6 : Cond.initialized "OnceNamed$NamedForm" ∈ xW := List.mem_filter.mpr ⟨List.mem_append_right _ (List.mem_append_left _ (List.mem_of_getElem? (i := 6) rfl)), rfl⟩
theorem kw_400 : Cond.code yNamedForm_useOfMeeting cNamedForm_useOfMeeting 4 (some .int) ∈ xW := List.mem_filter.mpr ⟨List.mem_append_right _ (List.mem_append_right _ (List.mem_append_left _ (List.mem_of_getElem? (i := 160) rfl))), rfl⟩
theorem kw_129 : Cond.fieldLink "OnceNamed$NamedForm" 48 "OnceNamed$NamedForm" "lastNames" "[I" ∈ xW := List.mem_filter.mpr ⟨List.mem_append_right _ (List.mem_append_left _ (List.mem_of_getElem? (i := 129) rfl)), rfl⟩
theorem kw_372 : Cond.code yNamedForm_lastName cNamedForm_lastName 3 (some .int) ∈ xW := List.mem_filter.mpr ⟨List.mem_append_right _ (List.mem_append_right _ (List.mem_append_left _ (List.mem_of_getElem? (i := 132) rfl))), rfl⟩
theorem kw_392 : Cond.code yNamedForm_findUsesOfMeeting cNamedForm_findUsesOfMeeting 4 none ∈ xW := List.mem_filter.mpr ⟨List.mem_append_right _ (List.mem_append_right _ (List.mem_append_left _ (List.mem_of_getElem? (i := 152) rfl))), rfl⟩
theorem kw_393 : Cond.methodLink "OnceNamed$NamedForm" 140 yGraph_leadsTo ∈ xW := List.mem_filter.mpr ⟨List.mem_append_right _ (List.mem_append_right _ (List.mem_append_left _ (List.mem_of_getElem? (i := 153) rfl))), rfl⟩
theorem kw_394 : Cond.instanceMethod yGraph_leadsTo ∈ xW := List.mem_filter.mpr ⟨List.mem_append_right _ (List.mem_append_right _ (List.mem_append_left _ (List.mem_of_getElem? (i := 154) rfl))), rfl⟩
theorem kw_395 : Cond.selects "OnceNamed$Graph" yGraph_leadsTo yGraph_leadsTo ∈ xW := List.mem_filter.mpr ⟨List.mem_append_right _ (List.mem_append_right _ (List.mem_append_left _ (List.mem_of_getElem? (i := 155) rfl))), rfl⟩
theorem kw_397 : Cond.methodLink "OnceNamed$NamedForm" 143 yNamedForm_useOfMeeting ∈ xW := List.mem_filter.mpr ⟨List.mem_append_right _ (List.mem_append_right _ (List.mem_append_left _ (List.mem_of_getElem? (i := 157) rfl))), rfl⟩
theorem kw_399 : Cond.instanceMethod yNamedForm_useOfMeeting ∈ xW := List.mem_filter.mpr ⟨List.mem_append_right _ (List.mem_append_right _ (List.mem_append_left _ (List.mem_of_getElem? (i := 159) rfl))), rfl⟩
theorem ks_1_13 : Cond.selects "OnceNamed$NamedForm" yNamedForm_useOfMeeting yNamedForm_useOfMeeting ∈ xW := List.mem_filter.mpr ⟨List.mem_append_left _ (List.mem_map.mpr ⟨(⟨"OnceNamed$NamedForm", "useOfMeeting", "(III)I"⟩, 14), List.mem_append_left _ (List.mem_of_getElem? (i := 13) rfl), rfl⟩), rfl⟩
theorem kw_369 : Cond.methodLink "OnceNamed$NamedForm" 124 yNamedForm_lastName ∈ xW := List.mem_filter.mpr ⟨List.mem_append_right _ (List.mem_append_right _ (List.mem_append_left _ (List.mem_of_getElem? (i := 129) rfl))), rfl⟩
theorem kw_371 : Cond.instanceMethod yNamedForm_lastName ∈ xW := List.mem_filter.mpr ⟨List.mem_append_right _ (List.mem_append_right _ (List.mem_append_left _ (List.mem_of_getElem? (i := 131) rfl))), rfl⟩
theorem ks_1_10 : Cond.selects "OnceNamed$NamedForm" yNamedForm_lastName yNamedForm_lastName ∈ xW := List.mem_filter.mpr ⟨List.mem_append_left _ (List.mem_map.mpr ⟨(⟨"OnceNamed$NamedForm", "lastName", "(II)I"⟩, 14), List.mem_append_left _ (List.mem_of_getElem? (i := 10) rfl), rfl⟩), rfl⟩
theorem kw_388 : Cond.code yNamedForm_findMeetingUses cNamedForm_findMeetingUses 3 none ∈ xW := List.mem_filter.mpr ⟨List.mem_append_right _ (List.mem_append_right _ (List.mem_append_left _ (List.mem_of_getElem? (i := 148) rfl))), rfl⟩
theorem kw_389 : Cond.methodLink "OnceNamed$NamedForm" 137 yNamedForm_findUsesOfMeeting ∈ xW := List.mem_filter.mpr ⟨List.mem_append_right _ (List.mem_append_right _ (List.mem_append_left _ (List.mem_of_getElem? (i := 149) rfl))), rfl⟩
theorem kw_391 : Cond.instanceMethod yNamedForm_findUsesOfMeeting ∈ xW := List.mem_filter.mpr ⟨List.mem_append_right _ (List.mem_append_right _ (List.mem_append_left _ (List.mem_of_getElem? (i := 151) rfl))), rfl⟩
theorem ks_1_12 : Cond.selects "OnceNamed$NamedForm" yNamedForm_findUsesOfMeeting yNamedForm_findUsesOfMeeting ∈ xW := List.mem_filter.mpr ⟨List.mem_append_left _ (List.mem_map.mpr ⟨(⟨"OnceNamed$NamedForm", "findUsesOfMeeting", "(II)V"⟩, 14), List.mem_append_left _ (List.mem_of_getElem? (i := 12) rfl), rfl⟩), rfl⟩
theorem kw_132 : Cond.fieldLink "OnceNamed$NamedForm" 57 "OnceNamed$NamedForm" "homePlace" "[I" ∈ xW := List.mem_filter.mpr ⟨List.mem_append_right _ (List.mem_append_left _ (List.mem_of_getElem? (i := 132) rfl)), rfl⟩
theorem kw_342 : Cond.code yNamedForm_newName cNamedForm_newName 5 (some .int) ∈ xW := List.mem_filter.mpr ⟨List.mem_append_right _ (List.mem_append_right _ (List.mem_append_left _ (List.mem_of_getElem? (i := 102) rfl))), rfl⟩
theorem kw_361 : Cond.code yNamedForm_nameStep cNamedForm_nameStep 5 none ∈ xW := List.mem_filter.mpr ⟨List.mem_append_right _ (List.mem_append_right _ (List.mem_append_left _ (List.mem_of_getElem? (i := 121) rfl))), rfl⟩
theorem kw_362 : Cond.methodLink "OnceNamed$NamedForm" 128 yProgram_firstVariable ∈ xW := List.mem_filter.mpr ⟨List.mem_append_right _ (List.mem_append_right _ (List.mem_append_left _ (List.mem_of_getElem? (i := 122) rfl))), rfl⟩
theorem kw_363 : Cond.instanceMethod yProgram_firstVariable ∈ xW := List.mem_filter.mpr ⟨List.mem_append_right _ (List.mem_append_right _ (List.mem_append_left _ (List.mem_of_getElem? (i := 123) rfl))), rfl⟩
theorem kw_364 : Cond.selects "OnceNamed$Program" yProgram_firstVariable yProgram_firstVariable ∈ xW := List.mem_filter.mpr ⟨List.mem_append_right _ (List.mem_append_right _ (List.mem_append_left _ (List.mem_of_getElem? (i := 124) rfl))), rfl⟩
theorem kw_373 : Cond.methodLink "OnceNamed$NamedForm" 131 yProgram_secondVariable ∈ xW := List.mem_filter.mpr ⟨List.mem_append_right _ (List.mem_append_right _ (List.mem_append_left _ (List.mem_of_getElem? (i := 133) rfl))), rfl⟩
theorem kw_374 : Cond.instanceMethod yProgram_secondVariable ∈ xW := List.mem_filter.mpr ⟨List.mem_append_right _ (List.mem_append_right _ (List.mem_append_left _ (List.mem_of_getElem? (i := 134) rfl))), rfl⟩
theorem kw_375 : Cond.selects "OnceNamed$Program" yProgram_secondVariable yProgram_secondVariable ∈ xW := List.mem_filter.mpr ⟨List.mem_append_right _ (List.mem_append_right _ (List.mem_append_left _ (List.mem_of_getElem? (i := 135) rfl))), rfl⟩
theorem kw_380 : Cond.methodLink "OnceNamed$NamedForm" 134 yProgram_variableSet ∈ xW := List.mem_filter.mpr ⟨List.mem_append_right _ (List.mem_append_right _ (List.mem_append_left _ (List.mem_of_getElem? (i := 140) rfl))), rfl⟩
theorem kw_339 : Cond.methodLink "OnceNamed$NamedForm" 66 yNamedForm_newName ∈ xW := List.mem_filter.mpr ⟨List.mem_append_right _ (List.mem_append_right _ (List.mem_append_left _ (List.mem_of_getElem? (i := 99) rfl))), rfl⟩
theorem kw_341 : Cond.instanceMethod yNamedForm_newName ∈ xW := List.mem_filter.mpr ⟨List.mem_append_right _ (List.mem_append_right _ (List.mem_append_left _ (List.mem_of_getElem? (i := 101) rfl))), rfl⟩
theorem ks_1_7 : Cond.selects "OnceNamed$NamedForm" yNamedForm_newName yNamedForm_newName ∈ xW := List.mem_filter.mpr ⟨List.mem_append_left _ (List.mem_map.mpr ⟨(⟨"OnceNamed$NamedForm", "newName", "(III)I"⟩, 14), List.mem_append_left _ (List.mem_of_getElem? (i := 7) rfl), rfl⟩), rfl⟩
theorem kw_351 : Cond.methodLink "OnceNamed$NamedForm" 108 arraycopyName ∈ xW := List.mem_filter.mpr ⟨List.mem_append_right _ (List.mem_append_right _ (List.mem_append_left _ (List.mem_of_getElem? (i := 111) rfl))), rfl⟩
theorem kw_353 : Cond.native arraycopyName ∈ xW := List.mem_filter.mpr ⟨List.mem_append_right _ (List.mem_append_right _ (List.mem_append_left _ (List.mem_of_getElem? (i := 113) rfl))), rfl⟩
theorem kw_352 : Cond.static arraycopyName ∈ xW := List.mem_filter.mpr ⟨List.mem_append_right _ (List.mem_append_right _ (List.mem_append_left _ (List.mem_of_getElem? (i := 112) rfl))), rfl⟩
theorem kw_17 : Cond.initialized "java/lang/System" ∈ xW := List.mem_filter.mpr ⟨List.mem_append_right _ (List.mem_append_left _ (List.mem_of_getElem? (i := 17) rfl)), rfl⟩
theorem kw_346 : Cond.code yNamedForm_nameBlock cNamedForm_nameBlock 4 none ∈ xW := List.mem_filter.mpr ⟨List.mem_append_right _ (List.mem_append_right _ (List.mem_append_left _ (List.mem_of_getElem? (i := 106) rfl))), rfl⟩
theorem kw_347 : Cond.methodLink "OnceNamed$NamedForm" 105 yGraph_parentOf ∈ xW := List.mem_filter.mpr ⟨List.mem_append_right _ (List.mem_append_right _ (List.mem_append_left _ (List.mem_of_getElem? (i := 107) rfl))), rfl⟩
theorem kw_348 : Cond.instanceMethod yGraph_parentOf ∈ xW := List.mem_filter.mpr ⟨List.mem_append_right _ (List.mem_append_right _ (List.mem_append_left _ (List.mem_of_getElem? (i := 108) rfl))), rfl⟩
theorem kw_349 : Cond.selects "OnceNamed$Graph" yGraph_parentOf yGraph_parentOf ∈ xW := List.mem_filter.mpr ⟨List.mem_append_right _ (List.mem_append_right _ (List.mem_append_left _ (List.mem_of_getElem? (i := 109) rfl))), rfl⟩
theorem kw_354 : Cond.methodLink "OnceNamed$NamedForm" 114 yProgram_stepsOf ∈ xW := List.mem_filter.mpr ⟨List.mem_append_right _ (List.mem_append_right _ (List.mem_append_left _ (List.mem_of_getElem? (i := 114) rfl))), rfl⟩
theorem kw_355 : Cond.instanceMethod yProgram_stepsOf ∈ xW := List.mem_filter.mpr ⟨List.mem_append_right _ (List.mem_append_right _ (List.mem_append_left _ (List.mem_of_getElem? (i := 115) rfl))), rfl⟩
theorem kw_356 : Cond.selects "OnceNamed$Program" yProgram_stepsOf yProgram_stepsOf ∈ xW := List.mem_filter.mpr ⟨List.mem_append_right _ (List.mem_append_right _ (List.mem_append_left _ (List.mem_of_getElem? (i := 116) rfl))), rfl⟩
theorem kw_358 : Cond.methodLink "OnceNamed$NamedForm" 117 yNamedForm_nameStep ∈ xW := List.mem_filter.mpr ⟨List.mem_append_right _ (List.mem_append_right _ (List.mem_append_left _ (List.mem_of_getElem? (i := 118) rfl))), rfl⟩
theorem kw_360 : Cond.instanceMethod yNamedForm_nameStep ∈ xW := List.mem_filter.mpr ⟨List.mem_append_right _ (List.mem_append_right _ (List.mem_append_left _ (List.mem_of_getElem? (i := 120) rfl))), rfl⟩
theorem ks_1_9 : Cond.selects "OnceNamed$NamedForm" yNamedForm_nameStep yNamedForm_nameStep ∈ xW := List.mem_filter.mpr ⟨List.mem_append_left _ (List.mem_map.mpr ⟨(⟨"OnceNamed$NamedForm", "nameStep", "(II)V"⟩, 14), List.mem_append_left _ (List.mem_of_getElem? (i := 9) rfl), rfl⟩), rfl⟩
theorem kw_381 : Cond.methodLink "OnceNamed$NamedForm" 121 yProgram_variableOfFork ∈ xW := List.mem_filter.mpr ⟨List.mem_append_right _ (List.mem_append_right _ (List.mem_append_left _ (List.mem_of_getElem? (i := 141) rfl))), rfl⟩
theorem kw_382 : Cond.instanceMethod yProgram_variableOfFork ∈ xW := List.mem_filter.mpr ⟨List.mem_append_right _ (List.mem_append_right _ (List.mem_append_left _ (List.mem_of_getElem? (i := 142) rfl))), rfl⟩
theorem kw_383 : Cond.selects "OnceNamed$Program" yProgram_variableOfFork yProgram_variableOfFork ∈ xW := List.mem_filter.mpr ⟨List.mem_append_right _ (List.mem_append_right _ (List.mem_append_left _ (List.mem_of_getElem? (i := 143) rfl))), rfl⟩
theorem kw_305 : Cond.code yNamedForm_assemble cNamedForm_assemble 3 (some .int) ∈ xW := List.mem_filter.mpr ⟨List.mem_append_right _ (List.mem_append_right _ (List.mem_append_left _ (List.mem_of_getElem? (i := 65) rfl))), rfl⟩
theorem kw_306 : Cond.methodLink "OnceNamed$NamedForm" 63 yNamedForm_forgetAll ∈ xW := List.mem_filter.mpr ⟨List.mem_append_right _ (List.mem_append_right _ (List.mem_append_left _ (List.mem_of_getElem? (i := 66) rfl))), rfl⟩
theorem kw_308 : Cond.instanceMethod yNamedForm_forgetAll ∈ xW := List.mem_filter.mpr ⟨List.mem_append_right _ (List.mem_append_right _ (List.mem_append_left _ (List.mem_of_getElem? (i := 68) rfl))), rfl⟩
theorem ks_1_5 : Cond.selects "OnceNamed$NamedForm" yNamedForm_forgetAll yNamedForm_forgetAll ∈ xW := List.mem_filter.mpr ⟨List.mem_append_left _ (List.mem_map.mpr ⟨(⟨"OnceNamed$NamedForm", "forgetAll", "()V"⟩, 14), List.mem_append_left _ (List.mem_of_getElem? (i := 5) rfl), rfl⟩), rfl⟩
theorem kw_343 : Cond.methodLink "OnceNamed$NamedForm" 79 yNamedForm_nameBlock ∈ xW := List.mem_filter.mpr ⟨List.mem_append_right _ (List.mem_append_right _ (List.mem_append_left _ (List.mem_of_getElem? (i := 103) rfl))), rfl⟩
theorem kw_345 : Cond.instanceMethod yNamedForm_nameBlock ∈ xW := List.mem_filter.mpr ⟨List.mem_append_right _ (List.mem_append_right _ (List.mem_append_left _ (List.mem_of_getElem? (i := 105) rfl))), rfl⟩
theorem ks_1_8 : Cond.selects "OnceNamed$NamedForm" yNamedForm_nameBlock yNamedForm_nameBlock ∈ xW := List.mem_filter.mpr ⟨List.mem_append_left _ (List.mem_map.mpr ⟨(⟨"OnceNamed$NamedForm", "nameBlock", "(I)V"⟩, 14), List.mem_append_left _ (List.mem_of_getElem? (i := 8) rfl), rfl⟩), rfl⟩
theorem kw_385 : Cond.methodLink "OnceNamed$NamedForm" 83 yNamedForm_findMeetingUses ∈ xW := List.mem_filter.mpr ⟨List.mem_append_right _ (List.mem_append_right _ (List.mem_append_left _ (List.mem_of_getElem? (i := 145) rfl))), rfl⟩
theorem kw_387 : Cond.instanceMethod yNamedForm_findMeetingUses ∈ xW := List.mem_filter.mpr ⟨List.mem_append_right _ (List.mem_append_right _ (List.mem_append_left _ (List.mem_of_getElem? (i := 147) rfl))), rfl⟩
theorem ks_1_11 : Cond.selects "OnceNamed$NamedForm" yNamedForm_findMeetingUses yNamedForm_findMeetingUses ∈ xW := List.mem_filter.mpr ⟨List.mem_append_left _ (List.mem_map.mpr ⟨(⟨"OnceNamed$NamedForm", "findMeetingUses", "()V"⟩, 14), List.mem_append_left _ (List.mem_of_getElem? (i := 11) rfl), rfl⟩), rfl⟩
theorem kw_599 : Cond.code yNamedForm_isUseSound cNamedForm_isUseSound 5 (some .boolean) ∈ xW := List.mem_filter.mpr ⟨List.mem_append_right _ (List.mem_append_right _ (List.mem_append_right _ (List.mem_append_left _ (List.mem_of_getElem? (i := 119) rfl)))), rfl⟩
theorem kw_600 : Cond.methodLink "OnceNamed$NamedForm" 157 yGraph_hasBelow ∈ xW := List.mem_filter.mpr ⟨List.mem_append_right _ (List.mem_append_right _ (List.mem_append_right _ (List.mem_append_left _ (List.mem_of_getElem? (i := 120) rfl)))), rfl⟩
theorem kw_601 : Cond.instanceMethod yGraph_hasBelow ∈ xW := List.mem_filter.mpr ⟨List.mem_append_right _ (List.mem_append_right _ (List.mem_append_right _ (List.mem_append_left _ (List.mem_of_getElem? (i := 121) rfl)))), rfl⟩
theorem kw_602 : Cond.selects "OnceNamed$Graph" yGraph_hasBelow yGraph_hasBelow ∈ xW := List.mem_filter.mpr ⟨List.mem_append_right _ (List.mem_append_right _ (List.mem_append_right _ (List.mem_append_left _ (List.mem_of_getElem? (i := 122) rfl)))), rfl⟩
theorem kw_595 : Cond.code yNamedForm_isBlockSound cNamedForm_isBlockSound 4 (some .boolean) ∈ xW := List.mem_filter.mpr ⟨List.mem_append_right _ (List.mem_append_right _ (List.mem_append_right _ (List.mem_append_left _ (List.mem_of_getElem? (i := 115) rfl)))), rfl⟩
theorem kw_596 : Cond.methodLink "OnceNamed$NamedForm" 153 yNamedForm_isUseSound ∈ xW := List.mem_filter.mpr ⟨List.mem_append_right _ (List.mem_append_right _ (List.mem_append_right _ (List.mem_append_left _ (List.mem_of_getElem? (i := 116) rfl)))), rfl⟩
theorem kw_598 : Cond.instanceMethod yNamedForm_isUseSound ∈ xW := List.mem_filter.mpr ⟨List.mem_append_right _ (List.mem_append_right _ (List.mem_append_right _ (List.mem_append_left _ (List.mem_of_getElem? (i := 118) rfl)))), rfl⟩
theorem ks_2_3 : Cond.selects "OnceNamed$NamedForm" yNamedForm_isUseSound yNamedForm_isUseSound ∈ xW := List.mem_filter.mpr ⟨List.mem_append_left _ (List.mem_map.mpr ⟨(⟨"OnceNamed$NamedForm", "isUseSound", "(III)Z"⟩, 14), List.mem_append_right _ (List.mem_append_left _ (List.mem_of_getElem? (i := 3) rfl)), rfl⟩), rfl⟩
theorem kw_607 : Cond.code yNamedForm_areMeetingsSound cNamedForm_areMeetingsSound 4 (some .boolean) ∈ xW := List.mem_filter.mpr ⟨List.mem_append_right _ (List.mem_append_right _ (List.mem_append_right _ (List.mem_append_left _ (List.mem_of_getElem? (i := 127) rfl)))), rfl⟩
theorem kw_591 : Cond.code yNamedForm_isSound cNamedForm_isSound 3 (some .boolean) ∈ xW := List.mem_filter.mpr ⟨List.mem_append_right _ (List.mem_append_right _ (List.mem_append_right _ (List.mem_append_left _ (List.mem_of_getElem? (i := 111) rfl)))), rfl⟩
theorem kw_592 : Cond.methodLink "OnceNamed$NamedForm" 146 yNamedForm_isBlockSound ∈ xW := List.mem_filter.mpr ⟨List.mem_append_right _ (List.mem_append_right _ (List.mem_append_right _ (List.mem_append_left _ (List.mem_of_getElem? (i := 112) rfl)))), rfl⟩
theorem kw_594 : Cond.instanceMethod yNamedForm_isBlockSound ∈ xW := List.mem_filter.mpr ⟨List.mem_append_right _ (List.mem_append_right _ (List.mem_append_right _ (List.mem_append_left _ (List.mem_of_getElem? (i := 114) rfl)))), rfl⟩
theorem ks_2_2 : Cond.selects "OnceNamed$NamedForm" yNamedForm_isBlockSound yNamedForm_isBlockSound ∈ xW := List.mem_filter.mpr ⟨List.mem_append_left _ (List.mem_map.mpr ⟨(⟨"OnceNamed$NamedForm", "isBlockSound", "(I)Z"⟩, 14), List.mem_append_right _ (List.mem_append_left _ (List.mem_of_getElem? (i := 2) rfl)), rfl⟩), rfl⟩
theorem kw_604 : Cond.methodLink "OnceNamed$NamedForm" 150 yNamedForm_areMeetingsSound ∈ xW := List.mem_filter.mpr ⟨List.mem_append_right _ (List.mem_append_right _ (List.mem_append_right _ (List.mem_append_left _ (List.mem_of_getElem? (i := 124) rfl)))), rfl⟩
theorem kw_606 : Cond.instanceMethod yNamedForm_areMeetingsSound ∈ xW := List.mem_filter.mpr ⟨List.mem_append_right _ (List.mem_append_right _ (List.mem_append_right _ (List.mem_append_left _ (List.mem_of_getElem? (i := 126) rfl)))), rfl⟩
theorem ks_2_4 : Cond.selects "OnceNamed$NamedForm" yNamedForm_areMeetingsSound yNamedForm_areMeetingsSound ∈ xW := List.mem_filter.mpr ⟨List.mem_append_left _ (List.mem_map.mpr ⟨(⟨"OnceNamed$NamedForm", "areMeetingsSound", "(I)Z"⟩, 14), List.mem_append_right _ (List.mem_append_left _ (List.mem_of_getElem? (i := 4) rfl)), rfl⟩), rfl⟩
theorem kw_133 : Cond.fieldLink "OnceNamed$NamedForm" 60 "OnceNamed$NamedForm" "standsFor" "[I" ∈ xW := List.mem_filter.mpr ⟨List.mem_append_right _ (List.mem_append_left _ (List.mem_of_getElem? (i := 133) rfl)), rfl⟩
theorem kw_624 : Cond.code yNamedForm_replaceAll cNamedForm_replaceAll 3 none ∈ xW := List.mem_filter.mpr ⟨List.mem_append_right _ (List.mem_append_right _ (List.mem_append_right _ (List.mem_append_left _ (List.mem_of_getElem? (i := 144) rfl)))), rfl⟩
theorem kw_616 : Cond.code yNamedForm_dropCopiesOf cNamedForm_dropCopiesOf 5 (some .int) ∈ xW := List.mem_filter.mpr ⟨List.mem_append_right _ (List.mem_append_right _ (List.mem_append_right _ (List.mem_append_left _ (List.mem_of_getElem? (i := 136) rfl)))), rfl⟩
theorem kw_617 : Cond.methodLink "OnceNamed$NamedForm" 167 yProgram_kindOf ∈ xW := List.mem_filter.mpr ⟨List.mem_append_right _ (List.mem_append_right _ (List.mem_append_right _ (List.mem_append_left _ (List.mem_of_getElem? (i := 137) rfl)))), rfl⟩
theorem kw_618 : Cond.instanceMethod yProgram_kindOf ∈ xW := List.mem_filter.mpr ⟨List.mem_append_right _ (List.mem_append_right _ (List.mem_append_right _ (List.mem_append_left _ (List.mem_of_getElem? (i := 138) rfl)))), rfl⟩
theorem kw_619 : Cond.selects "OnceNamed$Program" yProgram_kindOf yProgram_kindOf ∈ xW := List.mem_filter.mpr ⟨List.mem_append_right _ (List.mem_append_right _ (List.mem_append_right _ (List.mem_append_left _ (List.mem_of_getElem? (i := 139) rfl)))), rfl⟩
theorem kw_612 : Cond.code yNamedForm_dropCopies cNamedForm_dropCopies 3 (some .int) ∈ xW := List.mem_filter.mpr ⟨List.mem_append_right _ (List.mem_append_right _ (List.mem_append_right _ (List.mem_append_left _ (List.mem_of_getElem? (i := 132) rfl)))), rfl⟩
theorem kw_613 : Cond.methodLink "OnceNamed$NamedForm" 160 yNamedForm_dropCopiesOf ∈ xW := List.mem_filter.mpr ⟨List.mem_append_right _ (List.mem_append_right _ (List.mem_append_right _ (List.mem_append_left _ (List.mem_of_getElem? (i := 133) rfl)))), rfl⟩
theorem kw_615 : Cond.instanceMethod yNamedForm_dropCopiesOf ∈ xW := List.mem_filter.mpr ⟨List.mem_append_right _ (List.mem_append_right _ (List.mem_append_right _ (List.mem_append_left _ (List.mem_of_getElem? (i := 135) rfl)))), rfl⟩
theorem ks_2_5 : Cond.selects "OnceNamed$NamedForm" yNamedForm_dropCopiesOf yNamedForm_dropCopiesOf ∈ xW := List.mem_filter.mpr ⟨List.mem_append_left _ (List.mem_map.mpr ⟨(⟨"OnceNamed$NamedForm", "dropCopiesOf", "(I)I"⟩, 14), List.mem_append_right _ (List.mem_append_left _ (List.mem_of_getElem? (i := 5) rfl)), rfl⟩), rfl⟩
theorem kw_621 : Cond.methodLink "OnceNamed$NamedForm" 163 yNamedForm_replaceAll ∈ xW := List.mem_filter.mpr ⟨List.mem_append_right _ (List.mem_append_right _ (List.mem_append_right _ (List.mem_append_left _ (List.mem_of_getElem? (i := 141) rfl)))), rfl⟩
theorem kw_623 : Cond.instanceMethod yNamedForm_replaceAll ∈ xW := List.mem_filter.mpr ⟨List.mem_append_right _ (List.mem_append_right _ (List.mem_append_right _ (List.mem_append_left _ (List.mem_of_getElem? (i := 143) rfl)))), rfl⟩
theorem ks_2_6 : Cond.selects "OnceNamed$NamedForm" yNamedForm_replaceAll yNamedForm_replaceAll ∈ xW := List.mem_filter.mpr ⟨List.mem_append_left _ (List.mem_map.mpr ⟨(⟨"OnceNamed$NamedForm", "replaceAll", "([I)V"⟩, 14), List.mem_append_right _ (List.mem_append_left _ (List.mem_of_getElem? (i := 6) rfl)), rfl⟩), rfl⟩
theorem kw_742 : Cond.code yNamedForm_hasName cNamedForm_hasName 2 (some .boolean) ∈ xW := List.mem_filter.mpr ⟨List.mem_append_right _ (List.mem_append_right _ (List.mem_append_right _ (List.mem_append_right _ (List.mem_append_left _ (List.mem_of_getElem? (i := 22) rfl))))), rfl⟩
theorem kw_840 : Cond.code yNamedForm_entryName cNamedForm_entryName 2 (some .int) ∈ xW := List.mem_filter.mpr ⟨List.mem_append_right _ (List.mem_append_right _ (List.mem_append_right _ (List.mem_append_right _ (List.mem_append_left _ (List.mem_of_getElem? (i := 120) rfl))))), rfl⟩
theorem kw_663 : Cond.code yNamedForm_meetingName cNamedForm_meetingName 3 (some .int) ∈ xW := List.mem_filter.mpr ⟨List.mem_append_right _ (List.mem_append_right _ (List.mem_append_right _ (List.mem_append_left _ (List.mem_of_getElem? (i := 183) rfl)))), rfl⟩
theorem kw_683 : Cond.code yNamedForm_meetingUse cNamedForm_meetingUse 4 (some .int) ∈ xW := List.mem_filter.mpr ⟨List.mem_append_right _ (List.mem_append_right _ (List.mem_append_right _ (List.mem_append_left _ (List.mem_of_getElem? (i := 203) rfl)))), rfl⟩
theorem kw_699 : Cond.code yNamedForm_nameSet cNamedForm_nameSet 3 (some .int) ∈ xW := List.mem_filter.mpr ⟨List.mem_append_right _ (List.mem_append_right _ (List.mem_append_right _ (List.mem_append_left _ (List.mem_of_getElem? (i := 219) rfl)))), rfl⟩
theorem kw_723 : Cond.code yNamedForm_stepUse cNamedForm_stepUse 5 (some .int) ∈ xW := List.mem_filter.mpr ⟨List.mem_append_right _ (List.mem_append_right _ (List.mem_append_right _ (List.mem_append_right _ (List.mem_append_left _ (List.mem_of_getElem? (i := 3) rfl))))), rfl⟩
theorem kw_719 : Cond.code yNamedForm_endUse cNamedForm_endUse 2 (some .int) ∈ xW := List.mem_filter.mpr ⟨List.mem_append_right _ (List.mem_append_right _ (List.mem_append_right _ (List.mem_append_left _ (List.mem_of_getElem? (i := 239) rfl)))), rfl⟩
theorem kw_747 : Cond.code yNamedForm_changeEndUse cNamedForm_changeEndUse 3 none ∈ xW := List.mem_filter.mpr ⟨List.mem_append_right _ (List.mem_append_right _ (List.mem_append_right _ (List.mem_append_right _ (List.mem_append_left _ (List.mem_of_getElem? (i := 27) rfl))))), rfl⟩
theorem kw_751 : Cond.code yNamedForm_changeStepUse cNamedForm_changeStepUse 6 none ∈ xW := List.mem_filter.mpr ⟨List.mem_append_right _ (List.mem_append_right _ (List.mem_append_right _ (List.mem_append_right _ (List.mem_append_left _ (List.mem_of_getElem? (i := 31) rfl))))), rfl⟩
theorem kw_762 : Cond.code yNamedForm_changeMeetingUse cNamedForm_changeMeetingUse 5 none ∈ xW := List.mem_filter.mpr ⟨List.mem_append_right _ (List.mem_append_right _ (List.mem_append_right _ (List.mem_append_right _ (List.mem_append_left _ (List.mem_of_getElem? (i := 42) rfl))))), rfl⟩
theorem kw_173 : Cond.fieldLink "OnceNamed$CopyPlan" 34 "OnceNamed$CopyPlan" "pending" "I" ∈ xW := List.mem_filter.mpr ⟨List.mem_append_right _ (List.mem_append_left _ (List.mem_of_getElem? (i := 173) rfl)), rfl⟩
theorem kw_169 : Cond.fieldLink "OnceNamed$CopyPlan" 11 "OnceNamed$CopyPlan" "pendingTo" "[I" ∈ xW := List.mem_filter.mpr ⟨List.mem_append_right _ (List.mem_append_left _ (List.mem_of_getElem? (i := 169) rfl)), rfl⟩
theorem kw_170 : Cond.fieldLink "OnceNamed$CopyPlan" 17 "OnceNamed$CopyPlan" "pendingFrom" "[I" ∈ xW := List.mem_filter.mpr ⟨List.mem_append_right _ (List.mem_append_left _ (List.mem_of_getElem? (i := 170) rfl)), rfl⟩
theorem kw_784 : Cond.code yCopyPlan_collect cCopyPlan_collect 7 none ∈ xW := List.mem_filter.mpr ⟨List.mem_append_right _ (List.mem_append_right _ (List.mem_append_right _ (List.mem_append_right _ (List.mem_append_left _ (List.mem_of_getElem? (i := 64) rfl))))), rfl⟩
theorem kw_785 : Cond.methodLink "OnceNamed$CopyPlan" 52 yNamedForm_meetingUse ∈ xW := List.mem_filter.mpr ⟨List.mem_append_right _ (List.mem_append_right _ (List.mem_append_right _ (List.mem_append_right _ (List.mem_append_left _ (List.mem_of_getElem? (i := 65) rfl))))), rfl⟩
theorem kw_681 : Cond.instanceMethod yNamedForm_meetingUse ∈ xW := List.mem_filter.mpr ⟨List.mem_append_right _ (List.mem_append_right _ (List.mem_append_right _ (List.mem_append_left _ (List.mem_of_getElem? (i := 201) rfl)))), rfl⟩
theorem kw_682 : Cond.selects "OnceNamed$NamedForm" yNamedForm_meetingUse yNamedForm_meetingUse ∈ xW := List.mem_filter.mpr ⟨List.mem_append_right _ (List.mem_append_right _ (List.mem_append_right _ (List.mem_append_left _ (List.mem_of_getElem? (i := 202) rfl)))), rfl⟩
theorem kw_786 : Cond.methodLink "OnceNamed$CopyPlan" 56 yNamedForm_meetingName ∈ xW := List.mem_filter.mpr ⟨List.mem_append_right _ (List.mem_append_right _ (List.mem_append_right _ (List.mem_append_right _ (List.mem_append_left _ (List.mem_of_getElem? (i := 66) rfl))))), rfl⟩
theorem kw_661 : Cond.instanceMethod yNamedForm_meetingName ∈ xW := List.mem_filter.mpr ⟨List.mem_append_right _ (List.mem_append_right _ (List.mem_append_right _ (List.mem_append_left _ (List.mem_of_getElem? (i := 181) rfl)))), rfl⟩
theorem kw_662 : Cond.selects "OnceNamed$NamedForm" yNamedForm_meetingName yNamedForm_meetingName ∈ xW := List.mem_filter.mpr ⟨List.mem_append_right _ (List.mem_append_right _ (List.mem_append_right _ (List.mem_append_left _ (List.mem_of_getElem? (i := 182) rfl)))), rfl⟩
theorem kw_794 : Cond.code yCopyPlan_isAwaited cCopyPlan_isAwaited 3 (some .boolean) ∈ xW := List.mem_filter.mpr ⟨List.mem_append_right _ (List.mem_append_right _ (List.mem_append_right _ (List.mem_append_right _ (List.mem_append_left _ (List.mem_of_getElem? (i := 74) rfl))))), rfl⟩
theorem kw_790 : Cond.code yCopyPlan_freeMove cCopyPlan_freeMove 2 (some .int) ∈ xW := List.mem_filter.mpr ⟨List.mem_append_right _ (List.mem_append_right _ (List.mem_append_right _ (List.mem_append_right _ (List.mem_append_left _ (List.mem_of_getElem? (i := 70) rfl))))), rfl⟩
theorem kw_791 : Cond.methodLink "OnceNamed$CopyPlan" 60 yCopyPlan_isAwaited ∈ xW := List.mem_filter.mpr ⟨List.mem_append_right _ (List.mem_append_right _ (List.mem_append_right _ (List.mem_append_right _ (List.mem_append_left _ (List.mem_of_getElem? (i := 71) rfl))))), rfl⟩
theorem kw_793 : Cond.instanceMethod yCopyPlan_isAwaited ∈ xW := List.mem_filter.mpr ⟨List.mem_append_right _ (List.mem_append_right _ (List.mem_append_right _ (List.mem_append_right _ (List.mem_append_left _ (List.mem_of_getElem? (i := 73) rfl))))), rfl⟩
theorem ks_2_15 : Cond.selects "OnceNamed$CopyPlan" yCopyPlan_isAwaited yCopyPlan_isAwaited ∈ xW := List.mem_filter.mpr ⟨List.mem_append_left _ (List.mem_map.mpr ⟨(⟨"OnceNamed$CopyPlan", "isAwaited", "(I)Z"⟩, 6), List.mem_append_right _ (List.mem_append_left _ (List.mem_of_getElem? (i := 15) rfl)), rfl⟩), rfl⟩
theorem kw_7 : Cond.initialized "OnceNamed$CopyPlan" ∈ xW := List.mem_filter.mpr ⟨List.mem_append_right _ (List.mem_append_left _ (List.mem_of_getElem? (i := 7) rfl)), rfl⟩
theorem kw_171 : Cond.fieldLink "OnceNamed$CopyPlan" 20 "OnceNamed$CopyPlan" "copyTo" "[I" ∈ xW := List.mem_filter.mpr ⟨List.mem_append_right _ (List.mem_append_left _ (List.mem_of_getElem? (i := 171) rfl)), rfl⟩
theorem kw_174 : Cond.fieldLink "OnceNamed$CopyPlan" 30 "OnceNamed$CopyPlan" "length" "I" ∈ xW := List.mem_filter.mpr ⟨List.mem_append_right _ (List.mem_append_left _ (List.mem_of_getElem? (i := 174) rfl)), rfl⟩
theorem kw_172 : Cond.fieldLink "OnceNamed$CopyPlan" 23 "OnceNamed$CopyPlan" "copyFrom" "[I" ∈ xW := List.mem_filter.mpr ⟨List.mem_append_right _ (List.mem_append_left _ (List.mem_of_getElem? (i := 172) rfl)), rfl⟩
theorem kw_798 : Cond.code yCopyPlan_copy cCopyPlan_copy 3 none ∈ xW := List.mem_filter.mpr ⟨List.mem_append_right _ (List.mem_append_right _ (List.mem_append_right _ (List.mem_append_right _ (List.mem_append_left _ (List.mem_of_getElem? (i := 78) rfl))))), rfl⟩
theorem kw_802 : Cond.code yCopyPlan_remove cCopyPlan_remove 2 none ∈ xW := List.mem_filter.mpr ⟨List.mem_append_right _ (List.mem_append_right _ (List.mem_append_right _ (List.mem_append_right _ (List.mem_append_left _ (List.mem_of_getElem? (i := 82) rfl))))), rfl⟩
theorem kw_806 : Cond.code yCopyPlan_readFromCopy cCopyPlan_readFromCopy 2 none ∈ xW := List.mem_filter.mpr ⟨List.mem_append_right _ (List.mem_append_right _ (List.mem_append_right _ (List.mem_append_right _ (List.mem_append_left _ (List.mem_of_getElem? (i := 86) rfl))))), rfl⟩
theorem kw_780 : Cond.code yCopyPlan_draw cCopyPlan_draw 6 none ∈ xW := List.mem_filter.mpr ⟨List.mem_append_right _ (List.mem_append_right _ (List.mem_append_right _ (List.mem_append_right _ (List.mem_append_left _ (List.mem_of_getElem? (i := 60) rfl))))), rfl⟩
theorem kw_781 : Cond.methodLink "OnceNamed$CopyPlan" 26 yCopyPlan_collect ∈ xW := List.mem_filter.mpr ⟨List.mem_append_right _ (List.mem_append_right _ (List.mem_append_right _ (List.mem_append_right _ (List.mem_append_left _ (List.mem_of_getElem? (i := 61) rfl))))), rfl⟩
theorem kw_783 : Cond.instanceMethod yCopyPlan_collect ∈ xW := List.mem_filter.mpr ⟨List.mem_append_right _ (List.mem_append_right _ (List.mem_append_right _ (List.mem_append_right _ (List.mem_append_left _ (List.mem_of_getElem? (i := 63) rfl))))), rfl⟩
theorem ks_2_13 : Cond.selects "OnceNamed$CopyPlan" yCopyPlan_collect yCopyPlan_collect ∈ xW := List.mem_filter.mpr ⟨List.mem_append_left _ (List.mem_map.mpr ⟨(⟨"OnceNamed$CopyPlan", "collect", "(LOnceNamed$NamedForm;II)V"⟩, 6), List.mem_append_right _ (List.mem_append_left _ (List.mem_of_getElem? (i := 13) rfl)), rfl⟩), rfl⟩
theorem kw_787 : Cond.methodLink "OnceNamed$CopyPlan" 37 yCopyPlan_freeMove ∈ xW := List.mem_filter.mpr ⟨List.mem_append_right _ (List.mem_append_right _ (List.mem_append_right _ (List.mem_append_right _ (List.mem_append_left _ (List.mem_of_getElem? (i := 67) rfl))))), rfl⟩
theorem kw_789 : Cond.instanceMethod yCopyPlan_freeMove ∈ xW := List.mem_filter.mpr ⟨List.mem_append_right _ (List.mem_append_right _ (List.mem_append_right _ (List.mem_append_right _ (List.mem_append_left _ (List.mem_of_getElem? (i := 69) rfl))))), rfl⟩
theorem ks_2_14 : Cond.selects "OnceNamed$CopyPlan" yCopyPlan_freeMove yCopyPlan_freeMove ∈ xW := List.mem_filter.mpr ⟨List.mem_append_left _ (List.mem_map.mpr ⟨(⟨"OnceNamed$CopyPlan", "freeMove", "()I"⟩, 6), List.mem_append_right _ (List.mem_append_left _ (List.mem_of_getElem? (i := 14) rfl)), rfl⟩), rfl⟩
theorem kw_795 : Cond.methodLink "OnceNamed$CopyPlan" 41 yCopyPlan_copy ∈ xW := List.mem_filter.mpr ⟨List.mem_append_right _ (List.mem_append_right _ (List.mem_append_right _ (List.mem_append_right _ (List.mem_append_left _ (List.mem_of_getElem? (i := 75) rfl))))), rfl⟩
theorem kw_797 : Cond.instanceMethod yCopyPlan_copy ∈ xW := List.mem_filter.mpr ⟨List.mem_append_right _ (List.mem_append_right _ (List.mem_append_right _ (List.mem_append_right _ (List.mem_append_left _ (List.mem_of_getElem? (i := 77) rfl))))), rfl⟩
theorem ks_3_0 : Cond.selects "OnceNamed$CopyPlan" yCopyPlan_copy yCopyPlan_copy ∈ xW := List.mem_filter.mpr ⟨List.mem_append_left _ (List.mem_map.mpr ⟨(⟨"OnceNamed$CopyPlan", "copy", "(II)V"⟩, 6), List.mem_append_right _ (List.mem_append_right _ (List.mem_append_left _ (List.mem_of_getElem? (i := 0) rfl))), rfl⟩), rfl⟩
theorem kw_799 : Cond.methodLink "OnceNamed$CopyPlan" 45 yCopyPlan_remove ∈ xW := List.mem_filter.mpr ⟨List.mem_append_right _ (List.mem_append_right _ (List.mem_append_right _ (List.mem_append_right _ (List.mem_append_left _ (List.mem_of_getElem? (i := 79) rfl))))), rfl⟩
theorem kw_801 : Cond.instanceMethod yCopyPlan_remove ∈ xW := List.mem_filter.mpr ⟨List.mem_append_right _ (List.mem_append_right _ (List.mem_append_right _ (List.mem_append_right _ (List.mem_append_left _ (List.mem_of_getElem? (i := 81) rfl))))), rfl⟩
theorem ks_3_1 : Cond.selects "OnceNamed$CopyPlan" yCopyPlan_remove yCopyPlan_remove ∈ xW := List.mem_filter.mpr ⟨List.mem_append_left _ (List.mem_map.mpr ⟨(⟨"OnceNamed$CopyPlan", "remove", "(I)V"⟩, 6), List.mem_append_right _ (List.mem_append_right _ (List.mem_append_left _ (List.mem_of_getElem? (i := 1) rfl))), rfl⟩), rfl⟩
theorem kw_803 : Cond.methodLink "OnceNamed$CopyPlan" 49 yCopyPlan_readFromCopy ∈ xW := List.mem_filter.mpr ⟨List.mem_append_right _ (List.mem_append_right _ (List.mem_append_right _ (List.mem_append_right _ (List.mem_append_left _ (List.mem_of_getElem? (i := 83) rfl))))), rfl⟩
theorem kw_805 : Cond.instanceMethod yCopyPlan_readFromCopy ∈ xW := List.mem_filter.mpr ⟨List.mem_append_right _ (List.mem_append_right _ (List.mem_append_right _ (List.mem_append_right _ (List.mem_append_left _ (List.mem_of_getElem? (i := 85) rfl))))), rfl⟩
theorem ks_3_2 : Cond.selects "OnceNamed$CopyPlan" yCopyPlan_readFromCopy yCopyPlan_readFromCopy ∈ xW := List.mem_filter.mpr ⟨List.mem_append_left _ (List.mem_map.mpr ⟨(⟨"OnceNamed$CopyPlan", "readFromCopy", "()V"⟩, 6), List.mem_append_right _ (List.mem_append_right _ (List.mem_append_left _ (List.mem_of_getElem? (i := 2) rfl))), rfl⟩), rfl⟩
theorem kw_810 : Cond.code yCopyPlan_length cCopyPlan_length 1 (some .int) ∈ xW := List.mem_filter.mpr ⟨List.mem_append_right _ (List.mem_append_right _ (List.mem_append_right _ (List.mem_append_right _ (List.mem_append_left _ (List.mem_of_getElem? (i := 90) rfl))))), rfl⟩
theorem kw_865 : Cond.code yCopyPlan_to cCopyPlan_to 2 (some .int) ∈ xW := List.mem_filter.mpr ⟨List.mem_append_right _ (List.mem_append_right _ (List.mem_append_right _ (List.mem_append_right _ (List.mem_append_left _ (List.mem_of_getElem? (i := 145) rfl))))), rfl⟩
theorem kw_869 : Cond.code yCopyPlan_from cCopyPlan_from 2 (some .int) ∈ xW := List.mem_filter.mpr ⟨List.mem_append_right _ (List.mem_append_right _ (List.mem_append_right _ (List.mem_append_right _ (List.mem_append_left _ (List.mem_of_getElem? (i := 149) rfl))))), rfl⟩
theorem kw_197 : Cond.fieldLink "OnceNamed$Runner" 25 "OnceNamed$Runner" "values" "[I" ∈ xW := List.mem_filter.mpr ⟨List.mem_append_right _ (List.mem_append_left _ (List.mem_of_getElem? (i := 197) rfl)), rfl⟩
theorem kw_195 : Cond.fieldLink "OnceNamed$Runner" 15 "OnceNamed$Runner" "form" "LOnceNamed$NamedForm;" ∈ xW := List.mem_filter.mpr ⟨List.mem_append_right _ (List.mem_append_left _ (List.mem_of_getElem? (i := 195) rfl)), rfl⟩
theorem kw_194 : Cond.fieldLink "OnceNamed$Runner" 9 "OnceNamed$Runner" "program" "LOnceNamed$Program;" ∈ xW := List.mem_filter.mpr ⟨List.mem_append_right _ (List.mem_append_left _ (List.mem_of_getElem? (i := 194) rfl)), rfl⟩
theorem kw_835 : Cond.code yRunner_enterProgram cRunner_enterProgram 2 none ∈ xW := List.mem_filter.mpr ⟨List.mem_append_right _ (List.mem_append_right _ (List.mem_append_right _ (List.mem_append_right _ (List.mem_append_left _ (List.mem_of_getElem? (i := 115) rfl))))), rfl⟩
theorem kw_836 : Cond.methodLink "OnceNamed$Runner" 72 yArrays_fill ∈ xW := List.mem_filter.mpr ⟨List.mem_append_right _ (List.mem_append_right _ (List.mem_append_right _ (List.mem_append_right _ (List.mem_append_left _ (List.mem_of_getElem? (i := 116) rfl))))), rfl⟩
theorem kw_837 : Cond.methodLink "OnceNamed$Runner" 78 yNamedForm_entryName ∈ xW := List.mem_filter.mpr ⟨List.mem_append_right _ (List.mem_append_right _ (List.mem_append_right _ (List.mem_append_right _ (List.mem_append_left _ (List.mem_of_getElem? (i := 117) rfl))))), rfl⟩
theorem kw_838 : Cond.instanceMethod yNamedForm_entryName ∈ xW := List.mem_filter.mpr ⟨List.mem_append_right _ (List.mem_append_right _ (List.mem_append_right _ (List.mem_append_right _ (List.mem_append_left _ (List.mem_of_getElem? (i := 118) rfl))))), rfl⟩
theorem kw_839 : Cond.selects "OnceNamed$NamedForm" yNamedForm_entryName yNamedForm_entryName ∈ xW := List.mem_filter.mpr ⟨List.mem_append_right _ (List.mem_append_right _ (List.mem_append_right _ (List.mem_append_right _ (List.mem_append_left _ (List.mem_of_getElem? (i := 119) rfl))))), rfl⟩
theorem kw_841 : Cond.methodLink "OnceNamed$Runner" 83 yProgram_startOf ∈ xW := List.mem_filter.mpr ⟨List.mem_append_right _ (List.mem_append_right _ (List.mem_append_right _ (List.mem_append_right _ (List.mem_append_left _ (List.mem_of_getElem? (i := 121) rfl))))), rfl⟩
theorem kw_842 : Cond.instanceMethod yProgram_startOf ∈ xW := List.mem_filter.mpr ⟨List.mem_append_right _ (List.mem_append_right _ (List.mem_append_right _ (List.mem_append_right _ (List.mem_append_left _ (List.mem_of_getElem? (i := 122) rfl))))), rfl⟩
theorem kw_843 : Cond.selects "OnceNamed$Program" yProgram_startOf yProgram_startOf ∈ xW := List.mem_filter.mpr ⟨List.mem_append_right _ (List.mem_append_right _ (List.mem_append_right _ (List.mem_append_right _ (List.mem_append_left _ (List.mem_of_getElem? (i := 123) rfl))))), rfl⟩
theorem kw_854 : Cond.code yRunner_valueOf cRunner_valueOf 2 (some .int) ∈ xW := List.mem_filter.mpr ⟨List.mem_append_right _ (List.mem_append_right _ (List.mem_append_right _ (List.mem_append_right _ (List.mem_append_left _ (List.mem_of_getElem? (i := 134) rfl))))), rfl⟩
theorem kw_905 : Cond.code yRunner_reckon cRunner_reckon 3 (some .int) ∈ xW := List.mem_filter.mpr ⟨List.mem_append_right _ (List.mem_append_right _ (List.mem_append_right _ (List.mem_append_right _ (List.mem_append_left _ (List.mem_of_getElem? (i := 185) rfl))))), rfl⟩
theorem kw_889 : Cond.code yRunner_doStep cRunner_doStep 10 none ∈ xW := List.mem_filter.mpr ⟨List.mem_append_right _ (List.mem_append_right _ (List.mem_append_right _ (List.mem_append_right _ (List.mem_append_left _ (List.mem_of_getElem? (i := 169) rfl))))), rfl⟩
theorem kw_890 : Cond.methodLink "OnceNamed$Runner" 135 yProgram_kindOf ∈ xW := List.mem_filter.mpr ⟨List.mem_append_right _ (List.mem_append_right _ (List.mem_append_right _ (List.mem_append_right _ (List.mem_append_left _ (List.mem_of_getElem? (i := 170) rfl))))), rfl⟩
theorem kw_851 : Cond.methodLink "OnceNamed$Runner" 90 yRunner_valueOf ∈ xW := List.mem_filter.mpr ⟨List.mem_append_right _ (List.mem_append_right _ (List.mem_append_right _ (List.mem_append_right _ (List.mem_append_left _ (List.mem_of_getElem? (i := 131) rfl))))), rfl⟩
theorem kw_853 : Cond.instanceMethod yRunner_valueOf ∈ xW := List.mem_filter.mpr ⟨List.mem_append_right _ (List.mem_append_right _ (List.mem_append_right _ (List.mem_append_right _ (List.mem_append_left _ (List.mem_of_getElem? (i := 133) rfl))))), rfl⟩
theorem ks_3_6 : Cond.selects "OnceNamed$Runner" yRunner_valueOf yRunner_valueOf ∈ xW := List.mem_filter.mpr ⟨List.mem_append_left _ (List.mem_map.mpr ⟨(⟨"OnceNamed$Runner", "valueOf", "(I)I"⟩, 6), List.mem_append_right _ (List.mem_append_right _ (List.mem_append_left _ (List.mem_of_getElem? (i := 6) rfl))), rfl⟩), rfl⟩
theorem kw_8 : Cond.initialized "OnceNamed$Runner" ∈ xW := List.mem_filter.mpr ⟨List.mem_append_right _ (List.mem_append_left _ (List.mem_of_getElem? (i := 8) rfl)), rfl⟩
theorem kw_903 : Cond.methodLink "OnceNamed$Runner" 144 yRunner_reckon ∈ xW := List.mem_filter.mpr ⟨List.mem_append_right _ (List.mem_append_right _ (List.mem_append_right _ (List.mem_append_right _ (List.mem_append_left _ (List.mem_of_getElem? (i := 183) rfl))))), rfl⟩
theorem kw_904 : Cond.static yRunner_reckon ∈ xW := List.mem_filter.mpr ⟨List.mem_append_right _ (List.mem_append_right _ (List.mem_append_right _ (List.mem_append_right _ (List.mem_append_left _ (List.mem_of_getElem? (i := 184) rfl))))), rfl⟩
theorem kw_899 : Cond.methodLink "OnceNamed$Runner" 141 yProgram_numberPut ∈ xW := List.mem_filter.mpr ⟨List.mem_append_right _ (List.mem_append_right _ (List.mem_append_right _ (List.mem_append_right _ (List.mem_append_left _ (List.mem_of_getElem? (i := 179) rfl))))), rfl⟩
theorem kw_900 : Cond.instanceMethod yProgram_numberPut ∈ xW := List.mem_filter.mpr ⟨List.mem_append_right _ (List.mem_append_right _ (List.mem_append_right _ (List.mem_append_right _ (List.mem_append_left _ (List.mem_of_getElem? (i := 180) rfl))))), rfl⟩
theorem kw_901 : Cond.selects "OnceNamed$Program" yProgram_numberPut yProgram_numberPut ∈ xW := List.mem_filter.mpr ⟨List.mem_append_right _ (List.mem_append_right _ (List.mem_append_right _ (List.mem_append_right _ (List.mem_append_left _ (List.mem_of_getElem? (i := 181) rfl))))), rfl⟩
theorem kw_895 : Cond.methodLink "OnceNamed$Runner" 68 yTalk_fail ∈ xW := List.mem_filter.mpr ⟨List.mem_append_right _ (List.mem_append_right _ (List.mem_append_right _ (List.mem_append_right _ (List.mem_append_left _ (List.mem_of_getElem? (i := 175) rfl))))), rfl⟩
theorem kw_896 : Cond.instanceMethod yTalk_fail ∈ xW := List.mem_filter.mpr ⟨List.mem_append_right _ (List.mem_append_right _ (List.mem_append_right _ (List.mem_append_right _ (List.mem_append_left _ (List.mem_of_getElem? (i := 176) rfl))))), rfl⟩
theorem kw_897 : Cond.selects "OnceNamed$Talk" yTalk_fail yTalk_fail ∈ xW := List.mem_filter.mpr ⟨List.mem_append_right _ (List.mem_append_right _ (List.mem_append_right _ (List.mem_append_right _ (List.mem_append_left _ (List.mem_of_getElem? (i := 177) rfl))))), rfl⟩
theorem kw_9 : Cond.initialized "OnceNamed$Talk" ∈ xW := List.mem_filter.mpr ⟨List.mem_append_right _ (List.mem_append_left _ (List.mem_of_getElem? (i := 9) rfl)), rfl⟩
theorem kw_891 : Cond.methodLink "OnceNamed$Runner" 138 yTalk_say ∈ xW := List.mem_filter.mpr ⟨List.mem_append_right _ (List.mem_append_right _ (List.mem_append_right _ (List.mem_append_right _ (List.mem_append_left _ (List.mem_of_getElem? (i := 171) rfl))))), rfl⟩
theorem kw_892 : Cond.instanceMethod yTalk_say ∈ xW := List.mem_filter.mpr ⟨List.mem_append_right _ (List.mem_append_right _ (List.mem_append_right _ (List.mem_append_right _ (List.mem_append_left _ (List.mem_of_getElem? (i := 172) rfl))))), rfl⟩
theorem kw_893 : Cond.selects "OnceNamed$Talk" yTalk_say yTalk_say ∈ xW := List.mem_filter.mpr ⟨List.mem_append_right _ (List.mem_append_right _ (List.mem_append_right _ (List.mem_append_right _ (List.mem_append_left _ (List.mem_of_getElem? (i := 173) rfl))))), rfl⟩
theorem kw_883 : Cond.code yRunner_placeOf cRunner_placeOf 2 (some .int) ∈ xW := List.mem_filter.mpr ⟨List.mem_append_right _ (List.mem_append_right _ (List.mem_append_right _ (List.mem_append_right _ (List.mem_append_left _ (List.mem_of_getElem? (i := 163) rfl))))), rfl⟩
theorem kw_199 : Cond.fieldLink "OnceNamed$Runner" 32 "OnceNamed$Runner" "way" "I" ∈ xW := List.mem_filter.mpr ⟨List.mem_append_right _ (List.mem_append_left _ (List.mem_of_getElem? (i := 199) rfl)), rfl⟩
theorem kw_873 : Cond.code yRunner_doSteps cRunner_doSteps 6 none ∈ xW := List.mem_filter.mpr ⟨List.mem_append_right _ (List.mem_append_right _ (List.mem_append_right _ (List.mem_append_right _ (List.mem_append_left _ (List.mem_of_getElem? (i := 153) rfl))))), rfl⟩
theorem kw_874 : Cond.methodLink "OnceNamed$Runner" 110 yProgram_stepsOf ∈ xW := List.mem_filter.mpr ⟨List.mem_append_right _ (List.mem_append_right _ (List.mem_append_right _ (List.mem_append_right _ (List.mem_append_left _ (List.mem_of_getElem? (i := 154) rfl))))), rfl⟩
theorem kw_875 : Cond.methodLink "OnceNamed$Runner" 61 yTalk_outcome ∈ xW := List.mem_filter.mpr ⟨List.mem_append_right _ (List.mem_append_right _ (List.mem_append_right _ (List.mem_append_right _ (List.mem_append_left _ (List.mem_of_getElem? (i := 155) rfl))))), rfl⟩
theorem kw_876 : Cond.instanceMethod yTalk_outcome ∈ xW := List.mem_filter.mpr ⟨List.mem_append_right _ (List.mem_append_right _ (List.mem_append_right _ (List.mem_append_right _ (List.mem_append_left _ (List.mem_of_getElem? (i := 156) rfl))))), rfl⟩
theorem kw_877 : Cond.selects "OnceNamed$Talk" yTalk_outcome yTalk_outcome ∈ xW := List.mem_filter.mpr ⟨List.mem_append_right _ (List.mem_append_right _ (List.mem_append_right _ (List.mem_append_right _ (List.mem_append_left _ (List.mem_of_getElem? (i := 157) rfl))))), rfl⟩
theorem kw_906 : Cond.methodLink "OnceNamed$Runner" 129 yNamedForm_stepUse ∈ xW := List.mem_filter.mpr ⟨List.mem_append_right _ (List.mem_append_right _ (List.mem_append_right _ (List.mem_append_right _ (List.mem_append_left _ (List.mem_of_getElem? (i := 186) rfl))))), rfl⟩
theorem kw_721 : Cond.instanceMethod yNamedForm_stepUse ∈ xW := List.mem_filter.mpr ⟨List.mem_append_right _ (List.mem_append_right _ (List.mem_append_right _ (List.mem_append_right _ (List.mem_append_left _ (List.mem_of_getElem? (i := 1) rfl))))), rfl⟩
theorem kw_722 : Cond.selects "OnceNamed$NamedForm" yNamedForm_stepUse yNamedForm_stepUse ∈ xW := List.mem_filter.mpr ⟨List.mem_append_right _ (List.mem_append_right _ (List.mem_append_right _ (List.mem_append_right _ (List.mem_append_left _ (List.mem_of_getElem? (i := 2) rfl))))), rfl⟩
theorem kw_907 : Cond.methodLink "OnceNamed$Runner" 132 yNamedForm_nameSet ∈ xW := List.mem_filter.mpr ⟨List.mem_append_right _ (List.mem_append_right _ (List.mem_append_right _ (List.mem_append_right _ (List.mem_append_left _ (List.mem_of_getElem? (i := 187) rfl))))), rfl⟩
theorem kw_697 : Cond.instanceMethod yNamedForm_nameSet ∈ xW := List.mem_filter.mpr ⟨List.mem_append_right _ (List.mem_append_right _ (List.mem_append_right _ (List.mem_append_left _ (List.mem_of_getElem? (i := 217) rfl)))), rfl⟩
theorem kw_698 : Cond.selects "OnceNamed$NamedForm" yNamedForm_nameSet yNamedForm_nameSet ∈ xW := List.mem_filter.mpr ⟨List.mem_append_right _ (List.mem_append_right _ (List.mem_append_right _ (List.mem_append_left _ (List.mem_of_getElem? (i := 218) rfl)))), rfl⟩
theorem kw_886 : Cond.methodLink "OnceNamed$Runner" 125 yRunner_doStep ∈ xW := List.mem_filter.mpr ⟨List.mem_append_right _ (List.mem_append_right _ (List.mem_append_right _ (List.mem_append_right _ (List.mem_append_left _ (List.mem_of_getElem? (i := 166) rfl))))), rfl⟩
theorem kw_888 : Cond.instanceMethod yRunner_doStep ∈ xW := List.mem_filter.mpr ⟨List.mem_append_right _ (List.mem_append_right _ (List.mem_append_right _ (List.mem_append_right _ (List.mem_append_left _ (List.mem_of_getElem? (i := 168) rfl))))), rfl⟩
theorem ks_3_10 : Cond.selects "OnceNamed$Runner" yRunner_doStep yRunner_doStep ∈ xW := List.mem_filter.mpr ⟨List.mem_append_left _ (List.mem_map.mpr ⟨(⟨"OnceNamed$Runner", "doStep", "(IIIIILOnceNamed$Talk;)V"⟩, 6), List.mem_append_right _ (List.mem_append_right _ (List.mem_append_left _ (List.mem_of_getElem? (i := 10) rfl))), rfl⟩), rfl⟩
theorem kw_879 : Cond.methodLink "OnceNamed$Runner" 113 yProgram_firstVariable ∈ xW := List.mem_filter.mpr ⟨List.mem_append_right _ (List.mem_append_right _ (List.mem_append_right _ (List.mem_append_right _ (List.mem_append_left _ (List.mem_of_getElem? (i := 159) rfl))))), rfl⟩
theorem kw_880 : Cond.methodLink "OnceNamed$Runner" 116 yRunner_placeOf ∈ xW := List.mem_filter.mpr ⟨List.mem_append_right _ (List.mem_append_right _ (List.mem_append_right _ (List.mem_append_right _ (List.mem_append_left _ (List.mem_of_getElem? (i := 160) rfl))))), rfl⟩
theorem kw_882 : Cond.instanceMethod yRunner_placeOf ∈ xW := List.mem_filter.mpr ⟨List.mem_append_right _ (List.mem_append_right _ (List.mem_append_right _ (List.mem_append_right _ (List.mem_append_left _ (List.mem_of_getElem? (i := 162) rfl))))), rfl⟩
theorem ks_3_9 : Cond.selects "OnceNamed$Runner" yRunner_placeOf yRunner_placeOf ∈ xW := List.mem_filter.mpr ⟨List.mem_append_left _ (List.mem_map.mpr ⟨(⟨"OnceNamed$Runner", "placeOf", "(I)I"⟩, 6), List.mem_append_right _ (List.mem_append_right _ (List.mem_append_left _ (List.mem_of_getElem? (i := 9) rfl))), rfl⟩), rfl⟩
theorem kw_884 : Cond.methodLink "OnceNamed$Runner" 119 yProgram_secondVariable ∈ xW := List.mem_filter.mpr ⟨List.mem_append_right _ (List.mem_append_right _ (List.mem_append_right _ (List.mem_append_right _ (List.mem_append_left _ (List.mem_of_getElem? (i := 164) rfl))))), rfl⟩
theorem kw_885 : Cond.methodLink "OnceNamed$Runner" 122 yProgram_variableSet ∈ xW := List.mem_filter.mpr ⟨List.mem_append_right _ (List.mem_append_right _ (List.mem_append_right _ (List.mem_append_right _ (List.mem_append_left _ (List.mem_of_getElem? (i := 165) rfl))))), rfl⟩
theorem kw_911 : Cond.code yRunner_nextBlock cRunner_nextBlock 3 (some .int) ∈ xW := List.mem_filter.mpr ⟨List.mem_append_right _ (List.mem_append_right _ (List.mem_append_right _ (List.mem_append_right _ (List.mem_append_left _ (List.mem_of_getElem? (i := 191) rfl))))), rfl⟩
theorem kw_914 : Cond.methodLink "OnceNamed$Runner" 153 yProgram_blockAfter ∈ xW := List.mem_filter.mpr ⟨List.mem_append_right _ (List.mem_append_right _ (List.mem_append_right _ (List.mem_append_right _ (List.mem_append_left _ (List.mem_of_getElem? (i := 194) rfl))))), rfl⟩
theorem kw_915 : Cond.instanceMethod yProgram_blockAfter ∈ xW := List.mem_filter.mpr ⟨List.mem_append_right _ (List.mem_append_right _ (List.mem_append_right _ (List.mem_append_right _ (List.mem_append_left _ (List.mem_of_getElem? (i := 195) rfl))))), rfl⟩
theorem kw_916 : Cond.selects "OnceNamed$Program" yProgram_blockAfter yProgram_blockAfter ∈ xW := List.mem_filter.mpr ⟨List.mem_append_right _ (List.mem_append_right _ (List.mem_append_right _ (List.mem_append_right _ (List.mem_append_left _ (List.mem_of_getElem? (i := 196) rfl))))), rfl⟩
theorem kw_913 : Cond.methodLink "OnceNamed$Runner" 150 yNamedForm_endUse ∈ xW := List.mem_filter.mpr ⟨List.mem_append_right _ (List.mem_append_right _ (List.mem_append_right _ (List.mem_append_right _ (List.mem_append_left _ (List.mem_of_getElem? (i := 193) rfl))))), rfl⟩
theorem kw_717 : Cond.instanceMethod yNamedForm_endUse ∈ xW := List.mem_filter.mpr ⟨List.mem_append_right _ (List.mem_append_right _ (List.mem_append_right _ (List.mem_append_left _ (List.mem_of_getElem? (i := 237) rfl)))), rfl⟩
theorem kw_718 : Cond.selects "OnceNamed$NamedForm" yNamedForm_endUse yNamedForm_endUse ∈ xW := List.mem_filter.mpr ⟨List.mem_append_right _ (List.mem_append_right _ (List.mem_append_right _ (List.mem_append_left _ (List.mem_of_getElem? (i := 238) rfl)))), rfl⟩
theorem kw_912 : Cond.methodLink "OnceNamed$Runner" 147 yProgram_variableOfFork ∈ xW := List.mem_filter.mpr ⟨List.mem_append_right _ (List.mem_append_right _ (List.mem_append_right _ (List.mem_append_right _ (List.mem_append_left _ (List.mem_of_getElem? (i := 192) rfl))))), rfl⟩
theorem kw_196 : Cond.fieldLink "OnceNamed$Runner" 19 "OnceNamed$Runner" "plan" "LOnceNamed$CopyPlan;" ∈ xW := List.mem_filter.mpr ⟨List.mem_append_right _ (List.mem_append_left _ (List.mem_of_getElem? (i := 196) rfl)), rfl⟩
theorem kw_859 : Cond.code yRunner_setByCopies cRunner_setByCopies 4 none ∈ xW := List.mem_filter.mpr ⟨List.mem_append_right _ (List.mem_append_right _ (List.mem_append_right _ (List.mem_append_right _ (List.mem_append_left _ (List.mem_of_getElem? (i := 139) rfl))))), rfl⟩
theorem kw_860 : Cond.methodLink "OnceNamed$Runner" 97 yCopyPlan_draw ∈ xW := List.mem_filter.mpr ⟨List.mem_append_right _ (List.mem_append_right _ (List.mem_append_right _ (List.mem_append_right _ (List.mem_append_left _ (List.mem_of_getElem? (i := 140) rfl))))), rfl⟩
theorem kw_778 : Cond.instanceMethod yCopyPlan_draw ∈ xW := List.mem_filter.mpr ⟨List.mem_append_right _ (List.mem_append_right _ (List.mem_append_right _ (List.mem_append_right _ (List.mem_append_left _ (List.mem_of_getElem? (i := 58) rfl))))), rfl⟩
theorem kw_779 : Cond.selects "OnceNamed$CopyPlan" yCopyPlan_draw yCopyPlan_draw ∈ xW := List.mem_filter.mpr ⟨List.mem_append_right _ (List.mem_append_right _ (List.mem_append_right _ (List.mem_append_right _ (List.mem_append_left _ (List.mem_of_getElem? (i := 59) rfl))))), rfl⟩
theorem kw_861 : Cond.methodLink "OnceNamed$Runner" 101 yCopyPlan_length ∈ xW := List.mem_filter.mpr ⟨List.mem_append_right _ (List.mem_append_right _ (List.mem_append_right _ (List.mem_append_right _ (List.mem_append_left _ (List.mem_of_getElem? (i := 141) rfl))))), rfl⟩
theorem kw_808 : Cond.instanceMethod yCopyPlan_length ∈ xW := List.mem_filter.mpr ⟨List.mem_append_right _ (List.mem_append_right _ (List.mem_append_right _ (List.mem_append_right _ (List.mem_append_left _ (List.mem_of_getElem? (i := 88) rfl))))), rfl⟩
theorem kw_809 : Cond.selects "OnceNamed$CopyPlan" yCopyPlan_length yCopyPlan_length ∈ xW := List.mem_filter.mpr ⟨List.mem_append_right _ (List.mem_append_right _ (List.mem_append_right _ (List.mem_append_right _ (List.mem_append_left _ (List.mem_of_getElem? (i := 89) rfl))))), rfl⟩
theorem kw_862 : Cond.methodLink "OnceNamed$Runner" 104 yCopyPlan_to ∈ xW := List.mem_filter.mpr ⟨List.mem_append_right _ (List.mem_append_right _ (List.mem_append_right _ (List.mem_append_right _ (List.mem_append_left _ (List.mem_of_getElem? (i := 142) rfl))))), rfl⟩
theorem kw_863 : Cond.instanceMethod yCopyPlan_to ∈ xW := List.mem_filter.mpr ⟨List.mem_append_right _ (List.mem_append_right _ (List.mem_append_right _ (List.mem_append_right _ (List.mem_append_left _ (List.mem_of_getElem? (i := 143) rfl))))), rfl⟩
theorem kw_864 : Cond.selects "OnceNamed$CopyPlan" yCopyPlan_to yCopyPlan_to ∈ xW := List.mem_filter.mpr ⟨List.mem_append_right _ (List.mem_append_right _ (List.mem_append_right _ (List.mem_append_right _ (List.mem_append_left _ (List.mem_of_getElem? (i := 144) rfl))))), rfl⟩
theorem kw_866 : Cond.methodLink "OnceNamed$Runner" 107 yCopyPlan_from ∈ xW := List.mem_filter.mpr ⟨List.mem_append_right _ (List.mem_append_right _ (List.mem_append_right _ (List.mem_append_right _ (List.mem_append_left _ (List.mem_of_getElem? (i := 146) rfl))))), rfl⟩
theorem kw_867 : Cond.instanceMethod yCopyPlan_from ∈ xW := List.mem_filter.mpr ⟨List.mem_append_right _ (List.mem_append_right _ (List.mem_append_right _ (List.mem_append_right _ (List.mem_append_left _ (List.mem_of_getElem? (i := 147) rfl))))), rfl⟩
theorem kw_868 : Cond.selects "OnceNamed$CopyPlan" yCopyPlan_from yCopyPlan_from ∈ xW := List.mem_filter.mpr ⟨List.mem_append_right _ (List.mem_append_right _ (List.mem_append_right _ (List.mem_append_right _ (List.mem_append_left _ (List.mem_of_getElem? (i := 148) rfl))))), rfl⟩
theorem kw_198 : Cond.fieldLink "OnceNamed$Runner" 29 "OnceNamed$Runner" "arriving" "[I" ∈ xW := List.mem_filter.mpr ⟨List.mem_append_right _ (List.mem_append_left _ (List.mem_of_getElem? (i := 198) rfl)), rfl⟩
theorem kw_849 : Cond.code yRunner_setAtOnce cRunner_setAtOnce 4 none ∈ xW := List.mem_filter.mpr ⟨List.mem_append_right _ (List.mem_append_right _ (List.mem_append_right _ (List.mem_append_right _ (List.mem_append_left _ (List.mem_of_getElem? (i := 129) rfl))))), rfl⟩
theorem kw_850 : Cond.methodLink "OnceNamed$Runner" 86 yNamedForm_meetingUse ∈ xW := List.mem_filter.mpr ⟨List.mem_append_right _ (List.mem_append_right _ (List.mem_append_right _ (List.mem_append_right _ (List.mem_append_left _ (List.mem_of_getElem? (i := 130) rfl))))), rfl⟩
theorem kw_855 : Cond.methodLink "OnceNamed$Runner" 93 yNamedForm_meetingName ∈ xW := List.mem_filter.mpr ⟨List.mem_append_right _ (List.mem_append_right _ (List.mem_append_right _ (List.mem_append_right _ (List.mem_append_left _ (List.mem_of_getElem? (i := 135) rfl))))), rfl⟩
theorem kw_827 : Cond.code yRunner_perform cRunner_perform 6 none ∈ xW := List.mem_filter.mpr ⟨List.mem_append_right _ (List.mem_append_right _ (List.mem_append_right _ (List.mem_append_right _ (List.mem_append_left _ (List.mem_of_getElem? (i := 107) rfl))))), rfl⟩
theorem kw_828 : Cond.methodLink "OnceNamed$Runner" 36 yTalk_begin ∈ xW := List.mem_filter.mpr ⟨List.mem_append_right _ (List.mem_append_right _ (List.mem_append_right _ (List.mem_append_right _ (List.mem_append_left _ (List.mem_of_getElem? (i := 108) rfl))))), rfl⟩
theorem kw_829 : Cond.instanceMethod yTalk_begin ∈ xW := List.mem_filter.mpr ⟨List.mem_append_right _ (List.mem_append_right _ (List.mem_append_right _ (List.mem_append_right _ (List.mem_append_left _ (List.mem_of_getElem? (i := 109) rfl))))), rfl⟩
theorem kw_830 : Cond.selects "OnceNamed$Talk" yTalk_begin yTalk_begin ∈ xW := List.mem_filter.mpr ⟨List.mem_append_right _ (List.mem_append_right _ (List.mem_append_right _ (List.mem_append_right _ (List.mem_append_left _ (List.mem_of_getElem? (i := 110) rfl))))), rfl⟩
theorem kw_832 : Cond.methodLink "OnceNamed$Runner" 41 yRunner_enterProgram ∈ xW := List.mem_filter.mpr ⟨List.mem_append_right _ (List.mem_append_right _ (List.mem_append_right _ (List.mem_append_right _ (List.mem_append_left _ (List.mem_of_getElem? (i := 112) rfl))))), rfl⟩
theorem kw_834 : Cond.instanceMethod yRunner_enterProgram ∈ xW := List.mem_filter.mpr ⟨List.mem_append_right _ (List.mem_append_right _ (List.mem_append_right _ (List.mem_append_right _ (List.mem_append_left _ (List.mem_of_getElem? (i := 114) rfl))))), rfl⟩
theorem ks_3_4 : Cond.selects "OnceNamed$Runner" yRunner_enterProgram yRunner_enterProgram ∈ xW := List.mem_filter.mpr ⟨List.mem_append_left _ (List.mem_map.mpr ⟨(⟨"OnceNamed$Runner", "enterProgram", "()V"⟩, 6), List.mem_append_right _ (List.mem_append_right _ (List.mem_append_left _ (List.mem_of_getElem? (i := 4) rfl))), rfl⟩), rfl⟩
theorem kw_845 : Cond.methodLink "OnceNamed$Runner" 44 yProgram_blockCount ∈ xW := List.mem_filter.mpr ⟨List.mem_append_right _ (List.mem_append_right _ (List.mem_append_right _ (List.mem_append_right _ (List.mem_append_left _ (List.mem_of_getElem? (i := 125) rfl))))), rfl⟩
theorem kw_117 : Cond.instanceMethod yProgram_blockCount ∈ xW := List.mem_filter.mpr ⟨List.mem_append_right _ (List.mem_append_left _ (List.mem_of_getElem? (i := 117) rfl)), rfl⟩
theorem kw_118 : Cond.selects "OnceNamed$Program" yProgram_blockCount yProgram_blockCount ∈ xW := List.mem_filter.mpr ⟨List.mem_append_right _ (List.mem_append_left _ (List.mem_of_getElem? (i := 118) rfl)), rfl⟩
theorem kw_870 : Cond.methodLink "OnceNamed$Runner" 57 yRunner_doSteps ∈ xW := List.mem_filter.mpr ⟨List.mem_append_right _ (List.mem_append_right _ (List.mem_append_right _ (List.mem_append_right _ (List.mem_append_left _ (List.mem_of_getElem? (i := 150) rfl))))), rfl⟩
theorem kw_872 : Cond.instanceMethod yRunner_doSteps ∈ xW := List.mem_filter.mpr ⟨List.mem_append_right _ (List.mem_append_right _ (List.mem_append_right _ (List.mem_append_right _ (List.mem_append_left _ (List.mem_of_getElem? (i := 152) rfl))))), rfl⟩
theorem ks_3_8 : Cond.selects "OnceNamed$Runner" yRunner_doSteps yRunner_doSteps ∈ xW := List.mem_filter.mpr ⟨List.mem_append_left _ (List.mem_map.mpr ⟨(⟨"OnceNamed$Runner", "doSteps", "(ILOnceNamed$Talk;)V"⟩, 6), List.mem_append_right _ (List.mem_append_right _ (List.mem_append_left _ (List.mem_of_getElem? (i := 8) rfl))), rfl⟩), rfl⟩
theorem kw_908 : Cond.methodLink "OnceNamed$Runner" 64 yRunner_nextBlock ∈ xW := List.mem_filter.mpr ⟨List.mem_append_right _ (List.mem_append_right _ (List.mem_append_right _ (List.mem_append_right _ (List.mem_append_left _ (List.mem_of_getElem? (i := 188) rfl))))), rfl⟩
theorem kw_910 : Cond.instanceMethod yRunner_nextBlock ∈ xW := List.mem_filter.mpr ⟨List.mem_append_right _ (List.mem_append_right _ (List.mem_append_right _ (List.mem_append_right _ (List.mem_append_left _ (List.mem_of_getElem? (i := 190) rfl))))), rfl⟩
theorem ks_3_11 : Cond.selects "OnceNamed$Runner" yRunner_nextBlock yRunner_nextBlock ∈ xW := List.mem_filter.mpr ⟨List.mem_append_left _ (List.mem_map.mpr ⟨(⟨"OnceNamed$Runner", "nextBlock", "(I)I"⟩, 6), List.mem_append_right _ (List.mem_append_right _ (List.mem_append_left _ (List.mem_of_getElem? (i := 11) rfl))), rfl⟩), rfl⟩
theorem kw_856 : Cond.methodLink "OnceNamed$Runner" 54 yRunner_setByCopies ∈ xW := List.mem_filter.mpr ⟨List.mem_append_right _ (List.mem_append_right _ (List.mem_append_right _ (List.mem_append_right _ (List.mem_append_left _ (List.mem_of_getElem? (i := 136) rfl))))), rfl⟩
theorem kw_858 : Cond.instanceMethod yRunner_setByCopies ∈ xW := List.mem_filter.mpr ⟨List.mem_append_right _ (List.mem_append_right _ (List.mem_append_right _ (List.mem_append_right _ (List.mem_append_left _ (List.mem_of_getElem? (i := 138) rfl))))), rfl⟩
theorem ks_3_7 : Cond.selects "OnceNamed$Runner" yRunner_setByCopies yRunner_setByCopies ∈ xW := List.mem_filter.mpr ⟨List.mem_append_left _ (List.mem_map.mpr ⟨(⟨"OnceNamed$Runner", "setByCopies", "(II)V"⟩, 6), List.mem_append_right _ (List.mem_append_right _ (List.mem_append_left _ (List.mem_of_getElem? (i := 7) rfl))), rfl⟩), rfl⟩
theorem kw_846 : Cond.methodLink "OnceNamed$Runner" 50 yRunner_setAtOnce ∈ xW := List.mem_filter.mpr ⟨List.mem_append_right _ (List.mem_append_right _ (List.mem_append_right _ (List.mem_append_right _ (List.mem_append_left _ (List.mem_of_getElem? (i := 126) rfl))))), rfl⟩
theorem kw_848 : Cond.instanceMethod yRunner_setAtOnce ∈ xW := List.mem_filter.mpr ⟨List.mem_append_right _ (List.mem_append_right _ (List.mem_append_right _ (List.mem_append_right _ (List.mem_append_left _ (List.mem_of_getElem? (i := 128) rfl))))), rfl⟩
theorem ks_3_5 : Cond.selects "OnceNamed$Runner" yRunner_setAtOnce yRunner_setAtOnce ∈ xW := List.mem_filter.mpr ⟨List.mem_append_left _ (List.mem_map.mpr ⟨(⟨"OnceNamed$Runner", "setAtOnce", "(II)V"⟩, 6), List.mem_append_right _ (List.mem_append_right _ (List.mem_append_left _ (List.mem_of_getElem? (i := 5) rfl))), rfl⟩), rfl⟩
def TX0 : u_T := fun k => match k with
  | 0 => ("OnceNamed", "blocks", "I", true)
  | 1 => ("OnceNamed", "program", "LOnceNamed$Program;", true)
  | 2 => ("OnceNamed", "graph", "LOnceNamed$Graph;", true)
  | 3 => ("OnceNamed", "named", "LOnceNamed$NamedForm;", true)
  | 4 => ("OnceNamed", "plan", "LOnceNamed$CopyPlan;", true)
  | 5 => ("OnceNamed", "runner", "LOnceNamed$Runner;", true)
  | 6 => ("OnceNamed", "latest", "LOnceNamed$Talk;", true)
  | 7 => ("OnceNamed", "talkOfProgram", "LOnceNamed$Talk;", true)
  | 8 => ("OnceNamed", "talkOfForm", "LOnceNamed$Talk;", true)
  | _ => ("OnceNamed", "formStands", "Z", false)
def tyX0 : Nat → FieldType := fun k => match k with
  | 0 => .int
  | 1 => .object "OnceNamed$Program"
  | 2 => .object "OnceNamed$Graph"
  | 3 => .object "OnceNamed$NamedForm"
  | 4 => .object "OnceNamed$CopyPlan"
  | 5 => .object "OnceNamed$Runner"
  | 6 => .object "OnceNamed$Talk"
  | 7 => .object "OnceNamed$Talk"
  | 8 => .object "OnceNamed$Talk"
  | _ => .boolean
theorem nmX0 : ∀ a, a < 10 → ∀ b, b < 10 → a ≠ b → (TX0 a).2.1 ≠ (TX0 b).2.1 := by decide +kernel
theorem tyX0_ok : ∀ k, k < 10 → parseFieldDescriptor (TX0 k).2.2.1 = some (tyX0 k) := by decide +kernel
theorem inX0 : ∀ w ∈ u_ws "OnceNamed" TX0 10, w ∈ xW := by
  show ∀ w ∈ [Cond.laysFinal "OnceNamed" "OnceNamed" "blocks" "I", Cond.laysFinal "OnceNamed" "OnceNamed" "program" "LOnceNamed$Program;", Cond.laysFinal "OnceNamed" "OnceNamed" "graph" "LOnceNamed$Graph;", Cond.laysFinal "OnceNamed" "OnceNamed" "named" "LOnceNamed$NamedForm;", Cond.laysFinal "OnceNamed" "OnceNamed" "plan" "LOnceNamed$CopyPlan;", Cond.laysFinal "OnceNamed" "OnceNamed" "runner" "LOnceNamed$Runner;", Cond.laysFinal "OnceNamed" "OnceNamed" "latest" "LOnceNamed$Talk;", Cond.laysFinal "OnceNamed" "OnceNamed" "talkOfProgram" "LOnceNamed$Talk;", Cond.laysFinal "OnceNamed" "OnceNamed" "talkOfForm" "LOnceNamed$Talk;", Cond.lays "OnceNamed" "OnceNamed" "formStands" "Z"], w ∈ xW
  exact List.forall_mem_cons.mpr ⟨kw_277, List.forall_mem_cons.mpr ⟨kw_279, List.forall_mem_cons.mpr ⟨kw_281, List.forall_mem_cons.mpr ⟨kw_283, List.forall_mem_cons.mpr ⟨kw_285, List.forall_mem_cons.mpr ⟨kw_287, List.forall_mem_cons.mpr ⟨kw_289, List.forall_mem_cons.mpr ⟨kw_291, List.forall_mem_cons.mpr ⟨kw_293, List.forall_mem_cons.mpr ⟨kw_295, fun _ h => absurd h List.not_mem_nil⟩⟩⟩⟩⟩⟩⟩⟩⟩⟩
def TX1 : u_T := fun k => match k with
  | 0 => ("OnceNamed$Program", "blocks", "I", true)
  | 1 => ("OnceNamed$Program", "stepCount", "[I", true)
  | 2 => ("OnceNamed$Program", "kind", "[I", true)
  | 3 => ("OnceNamed$Program", "target", "[I", true)
  | 4 => ("OnceNamed$Program", "first", "[I", true)
  | 5 => ("OnceNamed$Program", "second", "[I", true)
  | 6 => ("OnceNamed$Program", "forkVariable", "[I", true)
  | 7 => ("OnceNamed$Program", "yes", "[I", true)
  | 8 => ("OnceNamed$Program", "no", "[I", true)
  | _ => ("OnceNamed$Program", "starts", "[I", true)
def tyX1 : Nat → FieldType := fun k => match k with
  | 0 => .int
  | 1 => .array .int
  | 2 => .array .int
  | 3 => .array .int
  | 4 => .array .int
  | 5 => .array .int
  | 6 => .array .int
  | 7 => .array .int
  | 8 => .array .int
  | _ => .array .int
theorem nmX1 : ∀ a, a < 10 → ∀ b, b < 10 → a ≠ b → (TX1 a).2.1 ≠ (TX1 b).2.1 := by decide +kernel
theorem tyX1_ok : ∀ k, k < 10 → parseFieldDescriptor (TX1 k).2.2.1 = some (tyX1 k) := by decide +kernel
theorem inX1 : ∀ w ∈ u_ws "OnceNamed$Program" TX1 10, w ∈ xW := by
  show ∀ w ∈ [Cond.laysFinal "OnceNamed$Program" "OnceNamed$Program" "blocks" "I", Cond.laysFinal "OnceNamed$Program" "OnceNamed$Program" "stepCount" "[I", Cond.laysFinal "OnceNamed$Program" "OnceNamed$Program" "kind" "[I", Cond.laysFinal "OnceNamed$Program" "OnceNamed$Program" "target" "[I", Cond.laysFinal "OnceNamed$Program" "OnceNamed$Program" "first" "[I", Cond.laysFinal "OnceNamed$Program" "OnceNamed$Program" "second" "[I", Cond.laysFinal "OnceNamed$Program" "OnceNamed$Program" "forkVariable" "[I", Cond.laysFinal "OnceNamed$Program" "OnceNamed$Program" "yes" "[I", Cond.laysFinal "OnceNamed$Program" "OnceNamed$Program" "no" "[I", Cond.laysFinal "OnceNamed$Program" "OnceNamed$Program" "starts" "[I"], w ∈ xW
  exact List.forall_mem_cons.mpr ⟨kw_54, List.forall_mem_cons.mpr ⟨kw_56, List.forall_mem_cons.mpr ⟨kw_58, List.forall_mem_cons.mpr ⟨kw_60, List.forall_mem_cons.mpr ⟨kw_62, List.forall_mem_cons.mpr ⟨kw_64, List.forall_mem_cons.mpr ⟨kw_66, List.forall_mem_cons.mpr ⟨kw_68, List.forall_mem_cons.mpr ⟨kw_70, List.forall_mem_cons.mpr ⟨kw_72, fun _ h => absurd h List.not_mem_nil⟩⟩⟩⟩⟩⟩⟩⟩⟩⟩
def TX2 : u_T := fun k => match k with
  | 0 => ("OnceNamed$Graph", "blocks", "I", true)
  | 1 => ("OnceNamed$Graph", "forerunners", "[I", true)
  | 2 => ("OnceNamed$Graph", "below", "[I", true)
  | 3 => ("OnceNamed$Graph", "frontiers", "[I", true)
  | 4 => ("OnceNamed$Graph", "parents", "[I", true)
  | 5 => ("OnceNamed$Graph", "order", "[I", true)
  | 6 => ("OnceNamed$Graph", "waiting", "[I", true)
  | 7 => ("OnceNamed$Graph", "orderSize", "I", false)
  | _ => ("OnceNamed$Graph", "reached", "I", false)
def tyX2 : Nat → FieldType := fun k => match k with
  | 0 => .int
  | 1 => .array .int
  | 2 => .array .int
  | 3 => .array .int
  | 4 => .array .int
  | 5 => .array .int
  | 6 => .array .int
  | 7 => .int
  | _ => .int
theorem nmX2 : ∀ a, a < 9 → ∀ b, b < 9 → a ≠ b → (TX2 a).2.1 ≠ (TX2 b).2.1 := by decide +kernel
theorem tyX2_ok : ∀ k, k < 9 → parseFieldDescriptor (TX2 k).2.2.1 = some (tyX2 k) := by decide +kernel
theorem inX2 : ∀ w ∈ u_ws "OnceNamed$Graph" TX2 9, w ∈ xW := by
  show ∀ w ∈ [Cond.laysFinal "OnceNamed$Graph" "OnceNamed$Graph" "blocks" "I", Cond.laysFinal "OnceNamed$Graph" "OnceNamed$Graph" "forerunners" "[I", Cond.laysFinal "OnceNamed$Graph" "OnceNamed$Graph" "below" "[I", Cond.laysFinal "OnceNamed$Graph" "OnceNamed$Graph" "frontiers" "[I", Cond.laysFinal "OnceNamed$Graph" "OnceNamed$Graph" "parents" "[I", Cond.laysFinal "OnceNamed$Graph" "OnceNamed$Graph" "order" "[I", Cond.laysFinal "OnceNamed$Graph" "OnceNamed$Graph" "waiting" "[I", Cond.lays "OnceNamed$Graph" "OnceNamed$Graph" "orderSize" "I", Cond.lays "OnceNamed$Graph" "OnceNamed$Graph" "reached" "I"], w ∈ xW
  exact List.forall_mem_cons.mpr ⟨kw_91, List.forall_mem_cons.mpr ⟨kw_93, List.forall_mem_cons.mpr ⟨kw_95, List.forall_mem_cons.mpr ⟨kw_97, List.forall_mem_cons.mpr ⟨kw_99, List.forall_mem_cons.mpr ⟨kw_101, List.forall_mem_cons.mpr ⟨kw_103, List.forall_mem_cons.mpr ⟨kw_105, List.forall_mem_cons.mpr ⟨kw_107, fun _ h => absurd h List.not_mem_nil⟩⟩⟩⟩⟩⟩⟩⟩⟩
def TX3 : u_T := fun k => match k with
  | 0 => ("OnceNamed$NamedForm", "program", "LOnceNamed$Program;", true)
  | 1 => ("OnceNamed$NamedForm", "graph", "LOnceNamed$Graph;", true)
  | 2 => ("OnceNamed$NamedForm", "entry", "I", true)
  | 3 => ("OnceNamed$NamedForm", "meetingNames", "[I", true)
  | 4 => ("OnceNamed$NamedForm", "meetingUses", "[I", true)
  | 5 => ("OnceNamed$NamedForm", "stepNames", "[I", true)
  | 6 => ("OnceNamed$NamedForm", "firstUses", "[I", true)
  | 7 => ("OnceNamed$NamedForm", "secondUses", "[I", true)
  | 8 => ("OnceNamed$NamedForm", "endUses", "[I", true)
  | 9 => ("OnceNamed$NamedForm", "lastNames", "[I", true)
  | 10 => ("OnceNamed$NamedForm", "namesOf", "[I", true)
  | 11 => ("OnceNamed$NamedForm", "homeBlock", "[I", true)
  | 12 => ("OnceNamed$NamedForm", "homePlace", "[I", true)
  | _ => ("OnceNamed$NamedForm", "standsFor", "[I", true)
def tyX3 : Nat → FieldType := fun k => match k with
  | 0 => .object "OnceNamed$Program"
  | 1 => .object "OnceNamed$Graph"
  | 2 => .int
  | 3 => .array .int
  | 4 => .array .int
  | 5 => .array .int
  | 6 => .array .int
  | 7 => .array .int
  | 8 => .array .int
  | 9 => .array .int
  | 10 => .array .int
  | 11 => .array .int
  | 12 => .array .int
  | _ => .array .int
theorem nmX3 : ∀ a, a < 14 → ∀ b, b < 14 → a ≠ b → (TX3 a).2.1 ≠ (TX3 b).2.1 := by decide +kernel
theorem tyX3_ok : ∀ k, k < 14 → parseFieldDescriptor (TX3 k).2.2.1 = some (tyX3 k) := by decide +kernel
theorem inX3 : ∀ w ∈ u_ws "OnceNamed$NamedForm" TX3 14, w ∈ xW := by
  show ∀ w ∈ [Cond.laysFinal "OnceNamed$NamedForm" "OnceNamed$NamedForm" "program" "LOnceNamed$Program;", Cond.laysFinal "OnceNamed$NamedForm" "OnceNamed$NamedForm" "graph" "LOnceNamed$Graph;", Cond.laysFinal "OnceNamed$NamedForm" "OnceNamed$NamedForm" "entry" "I", Cond.laysFinal "OnceNamed$NamedForm" "OnceNamed$NamedForm" "meetingNames" "[I", Cond.laysFinal "OnceNamed$NamedForm" "OnceNamed$NamedForm" "meetingUses" "[I", Cond.laysFinal "OnceNamed$NamedForm" "OnceNamed$NamedForm" "stepNames" "[I", Cond.laysFinal "OnceNamed$NamedForm" "OnceNamed$NamedForm" "firstUses" "[I", Cond.laysFinal "OnceNamed$NamedForm" "OnceNamed$NamedForm" "secondUses" "[I", Cond.laysFinal "OnceNamed$NamedForm" "OnceNamed$NamedForm" "endUses" "[I", Cond.laysFinal "OnceNamed$NamedForm" "OnceNamed$NamedForm" "lastNames" "[I", Cond.laysFinal "OnceNamed$NamedForm" "OnceNamed$NamedForm" "namesOf" "[I", Cond.laysFinal "OnceNamed$NamedForm" "OnceNamed$NamedForm" "homeBlock" "[I", Cond.laysFinal "OnceNamed$NamedForm" "OnceNamed$NamedForm" "homePlace" "[I", Cond.laysFinal "OnceNamed$NamedForm" "OnceNamed$NamedForm" "standsFor" "[I"], w ∈ xW
  exact List.forall_mem_cons.mpr ⟨kw_134, List.forall_mem_cons.mpr ⟨kw_136, List.forall_mem_cons.mpr ⟨kw_138, List.forall_mem_cons.mpr ⟨kw_140, List.forall_mem_cons.mpr ⟨kw_142, List.forall_mem_cons.mpr ⟨kw_144, List.forall_mem_cons.mpr ⟨kw_146, List.forall_mem_cons.mpr ⟨kw_148, List.forall_mem_cons.mpr ⟨kw_150, List.forall_mem_cons.mpr ⟨kw_152, List.forall_mem_cons.mpr ⟨kw_154, List.forall_mem_cons.mpr ⟨kw_156, List.forall_mem_cons.mpr ⟨kw_158, List.forall_mem_cons.mpr ⟨kw_160, fun _ h => absurd h List.not_mem_nil⟩⟩⟩⟩⟩⟩⟩⟩⟩⟩⟩⟩⟩⟩
def TX4 : u_T := fun k => match k with
  | 0 => ("OnceNamed$CopyPlan", "pendingTo", "[I", true)
  | 1 => ("OnceNamed$CopyPlan", "pendingFrom", "[I", true)
  | 2 => ("OnceNamed$CopyPlan", "copyTo", "[I", true)
  | 3 => ("OnceNamed$CopyPlan", "copyFrom", "[I", true)
  | 4 => ("OnceNamed$CopyPlan", "pending", "I", false)
  | _ => ("OnceNamed$CopyPlan", "length", "I", false)
def tyX4 : Nat → FieldType := fun k => match k with
  | 0 => .array .int
  | 1 => .array .int
  | 2 => .array .int
  | 3 => .array .int
  | 4 => .int
  | _ => .int
theorem nmX4 : ∀ a, a < 6 → ∀ b, b < 6 → a ≠ b → (TX4 a).2.1 ≠ (TX4 b).2.1 := by decide +kernel
theorem tyX4_ok : ∀ k, k < 6 → parseFieldDescriptor (TX4 k).2.2.1 = some (tyX4 k) := by decide +kernel
theorem inX4 : ∀ w ∈ u_ws "OnceNamed$CopyPlan" TX4 6, w ∈ xW := by
  show ∀ w ∈ [Cond.laysFinal "OnceNamed$CopyPlan" "OnceNamed$CopyPlan" "pendingTo" "[I", Cond.laysFinal "OnceNamed$CopyPlan" "OnceNamed$CopyPlan" "pendingFrom" "[I", Cond.laysFinal "OnceNamed$CopyPlan" "OnceNamed$CopyPlan" "copyTo" "[I", Cond.laysFinal "OnceNamed$CopyPlan" "OnceNamed$CopyPlan" "copyFrom" "[I", Cond.lays "OnceNamed$CopyPlan" "OnceNamed$CopyPlan" "pending" "I", Cond.lays "OnceNamed$CopyPlan" "OnceNamed$CopyPlan" "length" "I"], w ∈ xW
  exact List.forall_mem_cons.mpr ⟨kw_175, List.forall_mem_cons.mpr ⟨kw_177, List.forall_mem_cons.mpr ⟨kw_179, List.forall_mem_cons.mpr ⟨kw_181, List.forall_mem_cons.mpr ⟨kw_183, List.forall_mem_cons.mpr ⟨kw_185, fun _ h => absurd h List.not_mem_nil⟩⟩⟩⟩⟩⟩
def TX5 : u_T := fun k => match k with
  | 0 => ("OnceNamed$Runner", "program", "LOnceNamed$Program;", true)
  | 1 => ("OnceNamed$Runner", "form", "LOnceNamed$NamedForm;", true)
  | 2 => ("OnceNamed$Runner", "plan", "LOnceNamed$CopyPlan;", true)
  | 3 => ("OnceNamed$Runner", "values", "[I", true)
  | 4 => ("OnceNamed$Runner", "arriving", "[I", true)
  | _ => ("OnceNamed$Runner", "way", "I", false)
def tyX5 : Nat → FieldType := fun k => match k with
  | 0 => .object "OnceNamed$Program"
  | 1 => .object "OnceNamed$NamedForm"
  | 2 => .object "OnceNamed$CopyPlan"
  | 3 => .array .int
  | 4 => .array .int
  | _ => .int
theorem nmX5 : ∀ a, a < 6 → ∀ b, b < 6 → a ≠ b → (TX5 a).2.1 ≠ (TX5 b).2.1 := by decide +kernel
theorem tyX5_ok : ∀ k, k < 6 → parseFieldDescriptor (TX5 k).2.2.1 = some (tyX5 k) := by decide +kernel
theorem inX5 : ∀ w ∈ u_ws "OnceNamed$Runner" TX5 6, w ∈ xW := by
  show ∀ w ∈ [Cond.laysFinal "OnceNamed$Runner" "OnceNamed$Runner" "program" "LOnceNamed$Program;", Cond.laysFinal "OnceNamed$Runner" "OnceNamed$Runner" "form" "LOnceNamed$NamedForm;", Cond.laysFinal "OnceNamed$Runner" "OnceNamed$Runner" "plan" "LOnceNamed$CopyPlan;", Cond.laysFinal "OnceNamed$Runner" "OnceNamed$Runner" "values" "[I", Cond.laysFinal "OnceNamed$Runner" "OnceNamed$Runner" "arriving" "[I", Cond.lays "OnceNamed$Runner" "OnceNamed$Runner" "way" "I"], w ∈ xW
  exact List.forall_mem_cons.mpr ⟨kw_200, List.forall_mem_cons.mpr ⟨kw_202, List.forall_mem_cons.mpr ⟨kw_204, List.forall_mem_cons.mpr ⟨kw_206, List.forall_mem_cons.mpr ⟨kw_208, List.forall_mem_cons.mpr ⟨kw_210, fun _ h => absurd h List.not_mem_nil⟩⟩⟩⟩⟩⟩
def TX6 : u_T := fun k => match k with
  | 0 => ("OnceNamed$Talk", "numbers", "[I", true)
  | 1 => ("OnceNamed$Talk", "size", "I", false)
  | _ => ("OnceNamed$Talk", "outcome", "I", false)
def tyX6 : Nat → FieldType := fun k => match k with
  | 0 => .array .int
  | 1 => .int
  | _ => .int
theorem nmX6 : ∀ a, a < 3 → ∀ b, b < 3 → a ≠ b → (TX6 a).2.1 ≠ (TX6 b).2.1 := by decide +kernel
theorem tyX6_ok : ∀ k, k < 3 → parseFieldDescriptor (TX6 k).2.2.1 = some (tyX6 k) := by decide +kernel
theorem inX6 : ∀ w ∈ u_ws "OnceNamed$Talk" TX6 3, w ∈ xW := by
  show ∀ w ∈ [Cond.laysFinal "OnceNamed$Talk" "OnceNamed$Talk" "numbers" "[I", Cond.lays "OnceNamed$Talk" "OnceNamed$Talk" "size" "I", Cond.lays "OnceNamed$Talk" "OnceNamed$Talk" "outcome" "I"], w ∈ xW
  exact List.forall_mem_cons.mpr ⟨kw_222, List.forall_mem_cons.mpr ⟨kw_224, List.forall_mem_cons.mpr ⟨kw_226, fun _ h => absurd h List.not_mem_nil⟩⟩⟩
abbrev vwCl : List vw_C := [("OnceNamed", TX0, 10), ("OnceNamed$Program", TX1, 10), ("OnceNamed$Graph", TX2, 9), ("OnceNamed$NamedForm", TX3, 14), ("OnceNamed$CopyPlan", TX4, 6), ("OnceNamed$Runner", TX5, 6), ("OnceNamed$Talk", TX6, 3)]
/-- the two calls of a private method of the outer class out of inner ones -/
def xNN (U : State) : Prop := va_Nw (.methodLinkNest "OnceNamed$Graph" 45 yOn_has "OnceNamed") U ∧ va_Nw (.methodLinkNest "OnceNamed$NamedForm" 102 yOn_has "OnceNamed") U
theorem xNN_same {u U : State} (h : u.vm = U.vm) (hN : xNN u) : xNN U := ⟨va_Nw.same rfl h hN.1, va_Nw.same rfl h hN.2⟩
theorem xNN_warm {s U : State} (hW : s.WarmedH U.vm) (hN : xNN s) : xNN U := ⟨va_Nw.warmM hW hN.1, va_Nw.warmM hW hN.2⟩
/-! Words and rows of my own: booleans as ints, worlds at a start and an end, calls with the frame rule in one row -/
def bI (z : Bool) : Int32 := match z with
  | true => 1
  | false => 0
theorem bI_0 {z : Bool} (h : bI z = 0) : z = false := by
  cases z with
  | false => rfl
  | true => exact absurd h (by decide)
theorem bI_1 {z : Bool} (h : ¬ bI z = 0) : z = true := by
  cases z with
  | true => rfl
  | false => exact absurd rfl h
theorem bI_nar (z : Bool) : narrow .boolean (.int (bI z)) = .int (bI z) := by cases z <;> rfl
theorem bI_fit (z : Bool) : fits .boolean (.int (bI z)) = true := by cases z <;> rfl
theorem xsw_out5 {x : Int32} (h2 : ¬ x = 2) (h3 : ¬ x = 3) (h4 : ¬ x = 4) (h5 : ¬ x = 5) (h6 : ¬ x = 6) : x.toInt < 2 ∨ 6 < x.toInt := by
  have a2 := lv_neT h2 (show (2 : Int32).toInt = 2 by decide)
  have a3 := lv_neT h3 (show (3 : Int32).toInt = 3 by decide)
  have a4 := lv_neT h4 (show (4 : Int32).toInt = 4 by decide)
  have a5 := lv_neT h5 (show (5 : Int32).toInt = 5 by decide)
  have a6 := lv_neT h6 (show (6 : Int32).toInt = 6 by decide)
  omega
/-- a world at a method's start -/
def xPc (D : va_G) (cA : ClassId) (WD : va_W) (sz : Nat) (U : State) : Prop := U.heap.size = sz ∧ va_P D vwCl WD U.heap ∧ va_K D vwCl [(cA, .int)] U ∧ va_D (fun _ => True) WD ∧ xNN U
/-- a world at a method's end -/
def xB (D : va_G) (cA : ClassId) (A : Nat → Prop) (WD : va_W) (t : State) : Prop := va_P D vwCl WD t.heap ∧ va_K D vwCl [(cA, .int)] t ∧ va_D A WD
theorem xblind {D : va_G} {cA : ClassId} {WD : va_W} {sz : Nat} {av : List Value} : FrameBlind (va_Pc av (xPc D cA WD sz)) := by
  intro a U g mk q
  obtain ⟨q0, q1, qP, qK, qD, qN⟩ := q
  exact ⟨q0, q1, qP, va_K.moved (u := U) (U := U.calling g mk a) (Vm.Alike.refl U.vm) qK, qD, xNN_same (u := U) (U := U.calling g mk a) rfl qN⟩
theorem xP_sub {D : va_G} {cl : List vw_C} {ws ws' : va_W} {H : Heap} {is : List Nat} (h : va_P D cl ws H) (hC : is.map (fun i => ws[i]?) = ws'.map some) : va_P D cl ws' H := by
  intro k q hk
  have h1 : (is.map (fun i => ws[i]?))[k]? = some (some q) := by rw [hC, List.getElem?_map, hk]; rfl
  rw [List.getElem?_map] at h1
  cases hi : is[k]? with
  | none => rw [hi] at h1; cases h1
  | some i => rw [hi] at h1; exact h i q (Option.some.inj h1)
theorem xpreS {s : State} {H : Heap} {D : va_G} {cA : ClassId} {WD wc : va_W} {A : Nat → Prop} {As : List Value} (hK : va_K D vwCl [(cA, .int)] s) (hP : va_P D vwCl WD H) (hD : va_D A WD) (hN : xNN s) (isC : List Nat) (hC : isC.map (fun i => WD[i]?) = wc.map some) (hn : va_nd isC = true) : PreS s H (va_Pc As (xPc D cA wc H.size)) As :=
  ⟨xblind, fun U hU hW => ⟨rfl, by rw [hU], by rw [hU]; exact xP_sub hP hC, va_K.moved hW.alike hK, (hD.sub isC hn hC).weaken (fun _ _ _ _ => trivial), xNN_warm hW hN⟩⟩
theorem xpreV {s : State} {H : Heap} {D : va_G} {cA : ClassId} {WD wc : va_W} {A : Nat → Prop} {As : List Value} {b ci : Nat} {q : vw_C} {fs : List Value} (hK : va_K D vwCl [(cA, .int)] s) (hP : va_P D vwCl WD H) (hD : va_D A WD) (hN : xNN s) (isC : List Nat) (hC : isC.map (fun i => WD[i]?) = wc.map some) (hn : va_nd isC = true) (q0 : Nat) (he : WD[q0]? = some (b, .inr (ci, fs))) (hc : vwCl[ci]? = some q) : PreV s H q.1 b (va_Pc (.ref b :: As) (xPc D cA wc H.size)) As :=
  ⟨xblind, va_recv hK hP hc he, fun U hU hW => ⟨rfl, by rw [hU], by rw [hU]; exact xP_sub hP hC, va_K.moved hW.alike hK, (hD.sub isC hn hC).weaken (fun _ _ _ _ => trivial), xNN_warm hW hN⟩⟩
section XC
variable {p : Program} {l : Launch} {e : Env} {R : Room} {s : State} {m : MethodId} {args : Array Value} {below : List Frame} {meth : Method} {c : Code} {H : Heap} {locs : List Loc} {cells slots : Nat} {Q : State → Prop}
variable {pc : Nat} {ls : Array Slot} {rest st0 : List Value} {a : Array Value} {A0 : Nat → Prop} {H0 : Heap} {mc ms : Nat} {D : va_G} {cA : ClassId} {WD wc : va_W}
theorem xci {S : Type} {post : Int32 → S → Prop} {w1 : S → va_W}
    (hr : va_Run p l e R s m args below meth c H locs cells slots mc ms (F0 m pc ls st0) rest (va_Qi post (fun u t => xB D cA (va_A wc H.size) (w1 u) t) (va_A wc H.size) a) (va_A wc H.size))
    (hP : va_P D vwCl WD H) (hD : va_D A0 WD) (hS : va_S A0 H0 H locs) (hA : ∀ q, H0.size ≤ q → A0 q) (isC isR : List Nat) (hC : isC.map (fun i => WD[i]?) = wc.map some) (hR : isR.map (fun i => WD[i]?) = (isR.filterMap (fun i => WD[i]?)).map some) (hn : va_nd isR = true) (hdis : (isR.all fun i => !isC.contains i) = true) (isP : List Nat) (hn2 : va_nd isP = true)
    (hP2 : ∀ u, isP.map (fun i => (isR.filterMap (fun i => WD[i]?) ++ w1 u)[i]?) = (isP.filterMap (fun i => (isR.filterMap (fun i => WD[i]?) ++ w1 u)[i]?)).map some)
    (kk : ∀ (r : Int32) (u : S) (H1 : Heap) (locs1 : List Loc), post r u → va_P D vwCl (isP.filterMap (fun i => (isR.filterMap (fun i => WD[i]?) ++ w1 u)[i]?)) H1 → va_D A0 (isP.filterMap (fun i => (isR.filterMap (fun i => WD[i]?) ++ w1 u)[i]?)) → va_S A0 H0 H1 locs1 → W p l e R s m args below meth c H1 locs1 (cells + mc) (slots + ms) Q (F0 m (pc + 3) ls (.int r :: rest))) : W p l e R s m args below meth c H locs cells slots Q (F0 m pc ls st0) := by
  have hFc := va_free hD hS hA isC hC
  refine va_calli hr hS (fun q _ h => hFc q h) hFc (fun r u t H1 locs1 ht hvm hp hB hz hk hS => ?_)
  obtain ⟨hP1, hK1, hD1⟩ := hB
  rw [ht] at hP1
  obtain ⟨hP', hD'⟩ := va_join hP hD isC isR hC hR hn (fun i hi hc => by
    have h1 := List.all_eq_true.mp hdis i hi
    simp at h1
    exact h1 hc) hk hFc hP1 hD1
  exact kk r u H1 locs1 hp (hP'.sub isP rfl) (hD'.sub isP hn2 (hP2 u)) hS
theorem xcv {S : Type} {post : S → Prop} {w1 : S → va_W}
    (hr : va_Run p l e R s m args below meth c H locs cells slots mc ms (F0 m pc ls st0) rest (va_Qv post (fun u t => xB D cA (va_A wc H.size) (w1 u) t) (va_A wc H.size) a) (va_A wc H.size))
    (hP : va_P D vwCl WD H) (hD : va_D A0 WD) (hS : va_S A0 H0 H locs) (hA : ∀ q, H0.size ≤ q → A0 q) (isC isR : List Nat) (hC : isC.map (fun i => WD[i]?) = wc.map some) (hR : isR.map (fun i => WD[i]?) = (isR.filterMap (fun i => WD[i]?)).map some) (hn : va_nd isR = true) (hdis : (isR.all fun i => !isC.contains i) = true) (isP : List Nat) (hn2 : va_nd isP = true)
    (hP2 : ∀ u, isP.map (fun i => (isR.filterMap (fun i => WD[i]?) ++ w1 u)[i]?) = (isP.filterMap (fun i => (isR.filterMap (fun i => WD[i]?) ++ w1 u)[i]?)).map some)
    (kk : ∀ (u : S) (H1 : Heap) (locs1 : List Loc), post u → va_P D vwCl (isP.filterMap (fun i => (isR.filterMap (fun i => WD[i]?) ++ w1 u)[i]?)) H1 → va_D A0 (isP.filterMap (fun i => (isR.filterMap (fun i => WD[i]?) ++ w1 u)[i]?)) → va_S A0 H0 H1 locs1 → W p l e R s m args below meth c H1 locs1 (cells + mc) (slots + ms) Q (F0 m (pc + 3) ls rest)) : W p l e R s m args below meth c H locs cells slots Q (F0 m pc ls st0) := by
  have hFc := va_free hD hS hA isC hC
  refine va_callv hr hS (fun q _ h => hFc q h) hFc (fun u t H1 locs1 ht hvm hp hB hz hk hS => ?_)
  obtain ⟨hP1, hK1, hD1⟩ := hB
  rw [ht] at hP1
  obtain ⟨hP', hD'⟩ := va_join hP hD isC isR hC hR hn (fun i hi hc => by
    have h1 := List.all_eq_true.mp hdis i hi
    simp at h1
    exact h1 hc) hk hFc hP1 hD1
  exact kk u H1 locs1 hp (hP'.sub isP rfl) (hD'.sub isP hn2 (hP2 u)) hS
end XC
end
section
theorem dArrays_fill_0 : decode cArrays_fill 0 = .ok (.iconst 0, 1) := by decide +kernel
theorem dArrays_fill_1 : decode cArrays_fill 1 = .ok (.istore_n 2, 1) := by decide +kernel
theorem dArrays_fill_2 : decode cArrays_fill 2 = .ok (.aload_n 0, 1) := by decide +kernel
theorem dArrays_fill_3 : decode cArrays_fill 3 = .ok (.arraylength, 1) := by decide +kernel
theorem dArrays_fill_4 : decode cArrays_fill 4 = .ok (.istore_n 3, 1) := by decide +kernel
theorem dArrays_fill_5 : decode cArrays_fill 5 = .ok (.iload_n 2, 1) := by decide +kernel
theorem dArrays_fill_6 : decode cArrays_fill 6 = .ok (.iload_n 3, 1) := by decide +kernel
theorem dArrays_fill_7 : decode cArrays_fill 7 = .ok (.if_icmp .ge 13, 3) := by decide +kernel
theorem dArrays_fill_10 : decode cArrays_fill 10 = .ok (.aload_n 0, 1) := by decide +kernel
theorem dArrays_fill_11 : decode cArrays_fill 11 = .ok (.iload_n 2, 1) := by decide +kernel
theorem dArrays_fill_12 : decode cArrays_fill 12 = .ok (.iload_n 1, 1) := by decide +kernel
theorem dArrays_fill_13 : decode cArrays_fill 13 = .ok (.iastore, 1) := by decide +kernel
theorem dArrays_fill_14 : decode cArrays_fill 14 = .ok (.iinc 2 1, 3) := by decide +kernel
theorem dArrays_fill_17 : decode cArrays_fill 17 = .ok (.goto (-12), 3) := by decide +kernel
theorem dArrays_fill_20 : decode cArrays_fill 20 = .ok (.return_, 1) := by decide +kernel
theorem dInteger_bitCount_0 : decode cInteger_bitCount 0 = .ok (.iload_n 0, 1) := by decide +kernel
theorem dInteger_bitCount_1 : decode cInteger_bitCount 1 = .ok (.iload_n 0, 1) := by decide +kernel
theorem dInteger_bitCount_2 : decode cInteger_bitCount 2 = .ok (.iconst 1, 1) := by decide +kernel
theorem dInteger_bitCount_3 : decode cInteger_bitCount 3 = .ok (.iushr, 1) := by decide +kernel
theorem dInteger_bitCount_4 : decode cInteger_bitCount 4 = .ok (.ldc_w 265, 3) := by decide +kernel
theorem dInteger_bitCount_7 : decode cInteger_bitCount 7 = .ok (.iand, 1) := by decide +kernel
theorem dInteger_bitCount_8 : decode cInteger_bitCount 8 = .ok (.isub, 1) := by decide +kernel
theorem dInteger_bitCount_9 : decode cInteger_bitCount 9 = .ok (.istore_n 0, 1) := by decide +kernel
theorem dInteger_bitCount_10 : decode cInteger_bitCount 10 = .ok (.iload_n 0, 1) := by decide +kernel
theorem dInteger_bitCount_11 : decode cInteger_bitCount 11 = .ok (.ldc_w 266, 3) := by decide +kernel
theorem dInteger_bitCount_14 : decode cInteger_bitCount 14 = .ok (.iand, 1) := by decide +kernel
theorem dInteger_bitCount_15 : decode cInteger_bitCount 15 = .ok (.iload_n 0, 1) := by decide +kernel
theorem dInteger_bitCount_16 : decode cInteger_bitCount 16 = .ok (.iconst 2, 1) := by decide +kernel
theorem dInteger_bitCount_17 : decode cInteger_bitCount 17 = .ok (.iushr, 1) := by decide +kernel
theorem dInteger_bitCount_18 : decode cInteger_bitCount 18 = .ok (.ldc_w 266, 3) := by decide +kernel
theorem dInteger_bitCount_21 : decode cInteger_bitCount 21 = .ok (.iand, 1) := by decide +kernel
theorem dInteger_bitCount_22 : decode cInteger_bitCount 22 = .ok (.iadd, 1) := by decide +kernel
theorem dInteger_bitCount_23 : decode cInteger_bitCount 23 = .ok (.istore_n 0, 1) := by decide +kernel
theorem dInteger_bitCount_24 : decode cInteger_bitCount 24 = .ok (.iload_n 0, 1) := by decide +kernel
theorem dInteger_bitCount_25 : decode cInteger_bitCount 25 = .ok (.iload_n 0, 1) := by decide +kernel
theorem dInteger_bitCount_26 : decode cInteger_bitCount 26 = .ok (.iconst 4, 1) := by decide +kernel
theorem dInteger_bitCount_27 : decode cInteger_bitCount 27 = .ok (.iushr, 1) := by decide +kernel
theorem dInteger_bitCount_28 : decode cInteger_bitCount 28 = .ok (.iadd, 1) := by decide +kernel
theorem dInteger_bitCount_29 : decode cInteger_bitCount 29 = .ok (.ldc_w 267, 3) := by decide +kernel
theorem dInteger_bitCount_32 : decode cInteger_bitCount 32 = .ok (.iand, 1) := by decide +kernel
theorem dInteger_bitCount_33 : decode cInteger_bitCount 33 = .ok (.istore_n 0, 1) := by decide +kernel
theorem dInteger_bitCount_34 : decode cInteger_bitCount 34 = .ok (.iload_n 0, 1) := by decide +kernel
theorem dInteger_bitCount_35 : decode cInteger_bitCount 35 = .ok (.iload_n 0, 1) := by decide +kernel
theorem dInteger_bitCount_36 : decode cInteger_bitCount 36 = .ok (.bipush 8, 2) := by decide +kernel
theorem dInteger_bitCount_38 : decode cInteger_bitCount 38 = .ok (.iushr, 1) := by decide +kernel
theorem dInteger_bitCount_39 : decode cInteger_bitCount 39 = .ok (.iadd, 1) := by decide +kernel
theorem dInteger_bitCount_40 : decode cInteger_bitCount 40 = .ok (.istore_n 0, 1) := by decide +kernel
theorem dInteger_bitCount_41 : decode cInteger_bitCount 41 = .ok (.iload_n 0, 1) := by decide +kernel
theorem dInteger_bitCount_42 : decode cInteger_bitCount 42 = .ok (.iload_n 0, 1) := by decide +kernel
theorem dInteger_bitCount_43 : decode cInteger_bitCount 43 = .ok (.bipush 16, 2) := by decide +kernel
theorem dInteger_bitCount_45 : decode cInteger_bitCount 45 = .ok (.iushr, 1) := by decide +kernel
theorem dInteger_bitCount_46 : decode cInteger_bitCount 46 = .ok (.iadd, 1) := by decide +kernel
theorem dInteger_bitCount_47 : decode cInteger_bitCount 47 = .ok (.istore_n 0, 1) := by decide +kernel
theorem dInteger_bitCount_48 : decode cInteger_bitCount 48 = .ok (.iload_n 0, 1) := by decide +kernel
theorem dInteger_bitCount_49 : decode cInteger_bitCount 49 = .ok (.bipush 63, 2) := by decide +kernel
theorem dInteger_bitCount_51 : decode cInteger_bitCount 51 = .ok (.iand, 1) := by decide +kernel
theorem dInteger_bitCount_52 : decode cInteger_bitCount 52 = .ok (.ireturn, 1) := by decide +kernel
theorem dOn_has_0 : decode cOn_has 0 = .ok (.iload_n 0, 1) := by decide +kernel
theorem dOn_has_1 : decode cOn_has 1 = .ok (.iload_n 1, 1) := by decide +kernel
theorem dOn_has_2 : decode cOn_has 2 = .ok (.ishr, 1) := by decide +kernel
theorem dOn_has_3 : decode cOn_has 3 = .ok (.iconst 1, 1) := by decide +kernel
theorem dOn_has_4 : decode cOn_has 4 = .ok (.iand, 1) := by decide +kernel
theorem dOn_has_5 : decode cOn_has 5 = .ok (.ifCond .eq 7, 3) := by decide +kernel
theorem dOn_has_8 : decode cOn_has 8 = .ok (.iconst 1, 1) := by decide +kernel
theorem dOn_has_9 : decode cOn_has 9 = .ok (.goto 4, 3) := by decide +kernel
theorem dOn_has_12 : decode cOn_has 12 = .ok (.iconst 0, 1) := by decide +kernel
theorem dOn_has_13 : decode cOn_has 13 = .ok (.ireturn, 1) := by decide +kernel
end
section
def lpArrays_fill_5 (R0n : Nat) (v1 : Int32) (v3 : Int32) (post : (Nat → Int32) → Prop)  : Nat → Int32 → (Nat → Int32) → Prop
  | 0 => fun _ _ => False
  | k5 + 1 => fun v2 R0c => ((v3 ≤ v2 → (post R0c)) ∧ (¬ v3 ≤ v2 → vp_in v2 R0n ∧ (lpArrays_fill_5 R0n v1 v3 post k5 (v2 + 1) (upd R0c (Int32.toNatClampNeg v2) v1))))
def wpArrays_fill (R0n : Nat) (R0c : Nat → Int32) (v1 : Int32) (post : (Nat → Int32) → Prop) : Prop := ∀ v3_4 : Int32, v3_4 = (nI R0n) → (∃ k5 : Nat, lpArrays_fill_5 R0n v1 v3_4 post k5 0 R0c)
def wpInteger_bitCount (v0 : Int32) (post : Int32 → Prop) : Prop := ∀ v0_9 : Int32, v0_9 = (v0 - ((v0.toUInt32 >>> ((1 : Int32).toUInt32 &&& Int32.toUInt32 31)).toInt32 &&& 1431655765)) → ∀ v0_23 : Int32, v0_23 = ((v0_9 &&& 858993459) + ((v0_9.toUInt32 >>> ((2 : Int32).toUInt32 &&& Int32.toUInt32 31)).toInt32 &&& 858993459)) → ∀ v0_33 : Int32, v0_33 = ((v0_23 + (v0_23.toUInt32 >>> ((4 : Int32).toUInt32 &&& Int32.toUInt32 31)).toInt32) &&& 252645135) → ∀ v0_40 : Int32, v0_40 = (v0_33 + (v0_33.toUInt32 >>> ((8 : Int32).toUInt32 &&& Int32.toUInt32 31)).toInt32) → ∀ v0_47 : Int32, v0_47 = (v0_40 + (v0_40.toUInt32 >>> ((16 : Int32).toUInt32 &&& Int32.toUInt32 31)).toInt32) → (post (v0_47 &&& 63))
def wpOn_has (v0 : Int32) (v1 : Int32) (post : Bool → Prop) : Prop := ((((v0 >>> (v1 &&& 31)) &&& 1) = 0 → (post false)) ∧ (¬ ((v0 >>> (v1 &&& 31)) &&& 1) = 0 → (post true)))
end
section
abbrev wdArrays_fill (cA : ClassId) (ad : Nat → Nat) (N : Nat) (R0a : Nat) (R0n : Nat) (R0c : Nat → Int32) : va_W := [(R0a, .inl (cA, R0n, .inl R0c))]
abbrev qcArrays_fill (D : va_G) (cA : ClassId) (ad : Nat → Nat) (N : Nat) (R0a : Nat) (R0n : Nat) (R0c : Nat → Int32) (post : (Nat → Int32) → Prop) (A : Nat → Prop) : Array Value → State → Outcome → State → Prop := va_Qv (S := (Nat → Int32)) (fun u => post u) (fun u t => xB D cA A (wdArrays_fill cA ad N R0a R0n u) t) A
abbrev rmArrays_fill : Room := { frames := 0, cells := 0, slots := 0, locals := 0 }
set_option maxHeartbeats 4000000 in
set_option maxRecDepth 100000 in
theorem ktArrays_fill (l : Launch) (D : va_G) (cA : ClassId) (ad : Nat → Nat) (N : Nat) (R0a : Nat) (R0n : Nat) (sz : Nat) (R0c : Nat → Int32) (v1 : Int32) (post : (Nat → Int32) → Prop) (hw : wpArrays_fill R0n R0c v1 post) : Met l yArrays_fill (Cond.code yArrays_fill cArrays_fill 4 none :: xW) rmArrays_fill (va_Pc [.ref R0a, .int v1] (xPc D cA (wdArrays_fill cA ad N R0a R0n R0c) sz)) (qcArrays_fill D cA ad N R0a R0n R0c post (va_A (wdArrays_fill cA ad N R0a R0n R0c) sz)) 0 0 (va_A (wdArrays_fill cA ad N R0a R0n R0c) sz) := by
  refine va_MetF (cc := cArrays_fill) (maxL := 4) (ret := none) (by decide) rfl ?_
  intro p e s m args below meth c s₁ B hml hv
  obtain ⟨rfl, hsz, hP, hK, hD0, hN⟩ := hv
  have hx := B.exec
  have hb := B.bytes
  have hr := B.returns
  have hts := atoms_spec (ws := (Cond.code yArrays_fill cArrays_fill 4 none :: xW)) B.pre
  have hown : s.vm.findClass "java/util/Arrays" = some m.cls := findClass_of_methodNamed B.named
  have hlocks := B.notSynchronized
  subst hsz
  have hD := hD0.self (sz := s.heap.size)
  generalize hAe : va_A (wdArrays_fill cA ad N R0a R0n R0c) s.heap.size = A at hD ⊢
  have hA : ∀ q : Nat, s.heap.size ≤ q → A q := fun q h => by rw [← hAe]; exact Or.inr h
  have hS : va_S A s.heap s.heap [] := va_S.rf
  have hend : ∀ (u0 : Nat → Int32) (H : Heap) (locs : List Loc) (pc : Nat) (ls : Array Slot), decode cArrays_fill pc = .ok (.return_, 1) → va_P D vwCl (wdArrays_fill cA ad N R0a R0n u0) H → va_D A (wdArrays_fill cA ad N R0a R0n u0) → va_S A s.heap H locs → post u0 → W p l e (headSpec (Cond.code yArrays_fill cArrays_fill 4 none :: xW) rmArrays_fill).room s m ([.ref R0a, .int v1] : List Value).toArray below meth c H locs 0 0 (MQ below (qcArrays_fill D cA ad N R0a R0n R0c post A) ([.ref R0a, .int v1] : List Value).toArray s 0 0 A) (F0 m pc ls []) := fun u0 H locs pc ls hd hP hD hS hw => W.vret hx hb hr (fun t ht hW => ⟨⟨u0, rfl, hw, ⟨by rw [ht]; exact hP, va_K.moved hW.alike hK, hD⟩⟩, hS.F ht⟩) hS.2.2 hd
  generalize hQ : MQ below (qcArrays_fill D cA ad N R0a R0n R0c post A) ([.ref R0a, .int v1] : List Value).toArray s 0 0 A = Q at hend ⊢
  have hl := lv_entry ([.ref R0a, .int v1]) (n := 4) (Nat.le_of_ble_eq_true rfl)
  rw [lg_entry_eq]
  generalize (lg_sl ([.ref R0a, .int v1]) ++ List.replicate (4 - (lg_sl ([.ref R0a, .int v1])).length) Slot.unset).toArray = ls at hl ⊢
  have hl : lv_has ls 4 [(0, .ref R0a), (1, .int v1)] := hl
  unfold wpArrays_fill at hw
  refine lv_iconst (v := 0) hx hb dArrays_fill_0 (by decide) ?_
  refine lv_istore_n (lv' := [(2, .int 0), (0, .ref R0a), (1, .int v1)]) hx hb dArrays_fill_1 rfl hl (by decide) rfl (fun ls hl => ?_)
  refine lv_aload_n hx hb dArrays_fill_2 rfl (lv_at hl 1 rfl) ?_
  refine va_alen (v := nI R0n) hx hb hK hP 0 0 rfl rfl rfl dArrays_fill_3 ?_
  refine lv_topi (fun v3_4 e_v3_4 => ?_)
  have hw := hw v3_4 e_v3_4
  refine lv_istore_n (lv' := [(3, .int v3_4), (2, .int 0), (0, .ref R0a), (1, .int v1)]) hx hb dArrays_fill_4 rfl hl (by decide) rfl (fun ls hl => ?_)
  obtain ⟨k5, hw⟩ := hw
  have hlp5 : ∀ (k : Nat), ∀ (v2_L5 : Int32) (R0c_L5 : Nat → Int32) (ls : Array Slot) (H : Heap) (locs : List Loc), lv_has ls 4 [(0, .ref R0a), (1, .int v1), (2, .int v2_L5), (3, .int v3_4)] → va_P D vwCl (wdArrays_fill cA ad N R0a R0n R0c_L5) H → va_D A (wdArrays_fill cA ad N R0a R0n R0c_L5) → va_S A s.heap H locs → lpArrays_fill_5 R0n v1 v3_4 post k v2_L5 R0c_L5 → W p l e (headSpec (Cond.code yArrays_fill cArrays_fill 4 none :: xW) rmArrays_fill).room s m ([.ref R0a, .int v1] : List Value).toArray below meth c H locs 0 0 Q (F0 m 5 ls []) := by
    intro k
    induction k with
    | zero => intro v2_L5 R0c_L5 ls H locs hl hP hD hS hw; exact False.elim hw
    | succ k ih =>
      intro v2_L5 R0c_L5 ls H locs hl hP hD hS hw
      refine lv_iload_n hx hb dArrays_fill_5 rfl (lv_at hl 2 rfl) ?_
      refine lv_iload_n hx hb dArrays_fill_6 rfl (lv_at hl 3 rfl) ?_
      refine lv_icmp_ge (tgt := 20) hx hb dArrays_fill_7 rfl (fun hc => ?_) (fun hc => ?_)
      · have hw := hw.1 hc
        exact hend R0c_L5 _ _ _ _ dArrays_fill_20 hP hD hS hw
      · have hw := hw.2 hc
        refine lv_aload_n hx hb dArrays_fill_10 rfl (lv_at hl 0 rfl) ?_
        refine lv_iload_n hx hb dArrays_fill_11 rfl (lv_at hl 2 rfl) ?_
        refine lv_iload_n hx hb dArrays_fill_12 rfl (lv_at hl 1 rfl) ?_
        have ho := hw.1
        have hw := hw.2
        refine va_iast hx hb hK hP hD hS 0 0 rfl rfl ho dArrays_fill_13 (fun H locs hP hD hS => ?_)
        have hP : va_P D vwCl (wdArrays_fill cA ad N R0a R0n (upd R0c_L5 (Int32.toNatClampNeg v2_L5) v1)) H := hP
        have hD : va_D A (wdArrays_fill cA ad N R0a R0n (upd R0c_L5 (Int32.toNatClampNeg v2_L5) v1)) := hD
        refine lv_iinc (k := 2) (v := (v2_L5 + 1)) (lv' := [(2, .int (v2_L5 + 1)), (0, .ref R0a), (1, .int v1), (3, .int v3_4)]) hx hb dArrays_fill_14 hl rfl rfl (by decide) rfl (fun ls hl => ?_)
        refine lv_goto (tgt := 5) hx hb dArrays_fill_17 rfl ?_
        exact ih (v2_L5 + 1) (upd R0c_L5 (Int32.toNatClampNeg v2_L5) v1) _ _ _ (lv_sub hl [1, 2, 0, 3] rfl) hP hD hS hw
  refine hlp5 k5 0 R0c _ _ _ (lv_sub hl [2, 3, 1, 0] rfl) hP hD hS hw
abbrev wdInteger_bitCount (cA : ClassId) (ad : Nat → Nat) (N : Nat)  : va_W := []
abbrev qcInteger_bitCount (D : va_G) (cA : ClassId) (ad : Nat → Nat) (N : Nat)  (post : Int32 → Prop) (A : Nat → Prop) : Array Value → State → Outcome → State → Prop := va_Qi (S := Unit) (fun r u => post r ) (fun u t => xB D cA A (wdInteger_bitCount cA ad N) t) A
abbrev rmInteger_bitCount : Room := { frames := 0, cells := 0, slots := 0, locals := 0 }
set_option maxHeartbeats 4000000 in
set_option maxRecDepth 100000 in
theorem ktInteger_bitCount (l : Launch) (D : va_G) (cA : ClassId) (ad : Nat → Nat) (N : Nat) (sz : Nat)  (v0 : Int32) (post : Int32 → Prop) (hw : wpInteger_bitCount v0 post) : Met l yInteger_bitCount (Cond.code yInteger_bitCount cInteger_bitCount 1 (some .int) :: xW) rmInteger_bitCount (va_Pc [.int v0] (xPc D cA (wdInteger_bitCount cA ad N) sz)) (qcInteger_bitCount D cA ad N  post (va_A (wdInteger_bitCount cA ad N) sz)) 0 0 (va_A (wdInteger_bitCount cA ad N) sz) := by
  refine va_MetF (cc := cInteger_bitCount) (maxL := 1) (ret := (some .int)) (by decide) rfl ?_
  intro p e s m args below meth c s₁ B hml hv
  obtain ⟨rfl, hsz, hP, hK, hD0, hN⟩ := hv
  have hx := B.exec
  have hb := B.bytes
  have hr := B.returns
  have hts := atoms_spec (ws := (Cond.code yInteger_bitCount cInteger_bitCount 1 (some .int) :: xW)) B.pre
  have hown : s.vm.findClass "java/lang/Integer" = some m.cls := findClass_of_methodNamed B.named
  have hlocks := B.notSynchronized
  subst hsz
  have hD := hD0.self (sz := s.heap.size)
  generalize hAe : va_A (wdInteger_bitCount cA ad N) s.heap.size = A at hD ⊢
  have hA : ∀ q : Nat, s.heap.size ≤ q → A q := fun q h => by rw [← hAe]; exact Or.inr h
  have hS : va_S A s.heap s.heap [] := va_S.rf
  have hend : ∀ (r : Int32)  (H : Heap) (locs : List Loc) (pc : Nat) (ls : Array Slot), decode cInteger_bitCount pc = .ok (.ireturn, 1) → va_P D vwCl (wdInteger_bitCount cA ad N) H → va_D A (wdInteger_bitCount cA ad N) → va_S A s.heap H locs → post r  → W p l e (headSpec (Cond.code yInteger_bitCount cInteger_bitCount 1 (some .int) :: xW) rmInteger_bitCount).room s m ([.int v0] : List Value).toArray below meth c H locs 0 0 (MQ below (qcInteger_bitCount D cA ad N  post A) ([.int v0] : List Value).toArray s 0 0 A) (F0 m pc ls [.int r]) := fun r  H locs pc ls hd hP hD hS hw => W.iret (v := r) hx hb hr (fun t ht hW => ⟨⟨r, (), rfl, hw, ⟨by rw [ht]; exact hP, va_K.moved hW.alike hK, hD⟩⟩, hS.F ht⟩) hS.2.2 hd
  generalize hQ : MQ below (qcInteger_bitCount D cA ad N  post A) ([.int v0] : List Value).toArray s 0 0 A = Q at hend ⊢
  have hl := lv_entry ([.int v0]) (n := 1) (Nat.le_of_ble_eq_true rfl)
  rw [lg_entry_eq]
  generalize (lg_sl ([.int v0]) ++ List.replicate (1 - (lg_sl ([.int v0])).length) Slot.unset).toArray = ls at hl ⊢
  have hl : lv_has ls 1 [(0, .int v0)] := hl
  unfold wpInteger_bitCount at hw
  refine lv_iload_n hx hb dInteger_bitCount_0 rfl (lv_at hl 0 rfl) ?_
  refine lv_iload_n hx hb dInteger_bitCount_1 rfl (lv_at hl 0 rfl) ?_
  refine lv_iconst (v := 1) hx hb dInteger_bitCount_2 (by decide) ?_
  refine lv_iushr (v := (v0.toUInt32 >>> ((1 : Int32).toUInt32 &&& Int32.toUInt32 31)).toInt32) hx hb dInteger_bitCount_3 rfl ?_
  refine lv_ldcw (v := 1431655765) hx hb hown (hts _ (List.mem_cons_of_mem _ kw_256)) dInteger_bitCount_4 ?_
  refine lv_iand hx hb dInteger_bitCount_7 ?_
  refine lv_isub hx hb dInteger_bitCount_8 ?_
  refine lv_topi (fun v0_9 e_v0_9 => ?_)
  have hw := hw v0_9 e_v0_9
  refine lv_istore_n (lv' := [(0, .int v0_9)]) hx hb dInteger_bitCount_9 rfl hl (by decide) rfl (fun ls hl => ?_)
  refine lv_iload_n hx hb dInteger_bitCount_10 rfl (lv_at hl 0 rfl) ?_
  refine lv_ldcw (v := 858993459) hx hb hown (hts _ (List.mem_cons_of_mem _ kw_257)) dInteger_bitCount_11 ?_
  refine lv_iand hx hb dInteger_bitCount_14 ?_
  refine lv_iload_n hx hb dInteger_bitCount_15 rfl (lv_at hl 0 rfl) ?_
  refine lv_iconst (v := 2) hx hb dInteger_bitCount_16 (by decide) ?_
  refine lv_iushr (v := (v0_9.toUInt32 >>> ((2 : Int32).toUInt32 &&& Int32.toUInt32 31)).toInt32) hx hb dInteger_bitCount_17 rfl ?_
  refine lv_ldcw (v := 858993459) hx hb hown (hts _ (List.mem_cons_of_mem _ kw_257)) dInteger_bitCount_18 ?_
  refine lv_iand hx hb dInteger_bitCount_21 ?_
  refine lv_iadd hx hb dInteger_bitCount_22 ?_
  refine lv_topi (fun v0_23 e_v0_23 => ?_)
  have hw := hw v0_23 e_v0_23
  refine lv_istore_n (lv' := [(0, .int v0_23)]) hx hb dInteger_bitCount_23 rfl hl (by decide) rfl (fun ls hl => ?_)
  refine lv_iload_n hx hb dInteger_bitCount_24 rfl (lv_at hl 0 rfl) ?_
  refine lv_iload_n hx hb dInteger_bitCount_25 rfl (lv_at hl 0 rfl) ?_
  refine lv_iconst (v := 4) hx hb dInteger_bitCount_26 (by decide) ?_
  refine lv_iushr (v := (v0_23.toUInt32 >>> ((4 : Int32).toUInt32 &&& Int32.toUInt32 31)).toInt32) hx hb dInteger_bitCount_27 rfl ?_
  refine lv_iadd hx hb dInteger_bitCount_28 ?_
  refine lv_ldcw (v := 252645135) hx hb hown (hts _ (List.mem_cons_of_mem _ kw_258)) dInteger_bitCount_29 ?_
  refine lv_iand hx hb dInteger_bitCount_32 ?_
  refine lv_topi (fun v0_33 e_v0_33 => ?_)
  have hw := hw v0_33 e_v0_33
  refine lv_istore_n (lv' := [(0, .int v0_33)]) hx hb dInteger_bitCount_33 rfl hl (by decide) rfl (fun ls hl => ?_)
  refine lv_iload_n hx hb dInteger_bitCount_34 rfl (lv_at hl 0 rfl) ?_
  refine lv_iload_n hx hb dInteger_bitCount_35 rfl (lv_at hl 0 rfl) ?_
  refine lv_bipush (v := 8) hx hb dInteger_bitCount_36 (by decide) ?_
  refine lv_iushr (v := (v0_33.toUInt32 >>> ((8 : Int32).toUInt32 &&& Int32.toUInt32 31)).toInt32) hx hb dInteger_bitCount_38 rfl ?_
  refine lv_iadd hx hb dInteger_bitCount_39 ?_
  refine lv_topi (fun v0_40 e_v0_40 => ?_)
  have hw := hw v0_40 e_v0_40
  refine lv_istore_n (lv' := [(0, .int v0_40)]) hx hb dInteger_bitCount_40 rfl hl (by decide) rfl (fun ls hl => ?_)
  refine lv_iload_n hx hb dInteger_bitCount_41 rfl (lv_at hl 0 rfl) ?_
  refine lv_iload_n hx hb dInteger_bitCount_42 rfl (lv_at hl 0 rfl) ?_
  refine lv_bipush (v := 16) hx hb dInteger_bitCount_43 (by decide) ?_
  refine lv_iushr (v := (v0_40.toUInt32 >>> ((16 : Int32).toUInt32 &&& Int32.toUInt32 31)).toInt32) hx hb dInteger_bitCount_45 rfl ?_
  refine lv_iadd hx hb dInteger_bitCount_46 ?_
  refine lv_topi (fun v0_47 e_v0_47 => ?_)
  have hw := hw v0_47 e_v0_47
  refine lv_istore_n (lv' := [(0, .int v0_47)]) hx hb dInteger_bitCount_47 rfl hl (by decide) rfl (fun ls hl => ?_)
  refine lv_iload_n hx hb dInteger_bitCount_48 rfl (lv_at hl 0 rfl) ?_
  refine lv_bipush (v := 63) hx hb dInteger_bitCount_49 (by decide) ?_
  refine lv_iand hx hb dInteger_bitCount_51 ?_
  exact hend (v0_47 &&& 63) _ _ _ _ dInteger_bitCount_52 hP hD hS hw
abbrev wdOn_has (cA : ClassId) (ad : Nat → Nat) (N : Nat)  : va_W := []
abbrev qcOn_has (D : va_G) (cA : ClassId) (ad : Nat → Nat) (N : Nat)  (post : Bool → Prop) (A : Nat → Prop) : Array Value → State → Outcome → State → Prop := va_Qi (S := Unit) (fun r u => ∃ z : Bool, r = bI z ∧ post z ) (fun u t => xB D cA A (wdOn_has cA ad N) t) A
abbrev rmOn_has : Room := { frames := 0, cells := 0, slots := 0, locals := 0 }
set_option maxHeartbeats 4000000 in
set_option maxRecDepth 100000 in
theorem ktOn_has (l : Launch) (D : va_G) (cA : ClassId) (ad : Nat → Nat) (N : Nat) (sz : Nat)  (v0 : Int32) (v1 : Int32) (post : Bool → Prop) (hw : wpOn_has v0 v1 post) : Met l yOn_has (Cond.code yOn_has cOn_has 2 (some .boolean) :: xW) rmOn_has (va_Pc [.int v0, .int v1] (xPc D cA (wdOn_has cA ad N) sz)) (qcOn_has D cA ad N  post (va_A (wdOn_has cA ad N) sz)) 0 0 (va_A (wdOn_has cA ad N) sz) := by
  refine Met.ofW (cc := cOn_has) (maxL := 2) (ret := (some .boolean)) (by decide) rfl ?_
  intro p e s m args below meth c s₁ B hml hv
  obtain ⟨rfl, hsz, hP, hK, hD0, hN⟩ := hv
  have hx := B.exec
  have hb := B.bytes
  have hr := B.returns
  have hts := atoms_spec (ws := (Cond.code yOn_has cOn_has 2 (some .boolean) :: xW)) B.pre
  have hown : s.vm.findClass "OnceNamed" = some m.cls := findClass_of_methodNamed B.named
  have hlocks := B.notSynchronized
  subst hsz
  have hD := hD0.self (sz := s.heap.size)
  generalize hAe : va_A (wdOn_has cA ad N) s.heap.size = A at hD ⊢
  have hA : ∀ q : Nat, s.heap.size ≤ q → A q := fun q h => by rw [← hAe]; exact Or.inr h
  have hS : va_S A s.heap s.heap [] := va_S.rf
  have hend : ∀ (r : Bool)  (H : Heap) (locs : List Loc) (pc : Nat) (ls : Array Slot), decode cOn_has pc = .ok (.ireturn, 1) → va_P D vwCl (wdOn_has cA ad N) H → va_D A (wdOn_has cA ad N) → va_S A s.heap H locs → post r  → W p l e (headSpec (Cond.code yOn_has cOn_has 2 (some .boolean) :: xW) rmOn_has).room s m ([.int v0, .int v1] : List Value).toArray below meth c H locs 0 0 (MQ below (qcOn_has D cA ad N  post A) ([.int v0, .int v1] : List Value).toArray s 0 0 A) (F0 m pc ls [.int (bI r)]) := fun r  H locs pc ls hd hP hD hS hw => W.zret (v := bI r) hx hb hr (bI_nar r) (fun t ht hW => ⟨⟨bI r, (), rfl, ⟨r, rfl, hw⟩, ⟨by rw [ht]; exact hP, va_K.moved hW.alike hK, hD⟩⟩, hS.F ht⟩) hS.2.2 hd
  generalize hQ : MQ below (qcOn_has D cA ad N  post A) ([.int v0, .int v1] : List Value).toArray s 0 0 A = Q at hend ⊢
  have hl := lv_entry ([.int v0, .int v1]) (n := 2) (Nat.le_of_ble_eq_true rfl)
  rw [lg_entry_eq]
  generalize (lg_sl ([.int v0, .int v1]) ++ List.replicate (2 - (lg_sl ([.int v0, .int v1])).length) Slot.unset).toArray = ls at hl ⊢
  have hl : lv_has ls 2 [(0, .int v0), (1, .int v1)] := hl
  unfold wpOn_has at hw
  refine lv_iload_n hx hb dOn_has_0 rfl (lv_at hl 0 rfl) ?_
  refine lv_iload_n hx hb dOn_has_1 rfl (lv_at hl 1 rfl) ?_
  refine lv_ishr hx hb dOn_has_2 ?_
  refine lv_iconst (v := 1) hx hb dOn_has_3 (by decide) ?_
  refine lv_iand hx hb dOn_has_4 ?_
  refine lv_if_eq (tgt := 12) hx hb dOn_has_5 rfl (fun hc => ?_) (fun hc => ?_)
  · have hw := hw.1 hc
    refine lv_iconst (v := 0) hx hb dOn_has_12 (by decide) ?_
    exact hend false _ _ _ _ dOn_has_13 hP hD hS hw
  · have hw := hw.2 hc
    refine lv_iconst (v := 1) hx hb dOn_has_8 (by decide) ?_
    refine lv_goto (tgt := 13) hx hb dOn_has_9 rfl ?_
    exact hend true _ _ _ _ dOn_has_13 hP hD hS hw
end
section
theorem dProgram_setsVariable_0 : decode cProgram_setsVariable 0 = .ok (.iload_n 0, 1) := by decide +kernel
theorem dProgram_setsVariable_1 : decode cProgram_setsVariable 1 = .ok (.bipush 7, 2) := by decide +kernel
theorem dProgram_setsVariable_3 : decode cProgram_setsVariable 3 = .ok (.if_icmp .eq 7, 3) := by decide +kernel
theorem dProgram_setsVariable_6 : decode cProgram_setsVariable 6 = .ok (.iconst 1, 1) := by decide +kernel
theorem dProgram_setsVariable_7 : decode cProgram_setsVariable 7 = .ok (.goto 4, 3) := by decide +kernel
theorem dProgram_setsVariable_10 : decode cProgram_setsVariable 10 = .ok (.iconst 0, 1) := by decide +kernel
theorem dProgram_setsVariable_11 : decode cProgram_setsVariable 11 = .ok (.ireturn, 1) := by decide +kernel
theorem dProgram_usesFirst_0 : decode cProgram_usesFirst 0 = .ok (.iload_n 0, 1) := by decide +kernel
theorem dProgram_usesFirst_1 : decode cProgram_usesFirst 1 = .ok (.ifCond .eq 7, 3) := by decide +kernel
theorem dProgram_usesFirst_4 : decode cProgram_usesFirst 4 = .ok (.iconst 1, 1) := by decide +kernel
theorem dProgram_usesFirst_5 : decode cProgram_usesFirst 5 = .ok (.goto 4, 3) := by decide +kernel
theorem dProgram_usesFirst_8 : decode cProgram_usesFirst 8 = .ok (.iconst 0, 1) := by decide +kernel
theorem dProgram_usesFirst_9 : decode cProgram_usesFirst 9 = .ok (.ireturn, 1) := by decide +kernel
theorem dProgram_usesSecond_0 : decode cProgram_usesSecond 0 = .ok (.iload_n 0, 1) := by decide +kernel
theorem dProgram_usesSecond_1 : decode cProgram_usesSecond 1 = .ok (.iconst 2, 1) := by decide +kernel
theorem dProgram_usesSecond_2 : decode cProgram_usesSecond 2 = .ok (.if_icmp .lt 13, 3) := by decide +kernel
theorem dProgram_usesSecond_5 : decode cProgram_usesSecond 5 = .ok (.iload_n 0, 1) := by decide +kernel
theorem dProgram_usesSecond_6 : decode cProgram_usesSecond 6 = .ok (.bipush 6, 2) := by decide +kernel
theorem dProgram_usesSecond_8 : decode cProgram_usesSecond 8 = .ok (.if_icmp .gt 7, 3) := by decide +kernel
theorem dProgram_usesSecond_11 : decode cProgram_usesSecond 11 = .ok (.iconst 1, 1) := by decide +kernel
theorem dProgram_usesSecond_12 : decode cProgram_usesSecond 12 = .ok (.goto 4, 3) := by decide +kernel
theorem dProgram_usesSecond_15 : decode cProgram_usesSecond 15 = .ok (.iconst 0, 1) := by decide +kernel
theorem dProgram_usesSecond_16 : decode cProgram_usesSecond 16 = .ok (.ireturn, 1) := by decide +kernel
theorem dProgram_blockCount_0 : decode cProgram_blockCount 0 = .ok (.aload_n 0, 1) := by decide +kernel
theorem dProgram_blockCount_1 : decode cProgram_blockCount 1 = .ok (.getfield 9, 3) := by decide +kernel
theorem dProgram_blockCount_4 : decode cProgram_blockCount 4 = .ok (.ireturn, 1) := by decide +kernel
theorem dProgram_stepsOf_0 : decode cProgram_stepsOf 0 = .ok (.aload_n 0, 1) := by decide +kernel
theorem dProgram_stepsOf_1 : decode cProgram_stepsOf 1 = .ok (.getfield 15, 3) := by decide +kernel
theorem dProgram_stepsOf_4 : decode cProgram_stepsOf 4 = .ok (.iload_n 1, 1) := by decide +kernel
theorem dProgram_stepsOf_5 : decode cProgram_stepsOf 5 = .ok (.iaload, 1) := by decide +kernel
theorem dProgram_stepsOf_6 : decode cProgram_stepsOf 6 = .ok (.ireturn, 1) := by decide +kernel
theorem dProgram_addStep_0 : decode cProgram_addStep 0 = .ok (.iload_n 1, 1) := by decide +kernel
theorem dProgram_addStep_1 : decode cProgram_addStep 1 = .ok (.bipush 6, 2) := by decide +kernel
theorem dProgram_addStep_3 : decode cProgram_addStep 3 = .ok (.imul, 1) := by decide +kernel
theorem dProgram_addStep_4 : decode cProgram_addStep 4 = .ok (.aload_n 0, 1) := by decide +kernel
theorem dProgram_addStep_5 : decode cProgram_addStep 5 = .ok (.getfield 15, 3) := by decide +kernel
theorem dProgram_addStep_8 : decode cProgram_addStep 8 = .ok (.iload_n 1, 1) := by decide +kernel
theorem dProgram_addStep_9 : decode cProgram_addStep 9 = .ok (.iaload, 1) := by decide +kernel
theorem dProgram_addStep_10 : decode cProgram_addStep 10 = .ok (.iadd, 1) := by decide +kernel
theorem dProgram_addStep_11 : decode cProgram_addStep 11 = .ok (.istore 6, 2) := by decide +kernel
theorem dProgram_addStep_13 : decode cProgram_addStep 13 = .ok (.aload_n 0, 1) := by decide +kernel
theorem dProgram_addStep_14 : decode cProgram_addStep 14 = .ok (.getfield 19, 3) := by decide +kernel
theorem dProgram_addStep_17 : decode cProgram_addStep 17 = .ok (.iload 6, 2) := by decide +kernel
theorem dProgram_addStep_19 : decode cProgram_addStep 19 = .ok (.iload_n 2, 1) := by decide +kernel
theorem dProgram_addStep_20 : decode cProgram_addStep 20 = .ok (.iastore, 1) := by decide +kernel
theorem dProgram_addStep_21 : decode cProgram_addStep 21 = .ok (.aload_n 0, 1) := by decide +kernel
theorem dProgram_addStep_22 : decode cProgram_addStep 22 = .ok (.getfield 22, 3) := by decide +kernel
theorem dProgram_addStep_25 : decode cProgram_addStep 25 = .ok (.iload 6, 2) := by decide +kernel
theorem dProgram_addStep_27 : decode cProgram_addStep 27 = .ok (.iload_n 3, 1) := by decide +kernel
theorem dProgram_addStep_28 : decode cProgram_addStep 28 = .ok (.iastore, 1) := by decide +kernel
theorem dProgram_addStep_29 : decode cProgram_addStep 29 = .ok (.aload_n 0, 1) := by decide +kernel
theorem dProgram_addStep_30 : decode cProgram_addStep 30 = .ok (.getfield 25, 3) := by decide +kernel
theorem dProgram_addStep_33 : decode cProgram_addStep 33 = .ok (.iload 6, 2) := by decide +kernel
theorem dProgram_addStep_35 : decode cProgram_addStep 35 = .ok (.iload 4, 2) := by decide +kernel
theorem dProgram_addStep_37 : decode cProgram_addStep 37 = .ok (.iastore, 1) := by decide +kernel
theorem dProgram_addStep_38 : decode cProgram_addStep 38 = .ok (.aload_n 0, 1) := by decide +kernel
theorem dProgram_addStep_39 : decode cProgram_addStep 39 = .ok (.getfield 28, 3) := by decide +kernel
theorem dProgram_addStep_42 : decode cProgram_addStep 42 = .ok (.iload 6, 2) := by decide +kernel
theorem dProgram_addStep_44 : decode cProgram_addStep 44 = .ok (.iload 5, 2) := by decide +kernel
theorem dProgram_addStep_46 : decode cProgram_addStep 46 = .ok (.iastore, 1) := by decide +kernel
theorem dProgram_addStep_47 : decode cProgram_addStep 47 = .ok (.aload_n 0, 1) := by decide +kernel
theorem dProgram_addStep_48 : decode cProgram_addStep 48 = .ok (.getfield 15, 3) := by decide +kernel
theorem dProgram_addStep_51 : decode cProgram_addStep 51 = .ok (.iload_n 1, 1) := by decide +kernel
theorem dProgram_addStep_52 : decode cProgram_addStep 52 = .ok (.dup2, 1) := by decide +kernel
theorem dProgram_addStep_53 : decode cProgram_addStep 53 = .ok (.iaload, 1) := by decide +kernel
theorem dProgram_addStep_54 : decode cProgram_addStep 54 = .ok (.iconst 1, 1) := by decide +kernel
theorem dProgram_addStep_55 : decode cProgram_addStep 55 = .ok (.iadd, 1) := by decide +kernel
theorem dProgram_addStep_56 : decode cProgram_addStep 56 = .ok (.iastore, 1) := by decide +kernel
theorem dProgram_addStep_57 : decode cProgram_addStep 57 = .ok (.return_, 1) := by decide +kernel
theorem dProgram_changeEnd_0 : decode cProgram_changeEnd 0 = .ok (.aload_n 0, 1) := by decide +kernel
theorem dProgram_changeEnd_1 : decode cProgram_changeEnd 1 = .ok (.getfield 31, 3) := by decide +kernel
theorem dProgram_changeEnd_4 : decode cProgram_changeEnd 4 = .ok (.iload_n 1, 1) := by decide +kernel
theorem dProgram_changeEnd_5 : decode cProgram_changeEnd 5 = .ok (.iload_n 2, 1) := by decide +kernel
theorem dProgram_changeEnd_6 : decode cProgram_changeEnd 6 = .ok (.iastore, 1) := by decide +kernel
theorem dProgram_changeEnd_7 : decode cProgram_changeEnd 7 = .ok (.aload_n 0, 1) := by decide +kernel
theorem dProgram_changeEnd_8 : decode cProgram_changeEnd 8 = .ok (.getfield 34, 3) := by decide +kernel
theorem dProgram_changeEnd_11 : decode cProgram_changeEnd 11 = .ok (.iload_n 1, 1) := by decide +kernel
theorem dProgram_changeEnd_12 : decode cProgram_changeEnd 12 = .ok (.iload_n 3, 1) := by decide +kernel
theorem dProgram_changeEnd_13 : decode cProgram_changeEnd 13 = .ok (.iastore, 1) := by decide +kernel
theorem dProgram_changeEnd_14 : decode cProgram_changeEnd 14 = .ok (.aload_n 0, 1) := by decide +kernel
theorem dProgram_changeEnd_15 : decode cProgram_changeEnd 15 = .ok (.getfield 37, 3) := by decide +kernel
theorem dProgram_changeEnd_18 : decode cProgram_changeEnd 18 = .ok (.iload_n 1, 1) := by decide +kernel
theorem dProgram_changeEnd_19 : decode cProgram_changeEnd 19 = .ok (.iload 4, 2) := by decide +kernel
theorem dProgram_changeEnd_21 : decode cProgram_changeEnd 21 = .ok (.iastore, 1) := by decide +kernel
theorem dProgram_changeEnd_22 : decode cProgram_changeEnd 22 = .ok (.return_, 1) := by decide +kernel
theorem dProgram_changeStart_0 : decode cProgram_changeStart 0 = .ok (.aload_n 0, 1) := by decide +kernel
theorem dProgram_changeStart_1 : decode cProgram_changeStart 1 = .ok (.getfield 40, 3) := by decide +kernel
theorem dProgram_changeStart_4 : decode cProgram_changeStart 4 = .ok (.iload_n 1, 1) := by decide +kernel
theorem dProgram_changeStart_5 : decode cProgram_changeStart 5 = .ok (.iload_n 2, 1) := by decide +kernel
theorem dProgram_changeStart_6 : decode cProgram_changeStart 6 = .ok (.iastore, 1) := by decide +kernel
theorem dProgram_changeStart_7 : decode cProgram_changeStart 7 = .ok (.return_, 1) := by decide +kernel
theorem dProgram_startOf_0 : decode cProgram_startOf 0 = .ok (.aload_n 0, 1) := by decide +kernel
theorem dProgram_startOf_1 : decode cProgram_startOf 1 = .ok (.getfield 40, 3) := by decide +kernel
theorem dProgram_startOf_4 : decode cProgram_startOf 4 = .ok (.iload_n 1, 1) := by decide +kernel
theorem dProgram_startOf_5 : decode cProgram_startOf 5 = .ok (.iaload, 1) := by decide +kernel
theorem dProgram_startOf_6 : decode cProgram_startOf 6 = .ok (.ireturn, 1) := by decide +kernel
theorem dProgram_kindOf_0 : decode cProgram_kindOf 0 = .ok (.aload_n 0, 1) := by decide +kernel
theorem dProgram_kindOf_1 : decode cProgram_kindOf 1 = .ok (.getfield 19, 3) := by decide +kernel
theorem dProgram_kindOf_4 : decode cProgram_kindOf 4 = .ok (.iload_n 1, 1) := by decide +kernel
theorem dProgram_kindOf_5 : decode cProgram_kindOf 5 = .ok (.bipush 6, 2) := by decide +kernel
theorem dProgram_kindOf_7 : decode cProgram_kindOf 7 = .ok (.imul, 1) := by decide +kernel
theorem dProgram_kindOf_8 : decode cProgram_kindOf 8 = .ok (.iload_n 2, 1) := by decide +kernel
theorem dProgram_kindOf_9 : decode cProgram_kindOf 9 = .ok (.iadd, 1) := by decide +kernel
theorem dProgram_kindOf_10 : decode cProgram_kindOf 10 = .ok (.iaload, 1) := by decide +kernel
theorem dProgram_kindOf_11 : decode cProgram_kindOf 11 = .ok (.ireturn, 1) := by decide +kernel
theorem dProgram_numberPut_0 : decode cProgram_numberPut 0 = .ok (.aload_n 0, 1) := by decide +kernel
theorem dProgram_numberPut_1 : decode cProgram_numberPut 1 = .ok (.getfield 25, 3) := by decide +kernel
theorem dProgram_numberPut_4 : decode cProgram_numberPut 4 = .ok (.iload_n 1, 1) := by decide +kernel
theorem dProgram_numberPut_5 : decode cProgram_numberPut 5 = .ok (.bipush 6, 2) := by decide +kernel
theorem dProgram_numberPut_7 : decode cProgram_numberPut 7 = .ok (.imul, 1) := by decide +kernel
theorem dProgram_numberPut_8 : decode cProgram_numberPut 8 = .ok (.iload_n 2, 1) := by decide +kernel
theorem dProgram_numberPut_9 : decode cProgram_numberPut 9 = .ok (.iadd, 1) := by decide +kernel
theorem dProgram_numberPut_10 : decode cProgram_numberPut 10 = .ok (.iaload, 1) := by decide +kernel
theorem dProgram_numberPut_11 : decode cProgram_numberPut 11 = .ok (.ireturn, 1) := by decide +kernel
theorem dProgram_variableSet_0 : decode cProgram_variableSet 0 = .ok (.iload_n 1, 1) := by decide +kernel
theorem dProgram_variableSet_1 : decode cProgram_variableSet 1 = .ok (.bipush 6, 2) := by decide +kernel
theorem dProgram_variableSet_3 : decode cProgram_variableSet 3 = .ok (.imul, 1) := by decide +kernel
theorem dProgram_variableSet_4 : decode cProgram_variableSet 4 = .ok (.iload_n 2, 1) := by decide +kernel
theorem dProgram_variableSet_5 : decode cProgram_variableSet 5 = .ok (.iadd, 1) := by decide +kernel
theorem dProgram_variableSet_6 : decode cProgram_variableSet 6 = .ok (.istore_n 3, 1) := by decide +kernel
theorem dProgram_variableSet_7 : decode cProgram_variableSet 7 = .ok (.aload_n 0, 1) := by decide +kernel
theorem dProgram_variableSet_8 : decode cProgram_variableSet 8 = .ok (.getfield 19, 3) := by decide +kernel
theorem dProgram_variableSet_11 : decode cProgram_variableSet 11 = .ok (.iload_n 3, 1) := by decide +kernel
theorem dProgram_variableSet_12 : decode cProgram_variableSet 12 = .ok (.iaload, 1) := by decide +kernel
theorem dProgram_variableSet_13 : decode cProgram_variableSet 13 = .ok (.invokestatic 49, 3) := by decide +kernel
theorem dProgram_variableSet_16 : decode cProgram_variableSet 16 = .ok (.ifCond .eq 12, 3) := by decide +kernel
theorem dProgram_variableSet_19 : decode cProgram_variableSet 19 = .ok (.aload_n 0, 1) := by decide +kernel
theorem dProgram_variableSet_20 : decode cProgram_variableSet 20 = .ok (.getfield 22, 3) := by decide +kernel
theorem dProgram_variableSet_23 : decode cProgram_variableSet 23 = .ok (.iload_n 3, 1) := by decide +kernel
theorem dProgram_variableSet_24 : decode cProgram_variableSet 24 = .ok (.iaload, 1) := by decide +kernel
theorem dProgram_variableSet_25 : decode cProgram_variableSet 25 = .ok (.goto 4, 3) := by decide +kernel
theorem dProgram_variableSet_28 : decode cProgram_variableSet 28 = .ok (.iconst (-1), 1) := by decide +kernel
theorem dProgram_variableSet_29 : decode cProgram_variableSet 29 = .ok (.ireturn, 1) := by decide +kernel
theorem dProgram_firstVariable_0 : decode cProgram_firstVariable 0 = .ok (.iload_n 1, 1) := by decide +kernel
theorem dProgram_firstVariable_1 : decode cProgram_firstVariable 1 = .ok (.bipush 6, 2) := by decide +kernel
theorem dProgram_firstVariable_3 : decode cProgram_firstVariable 3 = .ok (.imul, 1) := by decide +kernel
theorem dProgram_firstVariable_4 : decode cProgram_firstVariable 4 = .ok (.iload_n 2, 1) := by decide +kernel
theorem dProgram_firstVariable_5 : decode cProgram_firstVariable 5 = .ok (.iadd, 1) := by decide +kernel
theorem dProgram_firstVariable_6 : decode cProgram_firstVariable 6 = .ok (.istore_n 3, 1) := by decide +kernel
theorem dProgram_firstVariable_7 : decode cProgram_firstVariable 7 = .ok (.aload_n 0, 1) := by decide +kernel
theorem dProgram_firstVariable_8 : decode cProgram_firstVariable 8 = .ok (.getfield 19, 3) := by decide +kernel
theorem dProgram_firstVariable_11 : decode cProgram_firstVariable 11 = .ok (.iload_n 3, 1) := by decide +kernel
theorem dProgram_firstVariable_12 : decode cProgram_firstVariable 12 = .ok (.iaload, 1) := by decide +kernel
theorem dProgram_firstVariable_13 : decode cProgram_firstVariable 13 = .ok (.invokestatic 53, 3) := by decide +kernel
theorem dProgram_firstVariable_16 : decode cProgram_firstVariable 16 = .ok (.ifCond .eq 12, 3) := by decide +kernel
theorem dProgram_firstVariable_19 : decode cProgram_firstVariable 19 = .ok (.aload_n 0, 1) := by decide +kernel
theorem dProgram_firstVariable_20 : decode cProgram_firstVariable 20 = .ok (.getfield 25, 3) := by decide +kernel
theorem dProgram_firstVariable_23 : decode cProgram_firstVariable 23 = .ok (.iload_n 3, 1) := by decide +kernel
theorem dProgram_firstVariable_24 : decode cProgram_firstVariable 24 = .ok (.iaload, 1) := by decide +kernel
theorem dProgram_firstVariable_25 : decode cProgram_firstVariable 25 = .ok (.goto 4, 3) := by decide +kernel
theorem dProgram_firstVariable_28 : decode cProgram_firstVariable 28 = .ok (.iconst (-1), 1) := by decide +kernel
theorem dProgram_firstVariable_29 : decode cProgram_firstVariable 29 = .ok (.ireturn, 1) := by decide +kernel
theorem dProgram_secondVariable_0 : decode cProgram_secondVariable 0 = .ok (.iload_n 1, 1) := by decide +kernel
theorem dProgram_secondVariable_1 : decode cProgram_secondVariable 1 = .ok (.bipush 6, 2) := by decide +kernel
theorem dProgram_secondVariable_3 : decode cProgram_secondVariable 3 = .ok (.imul, 1) := by decide +kernel
theorem dProgram_secondVariable_4 : decode cProgram_secondVariable 4 = .ok (.iload_n 2, 1) := by decide +kernel
theorem dProgram_secondVariable_5 : decode cProgram_secondVariable 5 = .ok (.iadd, 1) := by decide +kernel
theorem dProgram_secondVariable_6 : decode cProgram_secondVariable 6 = .ok (.istore_n 3, 1) := by decide +kernel
theorem dProgram_secondVariable_7 : decode cProgram_secondVariable 7 = .ok (.aload_n 0, 1) := by decide +kernel
theorem dProgram_secondVariable_8 : decode cProgram_secondVariable 8 = .ok (.getfield 19, 3) := by decide +kernel
theorem dProgram_secondVariable_11 : decode cProgram_secondVariable 11 = .ok (.iload_n 3, 1) := by decide +kernel
theorem dProgram_secondVariable_12 : decode cProgram_secondVariable 12 = .ok (.iaload, 1) := by decide +kernel
theorem dProgram_secondVariable_13 : decode cProgram_secondVariable 13 = .ok (.invokestatic 56, 3) := by decide +kernel
theorem dProgram_secondVariable_16 : decode cProgram_secondVariable 16 = .ok (.ifCond .eq 12, 3) := by decide +kernel
theorem dProgram_secondVariable_19 : decode cProgram_secondVariable 19 = .ok (.aload_n 0, 1) := by decide +kernel
theorem dProgram_secondVariable_20 : decode cProgram_secondVariable 20 = .ok (.getfield 28, 3) := by decide +kernel
theorem dProgram_secondVariable_23 : decode cProgram_secondVariable 23 = .ok (.iload_n 3, 1) := by decide +kernel
theorem dProgram_secondVariable_24 : decode cProgram_secondVariable 24 = .ok (.iaload, 1) := by decide +kernel
theorem dProgram_secondVariable_25 : decode cProgram_secondVariable 25 = .ok (.goto 4, 3) := by decide +kernel
theorem dProgram_secondVariable_28 : decode cProgram_secondVariable 28 = .ok (.iconst (-1), 1) := by decide +kernel
theorem dProgram_secondVariable_29 : decode cProgram_secondVariable 29 = .ok (.ireturn, 1) := by decide +kernel
theorem dProgram_variableOfFork_0 : decode cProgram_variableOfFork 0 = .ok (.aload_n 0, 1) := by decide +kernel
theorem dProgram_variableOfFork_1 : decode cProgram_variableOfFork 1 = .ok (.getfield 31, 3) := by decide +kernel
theorem dProgram_variableOfFork_4 : decode cProgram_variableOfFork 4 = .ok (.iload_n 1, 1) := by decide +kernel
theorem dProgram_variableOfFork_5 : decode cProgram_variableOfFork 5 = .ok (.iaload, 1) := by decide +kernel
theorem dProgram_variableOfFork_6 : decode cProgram_variableOfFork 6 = .ok (.ireturn, 1) := by decide +kernel
theorem dProgram_blockAfter_0 : decode cProgram_blockAfter 0 = .ok (.iload_n 2, 1) := by decide +kernel
theorem dProgram_blockAfter_1 : decode cProgram_blockAfter 1 = .ok (.ifCond .eq 12, 3) := by decide +kernel
theorem dProgram_blockAfter_4 : decode cProgram_blockAfter 4 = .ok (.aload_n 0, 1) := by decide +kernel
theorem dProgram_blockAfter_5 : decode cProgram_blockAfter 5 = .ok (.getfield 37, 3) := by decide +kernel
theorem dProgram_blockAfter_8 : decode cProgram_blockAfter 8 = .ok (.iload_n 1, 1) := by decide +kernel
theorem dProgram_blockAfter_9 : decode cProgram_blockAfter 9 = .ok (.iaload, 1) := by decide +kernel
theorem dProgram_blockAfter_10 : decode cProgram_blockAfter 10 = .ok (.goto 9, 3) := by decide +kernel
theorem dProgram_blockAfter_13 : decode cProgram_blockAfter 13 = .ok (.aload_n 0, 1) := by decide +kernel
theorem dProgram_blockAfter_14 : decode cProgram_blockAfter 14 = .ok (.getfield 34, 3) := by decide +kernel
theorem dProgram_blockAfter_17 : decode cProgram_blockAfter 17 = .ok (.iload_n 1, 1) := by decide +kernel
theorem dProgram_blockAfter_18 : decode cProgram_blockAfter 18 = .ok (.iaload, 1) := by decide +kernel
theorem dProgram_blockAfter_19 : decode cProgram_blockAfter 19 = .ok (.ireturn, 1) := by decide +kernel
theorem dProgram_followers_0 : decode cProgram_followers 0 = .ok (.aload_n 0, 1) := by decide +kernel
theorem dProgram_followers_1 : decode cProgram_followers 1 = .ok (.getfield 34, 3) := by decide +kernel
theorem dProgram_followers_4 : decode cProgram_followers 4 = .ok (.iload_n 1, 1) := by decide +kernel
theorem dProgram_followers_5 : decode cProgram_followers 5 = .ok (.iaload, 1) := by decide +kernel
theorem dProgram_followers_6 : decode cProgram_followers 6 = .ok (.iconst (-1), 1) := by decide +kernel
theorem dProgram_followers_7 : decode cProgram_followers 7 = .ok (.if_icmp .ne 7, 3) := by decide +kernel
theorem dProgram_followers_10 : decode cProgram_followers 10 = .ok (.iconst 0, 1) := by decide +kernel
theorem dProgram_followers_11 : decode cProgram_followers 11 = .ok (.goto 20, 3) := by decide +kernel
theorem dProgram_followers_14 : decode cProgram_followers 14 = .ok (.iconst 1, 1) := by decide +kernel
theorem dProgram_followers_15 : decode cProgram_followers 15 = .ok (.aload_n 0, 1) := by decide +kernel
theorem dProgram_followers_16 : decode cProgram_followers 16 = .ok (.getfield 34, 3) := by decide +kernel
theorem dProgram_followers_19 : decode cProgram_followers 19 = .ok (.iload_n 1, 1) := by decide +kernel
theorem dProgram_followers_20 : decode cProgram_followers 20 = .ok (.iaload, 1) := by decide +kernel
theorem dProgram_followers_21 : decode cProgram_followers 21 = .ok (.ishl, 1) := by decide +kernel
theorem dProgram_followers_22 : decode cProgram_followers 22 = .ok (.iconst 1, 1) := by decide +kernel
theorem dProgram_followers_23 : decode cProgram_followers 23 = .ok (.aload_n 0, 1) := by decide +kernel
theorem dProgram_followers_24 : decode cProgram_followers 24 = .ok (.getfield 37, 3) := by decide +kernel
theorem dProgram_followers_27 : decode cProgram_followers 27 = .ok (.iload_n 1, 1) := by decide +kernel
theorem dProgram_followers_28 : decode cProgram_followers 28 = .ok (.iaload, 1) := by decide +kernel
theorem dProgram_followers_29 : decode cProgram_followers 29 = .ok (.ishl, 1) := by decide +kernel
theorem dProgram_followers_30 : decode cProgram_followers 30 = .ok (.ior, 1) := by decide +kernel
theorem dProgram_followers_31 : decode cProgram_followers 31 = .ok (.ireturn, 1) := by decide +kernel
theorem dProgram_setsInBlock_0 : decode cProgram_setsInBlock 0 = .ok (.iconst 0, 1) := by decide +kernel
theorem dProgram_setsInBlock_1 : decode cProgram_setsInBlock 1 = .ok (.istore_n 3, 1) := by decide +kernel
theorem dProgram_setsInBlock_2 : decode cProgram_setsInBlock 2 = .ok (.iload_n 3, 1) := by decide +kernel
theorem dProgram_setsInBlock_3 : decode cProgram_setsInBlock 3 = .ok (.aload_n 0, 1) := by decide +kernel
theorem dProgram_setsInBlock_4 : decode cProgram_setsInBlock 4 = .ok (.getfield 15, 3) := by decide +kernel
theorem dProgram_setsInBlock_7 : decode cProgram_setsInBlock 7 = .ok (.iload_n 1, 1) := by decide +kernel
theorem dProgram_setsInBlock_8 : decode cProgram_setsInBlock 8 = .ok (.iaload, 1) := by decide +kernel
theorem dProgram_setsInBlock_9 : decode cProgram_setsInBlock 9 = .ok (.if_icmp .ge 21, 3) := by decide +kernel
theorem dProgram_setsInBlock_12 : decode cProgram_setsInBlock 12 = .ok (.aload_n 0, 1) := by decide +kernel
theorem dProgram_setsInBlock_13 : decode cProgram_setsInBlock 13 = .ok (.iload_n 1, 1) := by decide +kernel
theorem dProgram_setsInBlock_14 : decode cProgram_setsInBlock 14 = .ok (.iload_n 3, 1) := by decide +kernel
theorem dProgram_setsInBlock_15 : decode cProgram_setsInBlock 15 = .ok (.invokevirtual 59, 3) := by decide +kernel
theorem dProgram_setsInBlock_18 : decode cProgram_setsInBlock 18 = .ok (.iload_n 2, 1) := by decide +kernel
theorem dProgram_setsInBlock_19 : decode cProgram_setsInBlock 19 = .ok (.if_icmp .ne 5, 3) := by decide +kernel
theorem dProgram_setsInBlock_22 : decode cProgram_setsInBlock 22 = .ok (.iconst 1, 1) := by decide +kernel
theorem dProgram_setsInBlock_23 : decode cProgram_setsInBlock 23 = .ok (.ireturn, 1) := by decide +kernel
theorem dProgram_setsInBlock_24 : decode cProgram_setsInBlock 24 = .ok (.iinc 3 1, 3) := by decide +kernel
theorem dProgram_setsInBlock_27 : decode cProgram_setsInBlock 27 = .ok (.goto (-25), 3) := by decide +kernel
theorem dProgram_setsInBlock_30 : decode cProgram_setsInBlock 30 = .ok (.iconst 0, 1) := by decide +kernel
theorem dProgram_setsInBlock_31 : decode cProgram_setsInBlock 31 = .ok (.ireturn, 1) := by decide +kernel
end
section
def wpProgram_setsVariable (v0 : Int32) (post : Bool → Prop) : Prop := ((v0 = 7 → (post false)) ∧ (¬ v0 = 7 → (post true)))
def wpProgram_usesFirst (v0 : Int32) (post : Bool → Prop) : Prop := ((v0 = 0 → (post false)) ∧ (¬ v0 = 0 → (post true)))
def wpProgram_usesSecond (v0 : Int32) (post : Bool → Prop) : Prop := ((v0 < 2 → (post false)) ∧ (¬ v0 < 2 → ((6 < v0 → (post false)) ∧ (¬ 6 < v0 → (post true)))))
def wpProgram_blockCount (N : Nat) (post : Int32 → Prop) : Prop := (post (nI N))
def wpProgram_stepsOf (N : Nat) (stepCount : Nat → Int32) (v1 : Int32) (post : Int32 → Prop) : Prop := vp_in v1 N ∧ (post (stepCount (Int32.toNatClampNeg v1)))
def wpProgram_addStep (N : Nat) (stepCount : Nat → Int32) (kind : Nat → Int32) (target : Nat → Int32) (first : Nat → Int32) (second : Nat → Int32) (v1 : Int32) (v2 : Int32) (v3 : Int32) (v4 : Int32) (v5 : Int32) (post : (Nat → Int32) → (Nat → Int32) → (Nat → Int32) → (Nat → Int32) → (Nat → Int32) → Prop) : Prop := vp_in v1 N ∧ ∀ v6_11 : Int32, v6_11 = ((v1 * 6) + (stepCount (Int32.toNatClampNeg v1))) → vp_in v6_11 (N * 6) ∧ vp_in v6_11 (N * 6) ∧ vp_in v6_11 (N * 6) ∧ vp_in v6_11 (N * 6) ∧ vp_in v1 N ∧ vp_in v1 N ∧ (post (upd stepCount (Int32.toNatClampNeg v1) ((stepCount (Int32.toNatClampNeg v1)) + 1)) (upd kind (Int32.toNatClampNeg v6_11) v2) (upd target (Int32.toNatClampNeg v6_11) v3) (upd first (Int32.toNatClampNeg v6_11) v4) (upd second (Int32.toNatClampNeg v6_11) v5))
def wpProgram_changeEnd (N : Nat) (forkVariable : Nat → Int32) (yes : Nat → Int32) (no : Nat → Int32) (v1 : Int32) (v2 : Int32) (v3 : Int32) (v4 : Int32) (post : (Nat → Int32) → (Nat → Int32) → (Nat → Int32) → Prop) : Prop := vp_in v1 N ∧ vp_in v1 N ∧ vp_in v1 N ∧ (post (upd forkVariable (Int32.toNatClampNeg v1) v2) (upd yes (Int32.toNatClampNeg v1) v3) (upd no (Int32.toNatClampNeg v1) v4))
def wpProgram_changeStart (starts : Nat → Int32) (v1 : Int32) (v2 : Int32) (post : (Nat → Int32) → Prop) : Prop := vp_in v1 6 ∧ (post (upd starts (Int32.toNatClampNeg v1) v2))
def wpProgram_startOf (starts : Nat → Int32) (v1 : Int32) (post : Int32 → Prop) : Prop := vp_in v1 6 ∧ (post (starts (Int32.toNatClampNeg v1)))
def wpProgram_kindOf (N : Nat) (kind : Nat → Int32) (v1 : Int32) (v2 : Int32) (post : Int32 → Prop) : Prop := vp_in ((v1 * 6) + v2) (N * 6) ∧ (post (kind (Int32.toNatClampNeg ((v1 * 6) + v2))))
def wpProgram_numberPut (N : Nat) (first : Nat → Int32) (v1 : Int32) (v2 : Int32) (post : Int32 → Prop) : Prop := vp_in ((v1 * 6) + v2) (N * 6) ∧ (post (first (Int32.toNatClampNeg ((v1 * 6) + v2))))
def wpProgram_variableSet (N : Nat) (kind : Nat → Int32) (target : Nat → Int32) (v1 : Int32) (v2 : Int32) (post : Int32 → Prop) : Prop := ∀ v3_6 : Int32, v3_6 = ((v1 * 6) + v2) → vp_in v3_6 (N * 6) ∧ wpProgram_setsVariable (kind (Int32.toNatClampNeg v3_6)) (fun (r13 : Bool) => ((r13 = false → (post (-1))) ∧ (r13 = true → vp_in v3_6 (N * 6) ∧ (post (target (Int32.toNatClampNeg v3_6))))))
def wpProgram_firstVariable (N : Nat) (kind : Nat → Int32) (first : Nat → Int32) (v1 : Int32) (v2 : Int32) (post : Int32 → Prop) : Prop := ∀ v3_6 : Int32, v3_6 = ((v1 * 6) + v2) → vp_in v3_6 (N * 6) ∧ wpProgram_usesFirst (kind (Int32.toNatClampNeg v3_6)) (fun (r13 : Bool) => ((r13 = false → (post (-1))) ∧ (r13 = true → vp_in v3_6 (N * 6) ∧ (post (first (Int32.toNatClampNeg v3_6))))))
def wpProgram_secondVariable (N : Nat) (kind : Nat → Int32) (second : Nat → Int32) (v1 : Int32) (v2 : Int32) (post : Int32 → Prop) : Prop := ∀ v3_6 : Int32, v3_6 = ((v1 * 6) + v2) → vp_in v3_6 (N * 6) ∧ wpProgram_usesSecond (kind (Int32.toNatClampNeg v3_6)) (fun (r13 : Bool) => ((r13 = false → (post (-1))) ∧ (r13 = true → vp_in v3_6 (N * 6) ∧ (post (second (Int32.toNatClampNeg v3_6))))))
def wpProgram_variableOfFork (N : Nat) (forkVariable : Nat → Int32) (v1 : Int32) (post : Int32 → Prop) : Prop := vp_in v1 N ∧ (post (forkVariable (Int32.toNatClampNeg v1)))
def wpProgram_blockAfter (N : Nat) (yes : Nat → Int32) (no : Nat → Int32) (v1 : Int32) (v2 : Bool) (post : Int32 → Prop) : Prop := ((v2 = false → vp_in v1 N ∧ (post (yes (Int32.toNatClampNeg v1)))) ∧ (v2 = true → vp_in v1 N ∧ (post (no (Int32.toNatClampNeg v1)))))
def wpProgram_followers (N : Nat) (yes : Nat → Int32) (no : Nat → Int32) (v1 : Int32) (post : Int32 → Prop) : Prop := vp_in v1 N ∧ ((¬ (yes (Int32.toNatClampNeg v1)) = (-1) → vp_in v1 N ∧ vp_in v1 N ∧ (post (((1 : Int32) <<< ((yes (Int32.toNatClampNeg v1)) &&& 31)) ||| ((1 : Int32) <<< ((no (Int32.toNatClampNeg v1)) &&& 31))))) ∧ ((yes (Int32.toNatClampNeg v1)) = (-1) → (post 0)))
def lpProgram_setsInBlock_2 (N : Nat) (v1 : Int32) (v2 : Int32) (stepCount : Nat → Int32) (kind : Nat → Int32) (target : Nat → Int32) (post : Bool → Prop)  : Nat → Int32 → Prop
  | 0 => fun _ => False
  | k2 + 1 => fun v3 => vp_in v1 N ∧ (((stepCount (Int32.toNatClampNeg v1)) ≤ v3 → (post false)) ∧ (¬ (stepCount (Int32.toNatClampNeg v1)) ≤ v3 → wpProgram_variableSet N kind target v1 v3 (fun (r15 : Int32) => ((¬ r15 = v2 → (lpProgram_setsInBlock_2 N v1 v2 stepCount kind target post k2 (v3 + 1))) ∧ (r15 = v2 → (post true))))))
def wpProgram_setsInBlock (N : Nat) (stepCount : Nat → Int32) (kind : Nat → Int32) (target : Nat → Int32) (v1 : Int32) (v2 : Int32) (post : Bool → Prop) : Prop := (∃ k2 : Nat, lpProgram_setsInBlock_2 N v1 v2 stepCount kind target post k2 0)
end
section
abbrev wdProgram_setsVariable (cA : ClassId) (ad : Nat → Nat) (N : Nat)  : va_W := []
abbrev qcProgram_setsVariable (D : va_G) (cA : ClassId) (ad : Nat → Nat) (N : Nat)  (post : Bool → Prop) (A : Nat → Prop) : Array Value → State → Outcome → State → Prop := va_Qi (S := Unit) (fun r u => ∃ z : Bool, r = bI z ∧ post z ) (fun u t => xB D cA A (wdProgram_setsVariable cA ad N) t) A
abbrev rmProgram_setsVariable : Room := { frames := 0, cells := 0, slots := 0, locals := 0 }
set_option maxHeartbeats 4000000 in
set_option maxRecDepth 100000 in
theorem ktProgram_setsVariable (l : Launch) (D : va_G) (cA : ClassId) (ad : Nat → Nat) (N : Nat) (sz : Nat)  (v0 : Int32) (post : Bool → Prop) (hw : wpProgram_setsVariable v0 post) : Met l yProgram_setsVariable (Cond.code yProgram_setsVariable cProgram_setsVariable 1 (some .boolean) :: xW) rmProgram_setsVariable (va_Pc [.int v0] (xPc D cA (wdProgram_setsVariable cA ad N) sz)) (qcProgram_setsVariable D cA ad N  post (va_A (wdProgram_setsVariable cA ad N) sz)) 0 0 (va_A (wdProgram_setsVariable cA ad N) sz) := by
  refine Met.ofW (cc := cProgram_setsVariable) (maxL := 1) (ret := (some .boolean)) (by decide) rfl ?_
  intro p e s m args below meth c s₁ B hml hv
  obtain ⟨rfl, hsz, hP, hK, hD0, hN⟩ := hv
  have hx := B.exec
  have hb := B.bytes
  have hr := B.returns
  have hts := atoms_spec (ws := (Cond.code yProgram_setsVariable cProgram_setsVariable 1 (some .boolean) :: xW)) B.pre
  have hown : s.vm.findClass "OnceNamed$Program" = some m.cls := findClass_of_methodNamed B.named
  have hlocks := B.notSynchronized
  subst hsz
  have hD := hD0.self (sz := s.heap.size)
  generalize hAe : va_A (wdProgram_setsVariable cA ad N) s.heap.size = A at hD ⊢
  have hA : ∀ q : Nat, s.heap.size ≤ q → A q := fun q h => by rw [← hAe]; exact Or.inr h
  have hS : va_S A s.heap s.heap [] := va_S.rf
  have hend : ∀ (r : Bool)  (H : Heap) (locs : List Loc) (pc : Nat) (ls : Array Slot), decode cProgram_setsVariable pc = .ok (.ireturn, 1) → va_P D vwCl (wdProgram_setsVariable cA ad N) H → va_D A (wdProgram_setsVariable cA ad N) → va_S A s.heap H locs → post r  → W p l e (headSpec (Cond.code yProgram_setsVariable cProgram_setsVariable 1 (some .boolean) :: xW) rmProgram_setsVariable).room s m ([.int v0] : List Value).toArray below meth c H locs 0 0 (MQ below (qcProgram_setsVariable D cA ad N  post A) ([.int v0] : List Value).toArray s 0 0 A) (F0 m pc ls [.int (bI r)]) := fun r  H locs pc ls hd hP hD hS hw => W.zret (v := bI r) hx hb hr (bI_nar r) (fun t ht hW => ⟨⟨bI r, (), rfl, ⟨r, rfl, hw⟩, ⟨by rw [ht]; exact hP, va_K.moved hW.alike hK, hD⟩⟩, hS.F ht⟩) hS.2.2 hd
  generalize hQ : MQ below (qcProgram_setsVariable D cA ad N  post A) ([.int v0] : List Value).toArray s 0 0 A = Q at hend ⊢
  have hl := lv_entry ([.int v0]) (n := 1) (Nat.le_of_ble_eq_true rfl)
  rw [lg_entry_eq]
  generalize (lg_sl ([.int v0]) ++ List.replicate (1 - (lg_sl ([.int v0])).length) Slot.unset).toArray = ls at hl ⊢
  have hl : lv_has ls 1 [(0, .int v0)] := hl
  unfold wpProgram_setsVariable at hw
  refine lv_iload_n hx hb dProgram_setsVariable_0 rfl (lv_at hl 0 rfl) ?_
  refine lv_bipush (v := 7) hx hb dProgram_setsVariable_1 (by decide) ?_
  refine lv_icmp_eq (tgt := 10) hx hb dProgram_setsVariable_3 rfl (fun hc => ?_) (fun hc => ?_)
  · have hw := hw.1 hc
    refine lv_iconst (v := 0) hx hb dProgram_setsVariable_10 (by decide) ?_
    exact hend false _ _ _ _ dProgram_setsVariable_11 hP hD hS hw
  · have hw := hw.2 hc
    refine lv_iconst (v := 1) hx hb dProgram_setsVariable_6 (by decide) ?_
    refine lv_goto (tgt := 11) hx hb dProgram_setsVariable_7 rfl ?_
    exact hend true _ _ _ _ dProgram_setsVariable_11 hP hD hS hw
abbrev wdProgram_usesFirst (cA : ClassId) (ad : Nat → Nat) (N : Nat)  : va_W := []
abbrev qcProgram_usesFirst (D : va_G) (cA : ClassId) (ad : Nat → Nat) (N : Nat)  (post : Bool → Prop) (A : Nat → Prop) : Array Value → State → Outcome → State → Prop := va_Qi (S := Unit) (fun r u => ∃ z : Bool, r = bI z ∧ post z ) (fun u t => xB D cA A (wdProgram_usesFirst cA ad N) t) A
abbrev rmProgram_usesFirst : Room := { frames := 0, cells := 0, slots := 0, locals := 0 }
set_option maxHeartbeats 4000000 in
set_option maxRecDepth 100000 in
theorem ktProgram_usesFirst (l : Launch) (D : va_G) (cA : ClassId) (ad : Nat → Nat) (N : Nat) (sz : Nat)  (v0 : Int32) (post : Bool → Prop) (hw : wpProgram_usesFirst v0 post) : Met l yProgram_usesFirst (Cond.code yProgram_usesFirst cProgram_usesFirst 1 (some .boolean) :: xW) rmProgram_usesFirst (va_Pc [.int v0] (xPc D cA (wdProgram_usesFirst cA ad N) sz)) (qcProgram_usesFirst D cA ad N  post (va_A (wdProgram_usesFirst cA ad N) sz)) 0 0 (va_A (wdProgram_usesFirst cA ad N) sz) := by
  refine Met.ofW (cc := cProgram_usesFirst) (maxL := 1) (ret := (some .boolean)) (by decide) rfl ?_
  intro p e s m args below meth c s₁ B hml hv
  obtain ⟨rfl, hsz, hP, hK, hD0, hN⟩ := hv
  have hx := B.exec
  have hb := B.bytes
  have hr := B.returns
  have hts := atoms_spec (ws := (Cond.code yProgram_usesFirst cProgram_usesFirst 1 (some .boolean) :: xW)) B.pre
  have hown : s.vm.findClass "OnceNamed$Program" = some m.cls := findClass_of_methodNamed B.named
  have hlocks := B.notSynchronized
  subst hsz
  have hD := hD0.self (sz := s.heap.size)
  generalize hAe : va_A (wdProgram_usesFirst cA ad N) s.heap.size = A at hD ⊢
  have hA : ∀ q : Nat, s.heap.size ≤ q → A q := fun q h => by rw [← hAe]; exact Or.inr h
  have hS : va_S A s.heap s.heap [] := va_S.rf
  have hend : ∀ (r : Bool)  (H : Heap) (locs : List Loc) (pc : Nat) (ls : Array Slot), decode cProgram_usesFirst pc = .ok (.ireturn, 1) → va_P D vwCl (wdProgram_usesFirst cA ad N) H → va_D A (wdProgram_usesFirst cA ad N) → va_S A s.heap H locs → post r  → W p l e (headSpec (Cond.code yProgram_usesFirst cProgram_usesFirst 1 (some .boolean) :: xW) rmProgram_usesFirst).room s m ([.int v0] : List Value).toArray below meth c H locs 0 0 (MQ below (qcProgram_usesFirst D cA ad N  post A) ([.int v0] : List Value).toArray s 0 0 A) (F0 m pc ls [.int (bI r)]) := fun r  H locs pc ls hd hP hD hS hw => W.zret (v := bI r) hx hb hr (bI_nar r) (fun t ht hW => ⟨⟨bI r, (), rfl, ⟨r, rfl, hw⟩, ⟨by rw [ht]; exact hP, va_K.moved hW.alike hK, hD⟩⟩, hS.F ht⟩) hS.2.2 hd
  generalize hQ : MQ below (qcProgram_usesFirst D cA ad N  post A) ([.int v0] : List Value).toArray s 0 0 A = Q at hend ⊢
  have hl := lv_entry ([.int v0]) (n := 1) (Nat.le_of_ble_eq_true rfl)
  rw [lg_entry_eq]
  generalize (lg_sl ([.int v0]) ++ List.replicate (1 - (lg_sl ([.int v0])).length) Slot.unset).toArray = ls at hl ⊢
  have hl : lv_has ls 1 [(0, .int v0)] := hl
  unfold wpProgram_usesFirst at hw
  refine lv_iload_n hx hb dProgram_usesFirst_0 rfl (lv_at hl 0 rfl) ?_
  refine lv_if_eq (tgt := 8) hx hb dProgram_usesFirst_1 rfl (fun hc => ?_) (fun hc => ?_)
  · have hw := hw.1 hc
    refine lv_iconst (v := 0) hx hb dProgram_usesFirst_8 (by decide) ?_
    exact hend false _ _ _ _ dProgram_usesFirst_9 hP hD hS hw
  · have hw := hw.2 hc
    refine lv_iconst (v := 1) hx hb dProgram_usesFirst_4 (by decide) ?_
    refine lv_goto (tgt := 9) hx hb dProgram_usesFirst_5 rfl ?_
    exact hend true _ _ _ _ dProgram_usesFirst_9 hP hD hS hw
abbrev wdProgram_usesSecond (cA : ClassId) (ad : Nat → Nat) (N : Nat)  : va_W := []
abbrev qcProgram_usesSecond (D : va_G) (cA : ClassId) (ad : Nat → Nat) (N : Nat)  (post : Bool → Prop) (A : Nat → Prop) : Array Value → State → Outcome → State → Prop := va_Qi (S := Unit) (fun r u => ∃ z : Bool, r = bI z ∧ post z ) (fun u t => xB D cA A (wdProgram_usesSecond cA ad N) t) A
abbrev rmProgram_usesSecond : Room := { frames := 0, cells := 0, slots := 0, locals := 0 }
set_option maxHeartbeats 4000000 in
set_option maxRecDepth 100000 in
theorem ktProgram_usesSecond (l : Launch) (D : va_G) (cA : ClassId) (ad : Nat → Nat) (N : Nat) (sz : Nat)  (v0 : Int32) (post : Bool → Prop) (hw : wpProgram_usesSecond v0 post) : Met l yProgram_usesSecond (Cond.code yProgram_usesSecond cProgram_usesSecond 1 (some .boolean) :: xW) rmProgram_usesSecond (va_Pc [.int v0] (xPc D cA (wdProgram_usesSecond cA ad N) sz)) (qcProgram_usesSecond D cA ad N  post (va_A (wdProgram_usesSecond cA ad N) sz)) 0 0 (va_A (wdProgram_usesSecond cA ad N) sz) := by
  refine Met.ofW (cc := cProgram_usesSecond) (maxL := 1) (ret := (some .boolean)) (by decide) rfl ?_
  intro p e s m args below meth c s₁ B hml hv
  obtain ⟨rfl, hsz, hP, hK, hD0, hN⟩ := hv
  have hx := B.exec
  have hb := B.bytes
  have hr := B.returns
  have hts := atoms_spec (ws := (Cond.code yProgram_usesSecond cProgram_usesSecond 1 (some .boolean) :: xW)) B.pre
  have hown : s.vm.findClass "OnceNamed$Program" = some m.cls := findClass_of_methodNamed B.named
  have hlocks := B.notSynchronized
  subst hsz
  have hD := hD0.self (sz := s.heap.size)
  generalize hAe : va_A (wdProgram_usesSecond cA ad N) s.heap.size = A at hD ⊢
  have hA : ∀ q : Nat, s.heap.size ≤ q → A q := fun q h => by rw [← hAe]; exact Or.inr h
  have hS : va_S A s.heap s.heap [] := va_S.rf
  have hend : ∀ (r : Bool)  (H : Heap) (locs : List Loc) (pc : Nat) (ls : Array Slot), decode cProgram_usesSecond pc = .ok (.ireturn, 1) → va_P D vwCl (wdProgram_usesSecond cA ad N) H → va_D A (wdProgram_usesSecond cA ad N) → va_S A s.heap H locs → post r  → W p l e (headSpec (Cond.code yProgram_usesSecond cProgram_usesSecond 1 (some .boolean) :: xW) rmProgram_usesSecond).room s m ([.int v0] : List Value).toArray below meth c H locs 0 0 (MQ below (qcProgram_usesSecond D cA ad N  post A) ([.int v0] : List Value).toArray s 0 0 A) (F0 m pc ls [.int (bI r)]) := fun r  H locs pc ls hd hP hD hS hw => W.zret (v := bI r) hx hb hr (bI_nar r) (fun t ht hW => ⟨⟨bI r, (), rfl, ⟨r, rfl, hw⟩, ⟨by rw [ht]; exact hP, va_K.moved hW.alike hK, hD⟩⟩, hS.F ht⟩) hS.2.2 hd
  generalize hQ : MQ below (qcProgram_usesSecond D cA ad N  post A) ([.int v0] : List Value).toArray s 0 0 A = Q at hend ⊢
  have hl := lv_entry ([.int v0]) (n := 1) (Nat.le_of_ble_eq_true rfl)
  rw [lg_entry_eq]
  generalize (lg_sl ([.int v0]) ++ List.replicate (1 - (lg_sl ([.int v0])).length) Slot.unset).toArray = ls at hl ⊢
  have hl : lv_has ls 1 [(0, .int v0)] := hl
  unfold wpProgram_usesSecond at hw
  refine lv_iload_n hx hb dProgram_usesSecond_0 rfl (lv_at hl 0 rfl) ?_
  refine lv_iconst (v := 2) hx hb dProgram_usesSecond_1 (by decide) ?_
  refine lv_icmp_lt (tgt := 15) hx hb dProgram_usesSecond_2 rfl (fun hc => ?_) (fun hc => ?_)
  · have hw := hw.1 hc
    refine lv_iconst (v := 0) hx hb dProgram_usesSecond_15 (by decide) ?_
    exact hend false _ _ _ _ dProgram_usesSecond_16 hP hD hS hw
  · have hw := hw.2 hc
    refine lv_iload_n hx hb dProgram_usesSecond_5 rfl (lv_at hl 0 rfl) ?_
    refine lv_bipush (v := 6) hx hb dProgram_usesSecond_6 (by decide) ?_
    refine lv_icmp_gt (tgt := 15) hx hb dProgram_usesSecond_8 rfl (fun hc => ?_) (fun hc => ?_)
    · have hw := hw.1 hc
      refine lv_iconst (v := 0) hx hb dProgram_usesSecond_15 (by decide) ?_
      exact hend false _ _ _ _ dProgram_usesSecond_16 hP hD hS hw
    · have hw := hw.2 hc
      refine lv_iconst (v := 1) hx hb dProgram_usesSecond_11 (by decide) ?_
      refine lv_goto (tgt := 16) hx hb dProgram_usesSecond_12 rfl ?_
      exact hend true _ _ _ _ dProgram_usesSecond_16 hP hD hS hw
abbrev wdProgram_blockCount (cA : ClassId) (ad : Nat → Nat) (N : Nat)  : va_W := [((ad 1), .inr (1, [.int (nI N), .ref (ad 2), .ref (ad 3), .ref (ad 4), .ref (ad 5), .ref (ad 6), .ref (ad 7), .ref (ad 8), .ref (ad 9), .ref (ad 10)]))]
abbrev qcProgram_blockCount (D : va_G) (cA : ClassId) (ad : Nat → Nat) (N : Nat)  (post : Int32 → Prop) (A : Nat → Prop) : Array Value → State → Outcome → State → Prop := va_Qi (S := Unit) (fun r u => post r ) (fun u t => xB D cA A (wdProgram_blockCount cA ad N) t) A
abbrev rmProgram_blockCount : Room := { frames := 0, cells := 0, slots := 0, locals := 0 }
set_option maxHeartbeats 4000000 in
set_option maxRecDepth 100000 in
theorem ktProgram_blockCount (l : Launch) (D : va_G) (cA : ClassId) (ad : Nat → Nat) (N : Nat) (sz : Nat)   (post : Int32 → Prop) (hw : wpProgram_blockCount N post) : Met l yProgram_blockCount (Cond.code yProgram_blockCount cProgram_blockCount 1 (some .int) :: xW) rmProgram_blockCount (va_Pc [.ref (ad 1)] (xPc D cA (wdProgram_blockCount cA ad N) sz)) (qcProgram_blockCount D cA ad N  post (va_A (wdProgram_blockCount cA ad N) sz)) 0 0 (va_A (wdProgram_blockCount cA ad N) sz) := by
  refine Met.ofW (cc := cProgram_blockCount) (maxL := 1) (ret := (some .int)) (by decide) rfl ?_
  intro p e s m args below meth c s₁ B hml hv
  obtain ⟨rfl, hsz, hP, hK, hD0, hN⟩ := hv
  have hx := B.exec
  have hb := B.bytes
  have hr := B.returns
  have hts := atoms_spec (ws := (Cond.code yProgram_blockCount cProgram_blockCount 1 (some .int) :: xW)) B.pre
  have hown : s.vm.findClass "OnceNamed$Program" = some m.cls := findClass_of_methodNamed B.named
  have hlocks := B.notSynchronized
  subst hsz
  have hD := hD0.self (sz := s.heap.size)
  generalize hAe : va_A (wdProgram_blockCount cA ad N) s.heap.size = A at hD ⊢
  have hA : ∀ q : Nat, s.heap.size ≤ q → A q := fun q h => by rw [← hAe]; exact Or.inr h
  have hS : va_S A s.heap s.heap [] := va_S.rf
  have hend : ∀ (r : Int32)  (H : Heap) (locs : List Loc) (pc : Nat) (ls : Array Slot), decode cProgram_blockCount pc = .ok (.ireturn, 1) → va_P D vwCl (wdProgram_blockCount cA ad N) H → va_D A (wdProgram_blockCount cA ad N) → va_S A s.heap H locs → post r  → W p l e (headSpec (Cond.code yProgram_blockCount cProgram_blockCount 1 (some .int) :: xW) rmProgram_blockCount).room s m ([.ref (ad 1)] : List Value).toArray below meth c H locs 0 0 (MQ below (qcProgram_blockCount D cA ad N  post A) ([.ref (ad 1)] : List Value).toArray s 0 0 A) (F0 m pc ls [.int r]) := fun r  H locs pc ls hd hP hD hS hw => W.iret (v := r) hx hb hr (fun t ht hW => ⟨⟨r, (), rfl, hw, ⟨by rw [ht]; exact hP, va_K.moved hW.alike hK, hD⟩⟩, hS.F ht⟩) hS.2.2 hd
  generalize hQ : MQ below (qcProgram_blockCount D cA ad N  post A) ([.ref (ad 1)] : List Value).toArray s 0 0 A = Q at hend ⊢
  have hl := lv_entry ([.ref (ad 1)]) (n := 1) (Nat.le_of_ble_eq_true rfl)
  rw [lg_entry_eq]
  generalize (lg_sl ([.ref (ad 1)]) ++ List.replicate (1 - (lg_sl ([.ref (ad 1)])).length) Slot.unset).toArray = ls at hl ⊢
  have hl : lv_has ls 1 [(0, .ref (ad 1))] := hl
  unfold wpProgram_blockCount at hw
  refine lv_aload_n hx hb dProgram_blockCount_0 rfl (lv_at hl 0 rfl) ?_
  refine va_get (D := D) (ci := 1) (v := .int (nI N)) (C := "OnceNamed$Program") (T := TX1) (N := 10) hx hb hts (fun w h => List.mem_cons_of_mem _ (inX1 w h)) hown hK hP 0 rfl rfl 0 (by decide) (hts _ (List.mem_cons_of_mem _ kw_44)) (fun _ h9 => h9) rfl dProgram_blockCount_1 ?_
  exact hend (nI N) _ _ _ _ dProgram_blockCount_4 hP hD hS hw
abbrev wdProgram_stepsOf (cA : ClassId) (ad : Nat → Nat) (N : Nat) (stepCount : Nat → Int32) : va_W := [((ad 1), .inr (1, [.int (nI N), .ref (ad 2), .ref (ad 3), .ref (ad 4), .ref (ad 5), .ref (ad 6), .ref (ad 7), .ref (ad 8), .ref (ad 9), .ref (ad 10)])), ((ad 2), .inl (cA, N, .inl stepCount))]
abbrev qcProgram_stepsOf (D : va_G) (cA : ClassId) (ad : Nat → Nat) (N : Nat) (stepCount : Nat → Int32) (post : Int32 → Prop) (A : Nat → Prop) : Array Value → State → Outcome → State → Prop := va_Qi (S := Unit) (fun r u => post r ) (fun u t => xB D cA A (wdProgram_stepsOf cA ad N stepCount) t) A
abbrev rmProgram_stepsOf : Room := { frames := 0, cells := 0, slots := 0, locals := 0 }
set_option maxHeartbeats 4000000 in
set_option maxRecDepth 100000 in
theorem ktProgram_stepsOf (l : Launch) (D : va_G) (cA : ClassId) (ad : Nat → Nat) (N : Nat) (sz : Nat) (stepCount : Nat → Int32) (v1 : Int32) (post : Int32 → Prop) (hw : wpProgram_stepsOf N stepCount v1 post) : Met l yProgram_stepsOf (Cond.code yProgram_stepsOf cProgram_stepsOf 2 (some .int) :: xW) rmProgram_stepsOf (va_Pc [.ref (ad 1), .int v1] (xPc D cA (wdProgram_stepsOf cA ad N stepCount) sz)) (qcProgram_stepsOf D cA ad N stepCount post (va_A (wdProgram_stepsOf cA ad N stepCount) sz)) 0 0 (va_A (wdProgram_stepsOf cA ad N stepCount) sz) := by
  refine Met.ofW (cc := cProgram_stepsOf) (maxL := 2) (ret := (some .int)) (by decide) rfl ?_
  intro p e s m args below meth c s₁ B hml hv
  obtain ⟨rfl, hsz, hP, hK, hD0, hN⟩ := hv
  have hx := B.exec
  have hb := B.bytes
  have hr := B.returns
  have hts := atoms_spec (ws := (Cond.code yProgram_stepsOf cProgram_stepsOf 2 (some .int) :: xW)) B.pre
  have hown : s.vm.findClass "OnceNamed$Program" = some m.cls := findClass_of_methodNamed B.named
  have hlocks := B.notSynchronized
  subst hsz
  have hD := hD0.self (sz := s.heap.size)
  generalize hAe : va_A (wdProgram_stepsOf cA ad N stepCount) s.heap.size = A at hD ⊢
  have hA : ∀ q : Nat, s.heap.size ≤ q → A q := fun q h => by rw [← hAe]; exact Or.inr h
  have hS : va_S A s.heap s.heap [] := va_S.rf
  have hend : ∀ (r : Int32)  (H : Heap) (locs : List Loc) (pc : Nat) (ls : Array Slot), decode cProgram_stepsOf pc = .ok (.ireturn, 1) → va_P D vwCl (wdProgram_stepsOf cA ad N stepCount) H → va_D A (wdProgram_stepsOf cA ad N stepCount) → va_S A s.heap H locs → post r  → W p l e (headSpec (Cond.code yProgram_stepsOf cProgram_stepsOf 2 (some .int) :: xW) rmProgram_stepsOf).room s m ([.ref (ad 1), .int v1] : List Value).toArray below meth c H locs 0 0 (MQ below (qcProgram_stepsOf D cA ad N stepCount post A) ([.ref (ad 1), .int v1] : List Value).toArray s 0 0 A) (F0 m pc ls [.int r]) := fun r  H locs pc ls hd hP hD hS hw => W.iret (v := r) hx hb hr (fun t ht hW => ⟨⟨r, (), rfl, hw, ⟨by rw [ht]; exact hP, va_K.moved hW.alike hK, hD⟩⟩, hS.F ht⟩) hS.2.2 hd
  generalize hQ : MQ below (qcProgram_stepsOf D cA ad N stepCount post A) ([.ref (ad 1), .int v1] : List Value).toArray s 0 0 A = Q at hend ⊢
  have hl := lv_entry ([.ref (ad 1), .int v1]) (n := 2) (Nat.le_of_ble_eq_true rfl)
  rw [lg_entry_eq]
  generalize (lg_sl ([.ref (ad 1), .int v1]) ++ List.replicate (2 - (lg_sl ([.ref (ad 1), .int v1])).length) Slot.unset).toArray = ls at hl ⊢
  have hl : lv_has ls 2 [(0, .ref (ad 1)), (1, .int v1)] := hl
  unfold wpProgram_stepsOf at hw
  refine lv_aload_n hx hb dProgram_stepsOf_0 rfl (lv_at hl 0 rfl) ?_
  refine va_get (D := D) (ci := 1) (v := .ref (ad 2)) (C := "OnceNamed$Program") (T := TX1) (N := 10) hx hb hts (fun w h => List.mem_cons_of_mem _ (inX1 w h)) hown hK hP 0 rfl rfl 1 (by decide) (hts _ (List.mem_cons_of_mem _ kw_45)) (fun _ h9 => h9) rfl dProgram_stepsOf_1 ?_
  refine lv_iload_n hx hb dProgram_stepsOf_4 rfl (lv_at hl 1 rfl) ?_
  have ho := hw.1
  have hw := hw.2
  refine va_iald hx hb hK hP 1 0 rfl rfl ho dProgram_stepsOf_5 ?_
  exact hend (stepCount (Int32.toNatClampNeg v1)) _ _ _ _ dProgram_stepsOf_6 hP hD hS hw
abbrev wdProgram_addStep (cA : ClassId) (ad : Nat → Nat) (N : Nat) (stepCount : Nat → Int32) (kind : Nat → Int32) (target : Nat → Int32) (first : Nat → Int32) (second : Nat → Int32) : va_W := [((ad 1), .inr (1, [.int (nI N), .ref (ad 2), .ref (ad 3), .ref (ad 4), .ref (ad 5), .ref (ad 6), .ref (ad 7), .ref (ad 8), .ref (ad 9), .ref (ad 10)])), ((ad 2), .inl (cA, N, .inl stepCount)), ((ad 3), .inl (cA, N * 6, .inl kind)), ((ad 4), .inl (cA, N * 6, .inl target)), ((ad 5), .inl (cA, N * 6, .inl first)), ((ad 6), .inl (cA, N * 6, .inl second))]
abbrev qcProgram_addStep (D : va_G) (cA : ClassId) (ad : Nat → Nat) (N : Nat) (stepCount : Nat → Int32) (kind : Nat → Int32) (target : Nat → Int32) (first : Nat → Int32) (second : Nat → Int32) (post : (Nat → Int32) → (Nat → Int32) → (Nat → Int32) → (Nat → Int32) → (Nat → Int32) → Prop) (A : Nat → Prop) : Array Value → State → Outcome → State → Prop := va_Qv (S := (Nat → Int32) × (Nat → Int32) × (Nat → Int32) × (Nat → Int32) × (Nat → Int32)) (fun u => post u.1 u.2.1 u.2.2.1 u.2.2.2.1 u.2.2.2.2) (fun u t => xB D cA A (wdProgram_addStep cA ad N u.1 u.2.1 u.2.2.1 u.2.2.2.1 u.2.2.2.2) t) A
abbrev rmProgram_addStep : Room := { frames := 0, cells := 0, slots := 0, locals := 0 }
set_option maxHeartbeats 4000000 in
set_option maxRecDepth 100000 in
theorem ktProgram_addStep (l : Launch) (D : va_G) (cA : ClassId) (ad : Nat → Nat) (N : Nat) (sz : Nat) (stepCount : Nat → Int32) (kind : Nat → Int32) (target : Nat → Int32) (first : Nat → Int32) (second : Nat → Int32) (v1 : Int32) (v2 : Int32) (v3 : Int32) (v4 : Int32) (v5 : Int32) (post : (Nat → Int32) → (Nat → Int32) → (Nat → Int32) → (Nat → Int32) → (Nat → Int32) → Prop) (hw : wpProgram_addStep N stepCount kind target first second v1 v2 v3 v4 v5 post) : Met l yProgram_addStep (Cond.code yProgram_addStep cProgram_addStep 7 none :: xW) rmProgram_addStep (va_Pc [.ref (ad 1), .int v1, .int v2, .int v3, .int v4, .int v5] (xPc D cA (wdProgram_addStep cA ad N stepCount kind target first second) sz)) (qcProgram_addStep D cA ad N stepCount kind target first second post (va_A (wdProgram_addStep cA ad N stepCount kind target first second) sz)) 0 0 (va_A (wdProgram_addStep cA ad N stepCount kind target first second) sz) := by
  refine Met.ofW (cc := cProgram_addStep) (maxL := 7) (ret := none) (by decide) rfl ?_
  intro p e s m args below meth c s₁ B hml hv
  obtain ⟨rfl, hsz, hP, hK, hD0, hN⟩ := hv
  have hx := B.exec
  have hb := B.bytes
  have hr := B.returns
  have hts := atoms_spec (ws := (Cond.code yProgram_addStep cProgram_addStep 7 none :: xW)) B.pre
  have hown : s.vm.findClass "OnceNamed$Program" = some m.cls := findClass_of_methodNamed B.named
  have hlocks := B.notSynchronized
  subst hsz
  have hD := hD0.self (sz := s.heap.size)
  generalize hAe : va_A (wdProgram_addStep cA ad N stepCount kind target first second) s.heap.size = A at hD ⊢
  have hA : ∀ q : Nat, s.heap.size ≤ q → A q := fun q h => by rw [← hAe]; exact Or.inr h
  have hS : va_S A s.heap s.heap [] := va_S.rf
  have hend : ∀ (u0 : Nat → Int32) (u1 : Nat → Int32) (u2 : Nat → Int32) (u3 : Nat → Int32) (u4 : Nat → Int32) (H : Heap) (locs : List Loc) (pc : Nat) (ls : Array Slot), decode cProgram_addStep pc = .ok (.return_, 1) → va_P D vwCl (wdProgram_addStep cA ad N u0 u1 u2 u3 u4) H → va_D A (wdProgram_addStep cA ad N u0 u1 u2 u3 u4) → va_S A s.heap H locs → post u0 u1 u2 u3 u4 → W p l e (headSpec (Cond.code yProgram_addStep cProgram_addStep 7 none :: xW) rmProgram_addStep).room s m ([.ref (ad 1), .int v1, .int v2, .int v3, .int v4, .int v5] : List Value).toArray below meth c H locs 0 0 (MQ below (qcProgram_addStep D cA ad N stepCount kind target first second post A) ([.ref (ad 1), .int v1, .int v2, .int v3, .int v4, .int v5] : List Value).toArray s 0 0 A) (F0 m pc ls []) := fun u0 u1 u2 u3 u4 H locs pc ls hd hP hD hS hw => W.vret hx hb hr (fun t ht hW => ⟨⟨(u0, u1, u2, u3, u4), rfl, hw, ⟨by rw [ht]; exact hP, va_K.moved hW.alike hK, hD⟩⟩, hS.F ht⟩) hS.2.2 hd
  generalize hQ : MQ below (qcProgram_addStep D cA ad N stepCount kind target first second post A) ([.ref (ad 1), .int v1, .int v2, .int v3, .int v4, .int v5] : List Value).toArray s 0 0 A = Q at hend ⊢
  have hl := lv_entry ([.ref (ad 1), .int v1, .int v2, .int v3, .int v4, .int v5]) (n := 7) (Nat.le_of_ble_eq_true rfl)
  rw [lg_entry_eq]
  generalize (lg_sl ([.ref (ad 1), .int v1, .int v2, .int v3, .int v4, .int v5]) ++ List.replicate (7 - (lg_sl ([.ref (ad 1), .int v1, .int v2, .int v3, .int v4, .int v5])).length) Slot.unset).toArray = ls at hl ⊢
  have hl : lv_has ls 7 [(0, .ref (ad 1)), (1, .int v1), (2, .int v2), (3, .int v3), (4, .int v4), (5, .int v5)] := hl
  unfold wpProgram_addStep at hw
  refine lv_iload_n hx hb dProgram_addStep_0 rfl (lv_at hl 1 rfl) ?_
  refine lv_bipush (v := 6) hx hb dProgram_addStep_1 (by decide) ?_
  refine lv_imul hx hb dProgram_addStep_3 ?_
  refine lv_aload_n hx hb dProgram_addStep_4 rfl (lv_at hl 0 rfl) ?_
  refine va_get (D := D) (ci := 1) (v := .ref (ad 2)) (C := "OnceNamed$Program") (T := TX1) (N := 10) hx hb hts (fun w h => List.mem_cons_of_mem _ (inX1 w h)) hown hK hP 0 rfl rfl 1 (by decide) (hts _ (List.mem_cons_of_mem _ kw_45)) (fun _ h9 => h9) rfl dProgram_addStep_5 ?_
  refine lv_iload_n hx hb dProgram_addStep_8 rfl (lv_at hl 1 rfl) ?_
  have ho := hw.1
  have hw := hw.2
  refine va_iald hx hb hK hP 1 0 rfl rfl ho dProgram_addStep_9 ?_
  refine lv_iadd hx hb dProgram_addStep_10 ?_
  refine lv_topi (fun v6_11 e_v6_11 => ?_)
  have hw := hw v6_11 e_v6_11
  refine lv_istore (lv' := [(6, .int v6_11), (0, .ref (ad 1)), (1, .int v1), (2, .int v2), (3, .int v3), (4, .int v4), (5, .int v5)]) hx hb dProgram_addStep_11 hl (by decide) rfl (fun ls hl => ?_)
  refine lv_aload_n hx hb dProgram_addStep_13 rfl (lv_at hl 1 rfl) ?_
  refine va_get (D := D) (ci := 1) (v := .ref (ad 3)) (C := "OnceNamed$Program") (T := TX1) (N := 10) hx hb hts (fun w h => List.mem_cons_of_mem _ (inX1 w h)) hown hK hP 0 rfl rfl 2 (by decide) (hts _ (List.mem_cons_of_mem _ kw_46)) (fun _ h9 => h9) rfl dProgram_addStep_14 ?_
  refine lv_iload hx hb dProgram_addStep_17 (lv_at hl 0 rfl) ?_
  refine lv_iload_n hx hb dProgram_addStep_19 rfl (lv_at hl 3 rfl) ?_
  have ho := hw.1
  have hw := hw.2
  refine va_iast hx hb hK hP hD hS 2 0 rfl rfl ho dProgram_addStep_20 (fun H locs hP hD hS => ?_)
  have hP : va_P D vwCl (wdProgram_addStep cA ad N stepCount (upd kind (Int32.toNatClampNeg v6_11) v2) target first second) H := hP
  have hD : va_D A (wdProgram_addStep cA ad N stepCount (upd kind (Int32.toNatClampNeg v6_11) v2) target first second) := hD
  refine lv_aload_n hx hb dProgram_addStep_21 rfl (lv_at hl 1 rfl) ?_
  refine va_get (D := D) (ci := 1) (v := .ref (ad 4)) (C := "OnceNamed$Program") (T := TX1) (N := 10) hx hb hts (fun w h => List.mem_cons_of_mem _ (inX1 w h)) hown hK hP 0 rfl rfl 3 (by decide) (hts _ (List.mem_cons_of_mem _ kw_47)) (fun _ h9 => h9) rfl dProgram_addStep_22 ?_
  refine lv_iload hx hb dProgram_addStep_25 (lv_at hl 0 rfl) ?_
  refine lv_iload_n hx hb dProgram_addStep_27 rfl (lv_at hl 4 rfl) ?_
  have ho := hw.1
  have hw := hw.2
  refine va_iast hx hb hK hP hD hS 3 0 rfl rfl ho dProgram_addStep_28 (fun H locs hP hD hS => ?_)
  have hP : va_P D vwCl (wdProgram_addStep cA ad N stepCount (upd kind (Int32.toNatClampNeg v6_11) v2) (upd target (Int32.toNatClampNeg v6_11) v3) first second) H := hP
  have hD : va_D A (wdProgram_addStep cA ad N stepCount (upd kind (Int32.toNatClampNeg v6_11) v2) (upd target (Int32.toNatClampNeg v6_11) v3) first second) := hD
  refine lv_aload_n hx hb dProgram_addStep_29 rfl (lv_at hl 1 rfl) ?_
  refine va_get (D := D) (ci := 1) (v := .ref (ad 5)) (C := "OnceNamed$Program") (T := TX1) (N := 10) hx hb hts (fun w h => List.mem_cons_of_mem _ (inX1 w h)) hown hK hP 0 rfl rfl 4 (by decide) (hts _ (List.mem_cons_of_mem _ kw_48)) (fun _ h9 => h9) rfl dProgram_addStep_30 ?_
  refine lv_iload hx hb dProgram_addStep_33 (lv_at hl 0 rfl) ?_
  refine lv_iload hx hb dProgram_addStep_35 (lv_at hl 5 rfl) ?_
  have ho := hw.1
  have hw := hw.2
  refine va_iast hx hb hK hP hD hS 4 0 rfl rfl ho dProgram_addStep_37 (fun H locs hP hD hS => ?_)
  have hP : va_P D vwCl (wdProgram_addStep cA ad N stepCount (upd kind (Int32.toNatClampNeg v6_11) v2) (upd target (Int32.toNatClampNeg v6_11) v3) (upd first (Int32.toNatClampNeg v6_11) v4) second) H := hP
  have hD : va_D A (wdProgram_addStep cA ad N stepCount (upd kind (Int32.toNatClampNeg v6_11) v2) (upd target (Int32.toNatClampNeg v6_11) v3) (upd first (Int32.toNatClampNeg v6_11) v4) second) := hD
  refine lv_aload_n hx hb dProgram_addStep_38 rfl (lv_at hl 1 rfl) ?_
  refine va_get (D := D) (ci := 1) (v := .ref (ad 6)) (C := "OnceNamed$Program") (T := TX1) (N := 10) hx hb hts (fun w h => List.mem_cons_of_mem _ (inX1 w h)) hown hK hP 0 rfl rfl 5 (by decide) (hts _ (List.mem_cons_of_mem _ kw_49)) (fun _ h9 => h9) rfl dProgram_addStep_39 ?_
  refine lv_iload hx hb dProgram_addStep_42 (lv_at hl 0 rfl) ?_
  refine lv_iload hx hb dProgram_addStep_44 (lv_at hl 6 rfl) ?_
  have ho := hw.1
  have hw := hw.2
  refine va_iast hx hb hK hP hD hS 5 0 rfl rfl ho dProgram_addStep_46 (fun H locs hP hD hS => ?_)
  have hP : va_P D vwCl (wdProgram_addStep cA ad N stepCount (upd kind (Int32.toNatClampNeg v6_11) v2) (upd target (Int32.toNatClampNeg v6_11) v3) (upd first (Int32.toNatClampNeg v6_11) v4) (upd second (Int32.toNatClampNeg v6_11) v5)) H := hP
  have hD : va_D A (wdProgram_addStep cA ad N stepCount (upd kind (Int32.toNatClampNeg v6_11) v2) (upd target (Int32.toNatClampNeg v6_11) v3) (upd first (Int32.toNatClampNeg v6_11) v4) (upd second (Int32.toNatClampNeg v6_11) v5)) := hD
  refine lv_aload_n hx hb dProgram_addStep_47 rfl (lv_at hl 1 rfl) ?_
  refine va_get (D := D) (ci := 1) (v := .ref (ad 2)) (C := "OnceNamed$Program") (T := TX1) (N := 10) hx hb hts (fun w h => List.mem_cons_of_mem _ (inX1 w h)) hown hK hP 0 rfl rfl 1 (by decide) (hts _ (List.mem_cons_of_mem _ kw_45)) (fun _ h9 => h9) rfl dProgram_addStep_48 ?_
  refine lv_iload_n hx hb dProgram_addStep_51 rfl (lv_at hl 2 rfl) ?_
  refine lv_dup2_11 hx hb dProgram_addStep_52 rfl rfl ?_
  have ho := hw.1
  have hw := hw.2
  refine va_iald hx hb hK hP 1 0 rfl rfl ho dProgram_addStep_53 ?_
  refine lv_iconst (v := 1) hx hb dProgram_addStep_54 (by decide) ?_
  refine lv_iadd hx hb dProgram_addStep_55 ?_
  have ho := hw.1
  have hw := hw.2
  refine va_iast hx hb hK hP hD hS 1 0 rfl rfl ho dProgram_addStep_56 (fun H locs hP hD hS => ?_)
  have hP : va_P D vwCl (wdProgram_addStep cA ad N (upd stepCount (Int32.toNatClampNeg v1) ((stepCount (Int32.toNatClampNeg v1)) + 1)) (upd kind (Int32.toNatClampNeg v6_11) v2) (upd target (Int32.toNatClampNeg v6_11) v3) (upd first (Int32.toNatClampNeg v6_11) v4) (upd second (Int32.toNatClampNeg v6_11) v5)) H := hP
  have hD : va_D A (wdProgram_addStep cA ad N (upd stepCount (Int32.toNatClampNeg v1) ((stepCount (Int32.toNatClampNeg v1)) + 1)) (upd kind (Int32.toNatClampNeg v6_11) v2) (upd target (Int32.toNatClampNeg v6_11) v3) (upd first (Int32.toNatClampNeg v6_11) v4) (upd second (Int32.toNatClampNeg v6_11) v5)) := hD
  exact hend (upd stepCount (Int32.toNatClampNeg v1) ((stepCount (Int32.toNatClampNeg v1)) + 1)) (upd kind (Int32.toNatClampNeg v6_11) v2) (upd target (Int32.toNatClampNeg v6_11) v3) (upd first (Int32.toNatClampNeg v6_11) v4) (upd second (Int32.toNatClampNeg v6_11) v5) _ _ _ _ dProgram_addStep_57 hP hD hS hw
abbrev wdProgram_changeEnd (cA : ClassId) (ad : Nat → Nat) (N : Nat) (forkVariable : Nat → Int32) (yes : Nat → Int32) (no : Nat → Int32) : va_W := [((ad 1), .inr (1, [.int (nI N), .ref (ad 2), .ref (ad 3), .ref (ad 4), .ref (ad 5), .ref (ad 6), .ref (ad 7), .ref (ad 8), .ref (ad 9), .ref (ad 10)])), ((ad 7), .inl (cA, N, .inl forkVariable)), ((ad 8), .inl (cA, N, .inl yes)), ((ad 9), .inl (cA, N, .inl no))]
abbrev qcProgram_changeEnd (D : va_G) (cA : ClassId) (ad : Nat → Nat) (N : Nat) (forkVariable : Nat → Int32) (yes : Nat → Int32) (no : Nat → Int32) (post : (Nat → Int32) → (Nat → Int32) → (Nat → Int32) → Prop) (A : Nat → Prop) : Array Value → State → Outcome → State → Prop := va_Qv (S := (Nat → Int32) × (Nat → Int32) × (Nat → Int32)) (fun u => post u.1 u.2.1 u.2.2) (fun u t => xB D cA A (wdProgram_changeEnd cA ad N u.1 u.2.1 u.2.2) t) A
abbrev rmProgram_changeEnd : Room := { frames := 0, cells := 0, slots := 0, locals := 0 }
set_option maxHeartbeats 4000000 in
set_option maxRecDepth 100000 in
theorem ktProgram_changeEnd (l : Launch) (D : va_G) (cA : ClassId) (ad : Nat → Nat) (N : Nat) (sz : Nat) (forkVariable : Nat → Int32) (yes : Nat → Int32) (no : Nat → Int32) (v1 : Int32) (v2 : Int32) (v3 : Int32) (v4 : Int32) (post : (Nat → Int32) → (Nat → Int32) → (Nat → Int32) → Prop) (hw : wpProgram_changeEnd N forkVariable yes no v1 v2 v3 v4 post) : Met l yProgram_changeEnd (Cond.code yProgram_changeEnd cProgram_changeEnd 5 none :: xW) rmProgram_changeEnd (va_Pc [.ref (ad 1), .int v1, .int v2, .int v3, .int v4] (xPc D cA (wdProgram_changeEnd cA ad N forkVariable yes no) sz)) (qcProgram_changeEnd D cA ad N forkVariable yes no post (va_A (wdProgram_changeEnd cA ad N forkVariable yes no) sz)) 0 0 (va_A (wdProgram_changeEnd cA ad N forkVariable yes no) sz) := by
  refine Met.ofW (cc := cProgram_changeEnd) (maxL := 5) (ret := none) (by decide) rfl ?_
  intro p e s m args below meth c s₁ B hml hv
  obtain ⟨rfl, hsz, hP, hK, hD0, hN⟩ := hv
  have hx := B.exec
  have hb := B.bytes
  have hr := B.returns
  have hts := atoms_spec (ws := (Cond.code yProgram_changeEnd cProgram_changeEnd 5 none :: xW)) B.pre
  have hown : s.vm.findClass "OnceNamed$Program" = some m.cls := findClass_of_methodNamed B.named
  have hlocks := B.notSynchronized
  subst hsz
  have hD := hD0.self (sz := s.heap.size)
  generalize hAe : va_A (wdProgram_changeEnd cA ad N forkVariable yes no) s.heap.size = A at hD ⊢
  have hA : ∀ q : Nat, s.heap.size ≤ q → A q := fun q h => by rw [← hAe]; exact Or.inr h
  have hS : va_S A s.heap s.heap [] := va_S.rf
  have hend : ∀ (u0 : Nat → Int32) (u1 : Nat → Int32) (u2 : Nat → Int32) (H : Heap) (locs : List Loc) (pc : Nat) (ls : Array Slot), decode cProgram_changeEnd pc = .ok (.return_, 1) → va_P D vwCl (wdProgram_changeEnd cA ad N u0 u1 u2) H → va_D A (wdProgram_changeEnd cA ad N u0 u1 u2) → va_S A s.heap H locs → post u0 u1 u2 → W p l e (headSpec (Cond.code yProgram_changeEnd cProgram_changeEnd 5 none :: xW) rmProgram_changeEnd).room s m ([.ref (ad 1), .int v1, .int v2, .int v3, .int v4] : List Value).toArray below meth c H locs 0 0 (MQ below (qcProgram_changeEnd D cA ad N forkVariable yes no post A) ([.ref (ad 1), .int v1, .int v2, .int v3, .int v4] : List Value).toArray s 0 0 A) (F0 m pc ls []) := fun u0 u1 u2 H locs pc ls hd hP hD hS hw => W.vret hx hb hr (fun t ht hW => ⟨⟨(u0, u1, u2), rfl, hw, ⟨by rw [ht]; exact hP, va_K.moved hW.alike hK, hD⟩⟩, hS.F ht⟩) hS.2.2 hd
  generalize hQ : MQ below (qcProgram_changeEnd D cA ad N forkVariable yes no post A) ([.ref (ad 1), .int v1, .int v2, .int v3, .int v4] : List Value).toArray s 0 0 A = Q at hend ⊢
  have hl := lv_entry ([.ref (ad 1), .int v1, .int v2, .int v3, .int v4]) (n := 5) (Nat.le_of_ble_eq_true rfl)
  rw [lg_entry_eq]
  generalize (lg_sl ([.ref (ad 1), .int v1, .int v2, .int v3, .int v4]) ++ List.replicate (5 - (lg_sl ([.ref (ad 1), .int v1, .int v2, .int v3, .int v4])).length) Slot.unset).toArray = ls at hl ⊢
  have hl : lv_has ls 5 [(0, .ref (ad 1)), (1, .int v1), (2, .int v2), (3, .int v3), (4, .int v4)] := hl
  unfold wpProgram_changeEnd at hw
  refine lv_aload_n hx hb dProgram_changeEnd_0 rfl (lv_at hl 0 rfl) ?_
  refine va_get (D := D) (ci := 1) (v := .ref (ad 7)) (C := "OnceNamed$Program") (T := TX1) (N := 10) hx hb hts (fun w h => List.mem_cons_of_mem _ (inX1 w h)) hown hK hP 0 rfl rfl 6 (by decide) (hts _ (List.mem_cons_of_mem _ kw_50)) (fun _ h9 => h9) rfl dProgram_changeEnd_1 ?_
  refine lv_iload_n hx hb dProgram_changeEnd_4 rfl (lv_at hl 1 rfl) ?_
  refine lv_iload_n hx hb dProgram_changeEnd_5 rfl (lv_at hl 2 rfl) ?_
  have ho := hw.1
  have hw := hw.2
  refine va_iast hx hb hK hP hD hS 1 0 rfl rfl ho dProgram_changeEnd_6 (fun H locs hP hD hS => ?_)
  have hP : va_P D vwCl (wdProgram_changeEnd cA ad N (upd forkVariable (Int32.toNatClampNeg v1) v2) yes no) H := hP
  have hD : va_D A (wdProgram_changeEnd cA ad N (upd forkVariable (Int32.toNatClampNeg v1) v2) yes no) := hD
  refine lv_aload_n hx hb dProgram_changeEnd_7 rfl (lv_at hl 0 rfl) ?_
  refine va_get (D := D) (ci := 1) (v := .ref (ad 8)) (C := "OnceNamed$Program") (T := TX1) (N := 10) hx hb hts (fun w h => List.mem_cons_of_mem _ (inX1 w h)) hown hK hP 0 rfl rfl 7 (by decide) (hts _ (List.mem_cons_of_mem _ kw_51)) (fun _ h9 => h9) rfl dProgram_changeEnd_8 ?_
  refine lv_iload_n hx hb dProgram_changeEnd_11 rfl (lv_at hl 1 rfl) ?_
  refine lv_iload_n hx hb dProgram_changeEnd_12 rfl (lv_at hl 3 rfl) ?_
  have ho := hw.1
  have hw := hw.2
  refine va_iast hx hb hK hP hD hS 2 0 rfl rfl ho dProgram_changeEnd_13 (fun H locs hP hD hS => ?_)
  have hP : va_P D vwCl (wdProgram_changeEnd cA ad N (upd forkVariable (Int32.toNatClampNeg v1) v2) (upd yes (Int32.toNatClampNeg v1) v3) no) H := hP
  have hD : va_D A (wdProgram_changeEnd cA ad N (upd forkVariable (Int32.toNatClampNeg v1) v2) (upd yes (Int32.toNatClampNeg v1) v3) no) := hD
  refine lv_aload_n hx hb dProgram_changeEnd_14 rfl (lv_at hl 0 rfl) ?_
  refine va_get (D := D) (ci := 1) (v := .ref (ad 9)) (C := "OnceNamed$Program") (T := TX1) (N := 10) hx hb hts (fun w h => List.mem_cons_of_mem _ (inX1 w h)) hown hK hP 0 rfl rfl 8 (by decide) (hts _ (List.mem_cons_of_mem _ kw_52)) (fun _ h9 => h9) rfl dProgram_changeEnd_15 ?_
  refine lv_iload_n hx hb dProgram_changeEnd_18 rfl (lv_at hl 1 rfl) ?_
  refine lv_iload hx hb dProgram_changeEnd_19 (lv_at hl 4 rfl) ?_
  have ho := hw.1
  have hw := hw.2
  refine va_iast hx hb hK hP hD hS 3 0 rfl rfl ho dProgram_changeEnd_21 (fun H locs hP hD hS => ?_)
  have hP : va_P D vwCl (wdProgram_changeEnd cA ad N (upd forkVariable (Int32.toNatClampNeg v1) v2) (upd yes (Int32.toNatClampNeg v1) v3) (upd no (Int32.toNatClampNeg v1) v4)) H := hP
  have hD : va_D A (wdProgram_changeEnd cA ad N (upd forkVariable (Int32.toNatClampNeg v1) v2) (upd yes (Int32.toNatClampNeg v1) v3) (upd no (Int32.toNatClampNeg v1) v4)) := hD
  exact hend (upd forkVariable (Int32.toNatClampNeg v1) v2) (upd yes (Int32.toNatClampNeg v1) v3) (upd no (Int32.toNatClampNeg v1) v4) _ _ _ _ dProgram_changeEnd_22 hP hD hS hw
abbrev wdProgram_changeStart (cA : ClassId) (ad : Nat → Nat) (N : Nat) (starts : Nat → Int32) : va_W := [((ad 1), .inr (1, [.int (nI N), .ref (ad 2), .ref (ad 3), .ref (ad 4), .ref (ad 5), .ref (ad 6), .ref (ad 7), .ref (ad 8), .ref (ad 9), .ref (ad 10)])), ((ad 10), .inl (cA, 6, .inl starts))]
abbrev qcProgram_changeStart (D : va_G) (cA : ClassId) (ad : Nat → Nat) (N : Nat) (starts : Nat → Int32) (post : (Nat → Int32) → Prop) (A : Nat → Prop) : Array Value → State → Outcome → State → Prop := va_Qv (S := (Nat → Int32)) (fun u => post u) (fun u t => xB D cA A (wdProgram_changeStart cA ad N u) t) A
abbrev rmProgram_changeStart : Room := { frames := 0, cells := 0, slots := 0, locals := 0 }
set_option maxHeartbeats 4000000 in
set_option maxRecDepth 100000 in
theorem ktProgram_changeStart (l : Launch) (D : va_G) (cA : ClassId) (ad : Nat → Nat) (N : Nat) (sz : Nat) (starts : Nat → Int32) (v1 : Int32) (v2 : Int32) (post : (Nat → Int32) → Prop) (hw : wpProgram_changeStart starts v1 v2 post) : Met l yProgram_changeStart (Cond.code yProgram_changeStart cProgram_changeStart 3 none :: xW) rmProgram_changeStart (va_Pc [.ref (ad 1), .int v1, .int v2] (xPc D cA (wdProgram_changeStart cA ad N starts) sz)) (qcProgram_changeStart D cA ad N starts post (va_A (wdProgram_changeStart cA ad N starts) sz)) 0 0 (va_A (wdProgram_changeStart cA ad N starts) sz) := by
  refine Met.ofW (cc := cProgram_changeStart) (maxL := 3) (ret := none) (by decide) rfl ?_
  intro p e s m args below meth c s₁ B hml hv
  obtain ⟨rfl, hsz, hP, hK, hD0, hN⟩ := hv
  have hx := B.exec
  have hb := B.bytes
  have hr := B.returns
  have hts := atoms_spec (ws := (Cond.code yProgram_changeStart cProgram_changeStart 3 none :: xW)) B.pre
  have hown : s.vm.findClass "OnceNamed$Program" = some m.cls := findClass_of_methodNamed B.named
  have hlocks := B.notSynchronized
  subst hsz
  have hD := hD0.self (sz := s.heap.size)
  generalize hAe : va_A (wdProgram_changeStart cA ad N starts) s.heap.size = A at hD ⊢
  have hA : ∀ q : Nat, s.heap.size ≤ q → A q := fun q h => by rw [← hAe]; exact Or.inr h
  have hS : va_S A s.heap s.heap [] := va_S.rf
  have hend : ∀ (u0 : Nat → Int32) (H : Heap) (locs : List Loc) (pc : Nat) (ls : Array Slot), decode cProgram_changeStart pc = .ok (.return_, 1) → va_P D vwCl (wdProgram_changeStart cA ad N u0) H → va_D A (wdProgram_changeStart cA ad N u0) → va_S A s.heap H locs → post u0 → W p l e (headSpec (Cond.code yProgram_changeStart cProgram_changeStart 3 none :: xW) rmProgram_changeStart).room s m ([.ref (ad 1), .int v1, .int v2] : List Value).toArray below meth c H locs 0 0 (MQ below (qcProgram_changeStart D cA ad N starts post A) ([.ref (ad 1), .int v1, .int v2] : List Value).toArray s 0 0 A) (F0 m pc ls []) := fun u0 H locs pc ls hd hP hD hS hw => W.vret hx hb hr (fun t ht hW => ⟨⟨u0, rfl, hw, ⟨by rw [ht]; exact hP, va_K.moved hW.alike hK, hD⟩⟩, hS.F ht⟩) hS.2.2 hd
  generalize hQ : MQ below (qcProgram_changeStart D cA ad N starts post A) ([.ref (ad 1), .int v1, .int v2] : List Value).toArray s 0 0 A = Q at hend ⊢
  have hl := lv_entry ([.ref (ad 1), .int v1, .int v2]) (n := 3) (Nat.le_of_ble_eq_true rfl)
  rw [lg_entry_eq]
  generalize (lg_sl ([.ref (ad 1), .int v1, .int v2]) ++ List.replicate (3 - (lg_sl ([.ref (ad 1), .int v1, .int v2])).length) Slot.unset).toArray = ls at hl ⊢
  have hl : lv_has ls 3 [(0, .ref (ad 1)), (1, .int v1), (2, .int v2)] := hl
  unfold wpProgram_changeStart at hw
  refine lv_aload_n hx hb dProgram_changeStart_0 rfl (lv_at hl 0 rfl) ?_
  refine va_get (D := D) (ci := 1) (v := .ref (ad 10)) (C := "OnceNamed$Program") (T := TX1) (N := 10) hx hb hts (fun w h => List.mem_cons_of_mem _ (inX1 w h)) hown hK hP 0 rfl rfl 9 (by decide) (hts _ (List.mem_cons_of_mem _ kw_53)) (fun _ h9 => h9) rfl dProgram_changeStart_1 ?_
  refine lv_iload_n hx hb dProgram_changeStart_4 rfl (lv_at hl 1 rfl) ?_
  refine lv_iload_n hx hb dProgram_changeStart_5 rfl (lv_at hl 2 rfl) ?_
  have ho := hw.1
  have hw := hw.2
  refine va_iast hx hb hK hP hD hS 1 0 rfl rfl ho dProgram_changeStart_6 (fun H locs hP hD hS => ?_)
  have hP : va_P D vwCl (wdProgram_changeStart cA ad N (upd starts (Int32.toNatClampNeg v1) v2)) H := hP
  have hD : va_D A (wdProgram_changeStart cA ad N (upd starts (Int32.toNatClampNeg v1) v2)) := hD
  exact hend (upd starts (Int32.toNatClampNeg v1) v2) _ _ _ _ dProgram_changeStart_7 hP hD hS hw
abbrev wdProgram_startOf (cA : ClassId) (ad : Nat → Nat) (N : Nat) (starts : Nat → Int32) : va_W := [((ad 1), .inr (1, [.int (nI N), .ref (ad 2), .ref (ad 3), .ref (ad 4), .ref (ad 5), .ref (ad 6), .ref (ad 7), .ref (ad 8), .ref (ad 9), .ref (ad 10)])), ((ad 10), .inl (cA, 6, .inl starts))]
abbrev qcProgram_startOf (D : va_G) (cA : ClassId) (ad : Nat → Nat) (N : Nat) (starts : Nat → Int32) (post : Int32 → Prop) (A : Nat → Prop) : Array Value → State → Outcome → State → Prop := va_Qi (S := Unit) (fun r u => post r ) (fun u t => xB D cA A (wdProgram_startOf cA ad N starts) t) A
abbrev rmProgram_startOf : Room := { frames := 0, cells := 0, slots := 0, locals := 0 }
set_option maxHeartbeats 4000000 in
set_option maxRecDepth 100000 in
theorem ktProgram_startOf (l : Launch) (D : va_G) (cA : ClassId) (ad : Nat → Nat) (N : Nat) (sz : Nat) (starts : Nat → Int32) (v1 : Int32) (post : Int32 → Prop) (hw : wpProgram_startOf starts v1 post) : Met l yProgram_startOf (Cond.code yProgram_startOf cProgram_startOf 2 (some .int) :: xW) rmProgram_startOf (va_Pc [.ref (ad 1), .int v1] (xPc D cA (wdProgram_startOf cA ad N starts) sz)) (qcProgram_startOf D cA ad N starts post (va_A (wdProgram_startOf cA ad N starts) sz)) 0 0 (va_A (wdProgram_startOf cA ad N starts) sz) := by
  refine Met.ofW (cc := cProgram_startOf) (maxL := 2) (ret := (some .int)) (by decide) rfl ?_
  intro p e s m args below meth c s₁ B hml hv
  obtain ⟨rfl, hsz, hP, hK, hD0, hN⟩ := hv
  have hx := B.exec
  have hb := B.bytes
  have hr := B.returns
  have hts := atoms_spec (ws := (Cond.code yProgram_startOf cProgram_startOf 2 (some .int) :: xW)) B.pre
  have hown : s.vm.findClass "OnceNamed$Program" = some m.cls := findClass_of_methodNamed B.named
  have hlocks := B.notSynchronized
  subst hsz
  have hD := hD0.self (sz := s.heap.size)
  generalize hAe : va_A (wdProgram_startOf cA ad N starts) s.heap.size = A at hD ⊢
  have hA : ∀ q : Nat, s.heap.size ≤ q → A q := fun q h => by rw [← hAe]; exact Or.inr h
  have hS : va_S A s.heap s.heap [] := va_S.rf
  have hend : ∀ (r : Int32)  (H : Heap) (locs : List Loc) (pc : Nat) (ls : Array Slot), decode cProgram_startOf pc = .ok (.ireturn, 1) → va_P D vwCl (wdProgram_startOf cA ad N starts) H → va_D A (wdProgram_startOf cA ad N starts) → va_S A s.heap H locs → post r  → W p l e (headSpec (Cond.code yProgram_startOf cProgram_startOf 2 (some .int) :: xW) rmProgram_startOf).room s m ([.ref (ad 1), .int v1] : List Value).toArray below meth c H locs 0 0 (MQ below (qcProgram_startOf D cA ad N starts post A) ([.ref (ad 1), .int v1] : List Value).toArray s 0 0 A) (F0 m pc ls [.int r]) := fun r  H locs pc ls hd hP hD hS hw => W.iret (v := r) hx hb hr (fun t ht hW => ⟨⟨r, (), rfl, hw, ⟨by rw [ht]; exact hP, va_K.moved hW.alike hK, hD⟩⟩, hS.F ht⟩) hS.2.2 hd
  generalize hQ : MQ below (qcProgram_startOf D cA ad N starts post A) ([.ref (ad 1), .int v1] : List Value).toArray s 0 0 A = Q at hend ⊢
  have hl := lv_entry ([.ref (ad 1), .int v1]) (n := 2) (Nat.le_of_ble_eq_true rfl)
  rw [lg_entry_eq]
  generalize (lg_sl ([.ref (ad 1), .int v1]) ++ List.replicate (2 - (lg_sl ([.ref (ad 1), .int v1])).length) Slot.unset).toArray = ls at hl ⊢
  have hl : lv_has ls 2 [(0, .ref (ad 1)), (1, .int v1)] := hl
  unfold wpProgram_startOf at hw
  refine lv_aload_n hx hb dProgram_startOf_0 rfl (lv_at hl 0 rfl) ?_
  refine va_get (D := D) (ci := 1) (v := .ref (ad 10)) (C := "OnceNamed$Program") (T := TX1) (N := 10) hx hb hts (fun w h => List.mem_cons_of_mem _ (inX1 w h)) hown hK hP 0 rfl rfl 9 (by decide) (hts _ (List.mem_cons_of_mem _ kw_53)) (fun _ h9 => h9) rfl dProgram_startOf_1 ?_
  refine lv_iload_n hx hb dProgram_startOf_4 rfl (lv_at hl 1 rfl) ?_
  have ho := hw.1
  have hw := hw.2
  refine va_iald hx hb hK hP 1 0 rfl rfl ho dProgram_startOf_5 ?_
  exact hend (starts (Int32.toNatClampNeg v1)) _ _ _ _ dProgram_startOf_6 hP hD hS hw
abbrev wdProgram_kindOf (cA : ClassId) (ad : Nat → Nat) (N : Nat) (kind : Nat → Int32) : va_W := [((ad 1), .inr (1, [.int (nI N), .ref (ad 2), .ref (ad 3), .ref (ad 4), .ref (ad 5), .ref (ad 6), .ref (ad 7), .ref (ad 8), .ref (ad 9), .ref (ad 10)])), ((ad 3), .inl (cA, N * 6, .inl kind))]
abbrev qcProgram_kindOf (D : va_G) (cA : ClassId) (ad : Nat → Nat) (N : Nat) (kind : Nat → Int32) (post : Int32 → Prop) (A : Nat → Prop) : Array Value → State → Outcome → State → Prop := va_Qi (S := Unit) (fun r u => post r ) (fun u t => xB D cA A (wdProgram_kindOf cA ad N kind) t) A
abbrev rmProgram_kindOf : Room := { frames := 0, cells := 0, slots := 0, locals := 0 }
set_option maxHeartbeats 4000000 in
set_option maxRecDepth 100000 in
theorem ktProgram_kindOf (l : Launch) (D : va_G) (cA : ClassId) (ad : Nat → Nat) (N : Nat) (sz : Nat) (kind : Nat → Int32) (v1 : Int32) (v2 : Int32) (post : Int32 → Prop) (hw : wpProgram_kindOf N kind v1 v2 post) : Met l yProgram_kindOf (Cond.code yProgram_kindOf cProgram_kindOf 3 (some .int) :: xW) rmProgram_kindOf (va_Pc [.ref (ad 1), .int v1, .int v2] (xPc D cA (wdProgram_kindOf cA ad N kind) sz)) (qcProgram_kindOf D cA ad N kind post (va_A (wdProgram_kindOf cA ad N kind) sz)) 0 0 (va_A (wdProgram_kindOf cA ad N kind) sz) := by
  refine Met.ofW (cc := cProgram_kindOf) (maxL := 3) (ret := (some .int)) (by decide) rfl ?_
  intro p e s m args below meth c s₁ B hml hv
  obtain ⟨rfl, hsz, hP, hK, hD0, hN⟩ := hv
  have hx := B.exec
  have hb := B.bytes
  have hr := B.returns
  have hts := atoms_spec (ws := (Cond.code yProgram_kindOf cProgram_kindOf 3 (some .int) :: xW)) B.pre
  have hown : s.vm.findClass "OnceNamed$Program" = some m.cls := findClass_of_methodNamed B.named
  have hlocks := B.notSynchronized
  subst hsz
  have hD := hD0.self (sz := s.heap.size)
  generalize hAe : va_A (wdProgram_kindOf cA ad N kind) s.heap.size = A at hD ⊢
  have hA : ∀ q : Nat, s.heap.size ≤ q → A q := fun q h => by rw [← hAe]; exact Or.inr h
  have hS : va_S A s.heap s.heap [] := va_S.rf
  have hend : ∀ (r : Int32)  (H : Heap) (locs : List Loc) (pc : Nat) (ls : Array Slot), decode cProgram_kindOf pc = .ok (.ireturn, 1) → va_P D vwCl (wdProgram_kindOf cA ad N kind) H → va_D A (wdProgram_kindOf cA ad N kind) → va_S A s.heap H locs → post r  → W p l e (headSpec (Cond.code yProgram_kindOf cProgram_kindOf 3 (some .int) :: xW) rmProgram_kindOf).room s m ([.ref (ad 1), .int v1, .int v2] : List Value).toArray below meth c H locs 0 0 (MQ below (qcProgram_kindOf D cA ad N kind post A) ([.ref (ad 1), .int v1, .int v2] : List Value).toArray s 0 0 A) (F0 m pc ls [.int r]) := fun r  H locs pc ls hd hP hD hS hw => W.iret (v := r) hx hb hr (fun t ht hW => ⟨⟨r, (), rfl, hw, ⟨by rw [ht]; exact hP, va_K.moved hW.alike hK, hD⟩⟩, hS.F ht⟩) hS.2.2 hd
  generalize hQ : MQ below (qcProgram_kindOf D cA ad N kind post A) ([.ref (ad 1), .int v1, .int v2] : List Value).toArray s 0 0 A = Q at hend ⊢
  have hl := lv_entry ([.ref (ad 1), .int v1, .int v2]) (n := 3) (Nat.le_of_ble_eq_true rfl)
  rw [lg_entry_eq]
  generalize (lg_sl ([.ref (ad 1), .int v1, .int v2]) ++ List.replicate (3 - (lg_sl ([.ref (ad 1), .int v1, .int v2])).length) Slot.unset).toArray = ls at hl ⊢
  have hl : lv_has ls 3 [(0, .ref (ad 1)), (1, .int v1), (2, .int v2)] := hl
  unfold wpProgram_kindOf at hw
  refine lv_aload_n hx hb dProgram_kindOf_0 rfl (lv_at hl 0 rfl) ?_
  refine va_get (D := D) (ci := 1) (v := .ref (ad 3)) (C := "OnceNamed$Program") (T := TX1) (N := 10) hx hb hts (fun w h => List.mem_cons_of_mem _ (inX1 w h)) hown hK hP 0 rfl rfl 2 (by decide) (hts _ (List.mem_cons_of_mem _ kw_46)) (fun _ h9 => h9) rfl dProgram_kindOf_1 ?_
  refine lv_iload_n hx hb dProgram_kindOf_4 rfl (lv_at hl 1 rfl) ?_
  refine lv_bipush (v := 6) hx hb dProgram_kindOf_5 (by decide) ?_
  refine lv_imul hx hb dProgram_kindOf_7 ?_
  refine lv_iload_n hx hb dProgram_kindOf_8 rfl (lv_at hl 2 rfl) ?_
  refine lv_iadd hx hb dProgram_kindOf_9 ?_
  have ho := hw.1
  have hw := hw.2
  refine va_iald hx hb hK hP 1 0 rfl rfl ho dProgram_kindOf_10 ?_
  exact hend (kind (Int32.toNatClampNeg ((v1 * 6) + v2))) _ _ _ _ dProgram_kindOf_11 hP hD hS hw
abbrev wdProgram_numberPut (cA : ClassId) (ad : Nat → Nat) (N : Nat) (first : Nat → Int32) : va_W := [((ad 1), .inr (1, [.int (nI N), .ref (ad 2), .ref (ad 3), .ref (ad 4), .ref (ad 5), .ref (ad 6), .ref (ad 7), .ref (ad 8), .ref (ad 9), .ref (ad 10)])), ((ad 5), .inl (cA, N * 6, .inl first))]
abbrev qcProgram_numberPut (D : va_G) (cA : ClassId) (ad : Nat → Nat) (N : Nat) (first : Nat → Int32) (post : Int32 → Prop) (A : Nat → Prop) : Array Value → State → Outcome → State → Prop := va_Qi (S := Unit) (fun r u => post r ) (fun u t => xB D cA A (wdProgram_numberPut cA ad N first) t) A
abbrev rmProgram_numberPut : Room := { frames := 0, cells := 0, slots := 0, locals := 0 }
set_option maxHeartbeats 4000000 in
set_option maxRecDepth 100000 in
theorem ktProgram_numberPut (l : Launch) (D : va_G) (cA : ClassId) (ad : Nat → Nat) (N : Nat) (sz : Nat) (first : Nat → Int32) (v1 : Int32) (v2 : Int32) (post : Int32 → Prop) (hw : wpProgram_numberPut N first v1 v2 post) : Met l yProgram_numberPut (Cond.code yProgram_numberPut cProgram_numberPut 3 (some .int) :: xW) rmProgram_numberPut (va_Pc [.ref (ad 1), .int v1, .int v2] (xPc D cA (wdProgram_numberPut cA ad N first) sz)) (qcProgram_numberPut D cA ad N first post (va_A (wdProgram_numberPut cA ad N first) sz)) 0 0 (va_A (wdProgram_numberPut cA ad N first) sz) := by
  refine Met.ofW (cc := cProgram_numberPut) (maxL := 3) (ret := (some .int)) (by decide) rfl ?_
  intro p e s m args below meth c s₁ B hml hv
  obtain ⟨rfl, hsz, hP, hK, hD0, hN⟩ := hv
  have hx := B.exec
  have hb := B.bytes
  have hr := B.returns
  have hts := atoms_spec (ws := (Cond.code yProgram_numberPut cProgram_numberPut 3 (some .int) :: xW)) B.pre
  have hown : s.vm.findClass "OnceNamed$Program" = some m.cls := findClass_of_methodNamed B.named
  have hlocks := B.notSynchronized
  subst hsz
  have hD := hD0.self (sz := s.heap.size)
  generalize hAe : va_A (wdProgram_numberPut cA ad N first) s.heap.size = A at hD ⊢
  have hA : ∀ q : Nat, s.heap.size ≤ q → A q := fun q h => by rw [← hAe]; exact Or.inr h
  have hS : va_S A s.heap s.heap [] := va_S.rf
  have hend : ∀ (r : Int32)  (H : Heap) (locs : List Loc) (pc : Nat) (ls : Array Slot), decode cProgram_numberPut pc = .ok (.ireturn, 1) → va_P D vwCl (wdProgram_numberPut cA ad N first) H → va_D A (wdProgram_numberPut cA ad N first) → va_S A s.heap H locs → post r  → W p l e (headSpec (Cond.code yProgram_numberPut cProgram_numberPut 3 (some .int) :: xW) rmProgram_numberPut).room s m ([.ref (ad 1), .int v1, .int v2] : List Value).toArray below meth c H locs 0 0 (MQ below (qcProgram_numberPut D cA ad N first post A) ([.ref (ad 1), .int v1, .int v2] : List Value).toArray s 0 0 A) (F0 m pc ls [.int r]) := fun r  H locs pc ls hd hP hD hS hw => W.iret (v := r) hx hb hr (fun t ht hW => ⟨⟨r, (), rfl, hw, ⟨by rw [ht]; exact hP, va_K.moved hW.alike hK, hD⟩⟩, hS.F ht⟩) hS.2.2 hd
  generalize hQ : MQ below (qcProgram_numberPut D cA ad N first post A) ([.ref (ad 1), .int v1, .int v2] : List Value).toArray s 0 0 A = Q at hend ⊢
  have hl := lv_entry ([.ref (ad 1), .int v1, .int v2]) (n := 3) (Nat.le_of_ble_eq_true rfl)
  rw [lg_entry_eq]
  generalize (lg_sl ([.ref (ad 1), .int v1, .int v2]) ++ List.replicate (3 - (lg_sl ([.ref (ad 1), .int v1, .int v2])).length) Slot.unset).toArray = ls at hl ⊢
  have hl : lv_has ls 3 [(0, .ref (ad 1)), (1, .int v1), (2, .int v2)] := hl
  unfold wpProgram_numberPut at hw
  refine lv_aload_n hx hb dProgram_numberPut_0 rfl (lv_at hl 0 rfl) ?_
  refine va_get (D := D) (ci := 1) (v := .ref (ad 5)) (C := "OnceNamed$Program") (T := TX1) (N := 10) hx hb hts (fun w h => List.mem_cons_of_mem _ (inX1 w h)) hown hK hP 0 rfl rfl 4 (by decide) (hts _ (List.mem_cons_of_mem _ kw_48)) (fun _ h9 => h9) rfl dProgram_numberPut_1 ?_
  refine lv_iload_n hx hb dProgram_numberPut_4 rfl (lv_at hl 1 rfl) ?_
  refine lv_bipush (v := 6) hx hb dProgram_numberPut_5 (by decide) ?_
  refine lv_imul hx hb dProgram_numberPut_7 ?_
  refine lv_iload_n hx hb dProgram_numberPut_8 rfl (lv_at hl 2 rfl) ?_
  refine lv_iadd hx hb dProgram_numberPut_9 ?_
  have ho := hw.1
  have hw := hw.2
  refine va_iald hx hb hK hP 1 0 rfl rfl ho dProgram_numberPut_10 ?_
  exact hend (first (Int32.toNatClampNeg ((v1 * 6) + v2))) _ _ _ _ dProgram_numberPut_11 hP hD hS hw
abbrev wdProgram_variableSet (cA : ClassId) (ad : Nat → Nat) (N : Nat) (kind : Nat → Int32) (target : Nat → Int32) : va_W := [((ad 1), .inr (1, [.int (nI N), .ref (ad 2), .ref (ad 3), .ref (ad 4), .ref (ad 5), .ref (ad 6), .ref (ad 7), .ref (ad 8), .ref (ad 9), .ref (ad 10)])), ((ad 3), .inl (cA, N * 6, .inl kind)), ((ad 4), .inl (cA, N * 6, .inl target))]
abbrev qcProgram_variableSet (D : va_G) (cA : ClassId) (ad : Nat → Nat) (N : Nat) (kind : Nat → Int32) (target : Nat → Int32) (post : Int32 → Prop) (A : Nat → Prop) : Array Value → State → Outcome → State → Prop := va_Qi (S := Unit) (fun r u => post r ) (fun u t => xB D cA A (wdProgram_variableSet cA ad N kind target) t) A
abbrev rmProgram_variableSet : Room := { frames := 1, cells := 0, slots := 0, locals := 20 }
set_option maxHeartbeats 4000000 in
set_option maxRecDepth 100000 in
theorem ktProgram_variableSet (l : Launch) (D : va_G) (cA : ClassId) (ad : Nat → Nat) (N : Nat) (sz : Nat) (kind : Nat → Int32) (target : Nat → Int32) (v1 : Int32) (v2 : Int32) (post : Int32 → Prop) (hw : wpProgram_variableSet N kind target v1 v2 post) : Met l yProgram_variableSet (Cond.code yProgram_variableSet cProgram_variableSet 4 (some .int) :: xW) rmProgram_variableSet (va_Pc [.ref (ad 1), .int v1, .int v2] (xPc D cA (wdProgram_variableSet cA ad N kind target) sz)) (qcProgram_variableSet D cA ad N kind target post (va_A (wdProgram_variableSet cA ad N kind target) sz)) 0 0 (va_A (wdProgram_variableSet cA ad N kind target) sz) := by
  refine Met.ofW (cc := cProgram_variableSet) (maxL := 4) (ret := (some .int)) (by decide) rfl ?_
  intro p e s m args below meth c s₁ B hml hv
  obtain ⟨rfl, hsz, hP, hK, hD0, hN⟩ := hv
  have hx := B.exec
  have hb := B.bytes
  have hr := B.returns
  have hts := atoms_spec (ws := (Cond.code yProgram_variableSet cProgram_variableSet 4 (some .int) :: xW)) B.pre
  have hown : s.vm.findClass "OnceNamed$Program" = some m.cls := findClass_of_methodNamed B.named
  have hlocks := B.notSynchronized
  subst hsz
  have hD := hD0.self (sz := s.heap.size)
  generalize hAe : va_A (wdProgram_variableSet cA ad N kind target) s.heap.size = A at hD ⊢
  have hA : ∀ q : Nat, s.heap.size ≤ q → A q := fun q h => by rw [← hAe]; exact Or.inr h
  have hS : va_S A s.heap s.heap [] := va_S.rf
  have hend : ∀ (r : Int32)  (H : Heap) (locs : List Loc) (pc : Nat) (ls : Array Slot), decode cProgram_variableSet pc = .ok (.ireturn, 1) → va_P D vwCl (wdProgram_variableSet cA ad N kind target) H → va_D A (wdProgram_variableSet cA ad N kind target) → va_S A s.heap H locs → post r  → W p l e (headSpec (Cond.code yProgram_variableSet cProgram_variableSet 4 (some .int) :: xW) rmProgram_variableSet).room s m ([.ref (ad 1), .int v1, .int v2] : List Value).toArray below meth c H locs 0 0 (MQ below (qcProgram_variableSet D cA ad N kind target post A) ([.ref (ad 1), .int v1, .int v2] : List Value).toArray s 0 0 A) (F0 m pc ls [.int r]) := fun r  H locs pc ls hd hP hD hS hw => W.iret (v := r) hx hb hr (fun t ht hW => ⟨⟨r, (), rfl, hw, ⟨by rw [ht]; exact hP, va_K.moved hW.alike hK, hD⟩⟩, hS.F ht⟩) hS.2.2 hd
  generalize hQ : MQ below (qcProgram_variableSet D cA ad N kind target post A) ([.ref (ad 1), .int v1, .int v2] : List Value).toArray s 0 0 A = Q at hend ⊢
  have hl := lv_entry ([.ref (ad 1), .int v1, .int v2]) (n := 4) (Nat.le_of_ble_eq_true rfl)
  rw [lg_entry_eq]
  generalize (lg_sl ([.ref (ad 1), .int v1, .int v2]) ++ List.replicate (4 - (lg_sl ([.ref (ad 1), .int v1, .int v2])).length) Slot.unset).toArray = ls at hl ⊢
  have hl : lv_has ls 4 [(0, .ref (ad 1)), (1, .int v1), (2, .int v2)] := hl
  unfold wpProgram_variableSet at hw
  refine lv_iload_n hx hb dProgram_variableSet_0 rfl (lv_at hl 1 rfl) ?_
  refine lv_bipush (v := 6) hx hb dProgram_variableSet_1 (by decide) ?_
  refine lv_imul hx hb dProgram_variableSet_3 ?_
  refine lv_iload_n hx hb dProgram_variableSet_4 rfl (lv_at hl 2 rfl) ?_
  refine lv_iadd hx hb dProgram_variableSet_5 ?_
  refine lv_topi (fun v3_6 e_v3_6 => ?_)
  have hw := hw v3_6 e_v3_6
  refine lv_istore_n (lv' := [(3, .int v3_6), (0, .ref (ad 1)), (1, .int v1), (2, .int v2)]) hx hb dProgram_variableSet_6 rfl hl (by decide) rfl (fun ls hl => ?_)
  refine lv_aload_n hx hb dProgram_variableSet_7 rfl (lv_at hl 1 rfl) ?_
  refine va_get (D := D) (ci := 1) (v := .ref (ad 3)) (C := "OnceNamed$Program") (T := TX1) (N := 10) hx hb hts (fun w h => List.mem_cons_of_mem _ (inX1 w h)) hown hK hP 0 rfl rfl 2 (by decide) (hts _ (List.mem_cons_of_mem _ kw_46)) (fun _ h9 => h9) rfl dProgram_variableSet_8 ?_
  refine lv_iload_n hx hb dProgram_variableSet_11 rfl (lv_at hl 0 rfl) ?_
  have ho := hw.1
  have hw := hw.2
  refine va_iald hx hb hK hP 1 0 rfl rfl ho dProgram_variableSet_12 ?_
  refine xci (va_runS ⟨hx, hb, hml, hown, hts⟩ (ktProgram_setsVariable l D cA ad N _ (kind (Int32.toNatClampNeg v3_6)) _ hw) (va_cwS 1 hts (goodS kw_331 kw_332 kw_3 kw_333) rfl rfl rfl (by decide +kernel) ⟨Nat.le_of_ble_eq_true rfl, Nat.le_of_ble_eq_true rfl⟩) (xpreS hK hP hD hN [] rfl rfl) rfl rfl hl.1 rfl (lv_room (Nat.le_of_ble_eq_true rfl)) dProgram_variableSet_13 ⟨Nat.le_of_ble_eq_true rfl, Nat.le_of_ble_eq_true rfl⟩) hP hD hS hA [] [0, 1, 2] rfl rfl rfl rfl [0, 1, 2] rfl (fun _ => rfl) (fun r13 u H locs hw hP hD hS => ?_)
  obtain ⟨r13, rfl, hw⟩ := hw
  have hP : va_P D vwCl (wdProgram_variableSet cA ad N kind target) H := hP
  have hD : va_D A (wdProgram_variableSet cA ad N kind target) := hD
  refine lv_if_eq (tgt := 28) hx hb dProgram_variableSet_16 rfl (fun hc => ?_) (fun hc => ?_)
  · have hw := hw.1 (bI_0 hc)
    refine lv_iconst (v := (-1)) hx hb dProgram_variableSet_28 (by decide) ?_
    exact hend (-1) _ _ _ _ dProgram_variableSet_29 hP hD hS hw
  · have hw := hw.2 (bI_1 hc)
    refine lv_aload_n hx hb dProgram_variableSet_19 rfl (lv_at hl 1 rfl) ?_
    refine va_get (D := D) (ci := 1) (v := .ref (ad 4)) (C := "OnceNamed$Program") (T := TX1) (N := 10) hx hb hts (fun w h => List.mem_cons_of_mem _ (inX1 w h)) hown hK hP 0 rfl rfl 3 (by decide) (hts _ (List.mem_cons_of_mem _ kw_47)) (fun _ h9 => h9) rfl dProgram_variableSet_20 ?_
    refine lv_iload_n hx hb dProgram_variableSet_23 rfl (lv_at hl 0 rfl) ?_
    have ho := hw.1
    have hw := hw.2
    refine va_iald hx hb hK hP 2 0 rfl rfl ho dProgram_variableSet_24 ?_
    refine lv_goto (tgt := 29) hx hb dProgram_variableSet_25 rfl ?_
    exact hend (target (Int32.toNatClampNeg v3_6)) _ _ _ _ dProgram_variableSet_29 hP hD hS hw
abbrev wdProgram_firstVariable (cA : ClassId) (ad : Nat → Nat) (N : Nat) (kind : Nat → Int32) (first : Nat → Int32) : va_W := [((ad 1), .inr (1, [.int (nI N), .ref (ad 2), .ref (ad 3), .ref (ad 4), .ref (ad 5), .ref (ad 6), .ref (ad 7), .ref (ad 8), .ref (ad 9), .ref (ad 10)])), ((ad 3), .inl (cA, N * 6, .inl kind)), ((ad 5), .inl (cA, N * 6, .inl first))]
abbrev qcProgram_firstVariable (D : va_G) (cA : ClassId) (ad : Nat → Nat) (N : Nat) (kind : Nat → Int32) (first : Nat → Int32) (post : Int32 → Prop) (A : Nat → Prop) : Array Value → State → Outcome → State → Prop := va_Qi (S := Unit) (fun r u => post r ) (fun u t => xB D cA A (wdProgram_firstVariable cA ad N kind first) t) A
abbrev rmProgram_firstVariable : Room := { frames := 1, cells := 0, slots := 0, locals := 20 }
set_option maxHeartbeats 4000000 in
set_option maxRecDepth 100000 in
theorem ktProgram_firstVariable (l : Launch) (D : va_G) (cA : ClassId) (ad : Nat → Nat) (N : Nat) (sz : Nat) (kind : Nat → Int32) (first : Nat → Int32) (v1 : Int32) (v2 : Int32) (post : Int32 → Prop) (hw : wpProgram_firstVariable N kind first v1 v2 post) : Met l yProgram_firstVariable (Cond.code yProgram_firstVariable cProgram_firstVariable 4 (some .int) :: xW) rmProgram_firstVariable (va_Pc [.ref (ad 1), .int v1, .int v2] (xPc D cA (wdProgram_firstVariable cA ad N kind first) sz)) (qcProgram_firstVariable D cA ad N kind first post (va_A (wdProgram_firstVariable cA ad N kind first) sz)) 0 0 (va_A (wdProgram_firstVariable cA ad N kind first) sz) := by
  refine Met.ofW (cc := cProgram_firstVariable) (maxL := 4) (ret := (some .int)) (by decide) rfl ?_
  intro p e s m args below meth c s₁ B hml hv
  obtain ⟨rfl, hsz, hP, hK, hD0, hN⟩ := hv
  have hx := B.exec
  have hb := B.bytes
  have hr := B.returns
  have hts := atoms_spec (ws := (Cond.code yProgram_firstVariable cProgram_firstVariable 4 (some .int) :: xW)) B.pre
  have hown : s.vm.findClass "OnceNamed$Program" = some m.cls := findClass_of_methodNamed B.named
  have hlocks := B.notSynchronized
  subst hsz
  have hD := hD0.self (sz := s.heap.size)
  generalize hAe : va_A (wdProgram_firstVariable cA ad N kind first) s.heap.size = A at hD ⊢
  have hA : ∀ q : Nat, s.heap.size ≤ q → A q := fun q h => by rw [← hAe]; exact Or.inr h
  have hS : va_S A s.heap s.heap [] := va_S.rf
  have hend : ∀ (r : Int32)  (H : Heap) (locs : List Loc) (pc : Nat) (ls : Array Slot), decode cProgram_firstVariable pc = .ok (.ireturn, 1) → va_P D vwCl (wdProgram_firstVariable cA ad N kind first) H → va_D A (wdProgram_firstVariable cA ad N kind first) → va_S A s.heap H locs → post r  → W p l e (headSpec (Cond.code yProgram_firstVariable cProgram_firstVariable 4 (some .int) :: xW) rmProgram_firstVariable).room s m ([.ref (ad 1), .int v1, .int v2] : List Value).toArray below meth c H locs 0 0 (MQ below (qcProgram_firstVariable D cA ad N kind first post A) ([.ref (ad 1), .int v1, .int v2] : List Value).toArray s 0 0 A) (F0 m pc ls [.int r]) := fun r  H locs pc ls hd hP hD hS hw => W.iret (v := r) hx hb hr (fun t ht hW => ⟨⟨r, (), rfl, hw, ⟨by rw [ht]; exact hP, va_K.moved hW.alike hK, hD⟩⟩, hS.F ht⟩) hS.2.2 hd
  generalize hQ : MQ below (qcProgram_firstVariable D cA ad N kind first post A) ([.ref (ad 1), .int v1, .int v2] : List Value).toArray s 0 0 A = Q at hend ⊢
  have hl := lv_entry ([.ref (ad 1), .int v1, .int v2]) (n := 4) (Nat.le_of_ble_eq_true rfl)
  rw [lg_entry_eq]
  generalize (lg_sl ([.ref (ad 1), .int v1, .int v2]) ++ List.replicate (4 - (lg_sl ([.ref (ad 1), .int v1, .int v2])).length) Slot.unset).toArray = ls at hl ⊢
  have hl : lv_has ls 4 [(0, .ref (ad 1)), (1, .int v1), (2, .int v2)] := hl
  unfold wpProgram_firstVariable at hw
  refine lv_iload_n hx hb dProgram_firstVariable_0 rfl (lv_at hl 1 rfl) ?_
  refine lv_bipush (v := 6) hx hb dProgram_firstVariable_1 (by decide) ?_
  refine lv_imul hx hb dProgram_firstVariable_3 ?_
  refine lv_iload_n hx hb dProgram_firstVariable_4 rfl (lv_at hl 2 rfl) ?_
  refine lv_iadd hx hb dProgram_firstVariable_5 ?_
  refine lv_topi (fun v3_6 e_v3_6 => ?_)
  have hw := hw v3_6 e_v3_6
  refine lv_istore_n (lv' := [(3, .int v3_6), (0, .ref (ad 1)), (1, .int v1), (2, .int v2)]) hx hb dProgram_firstVariable_6 rfl hl (by decide) rfl (fun ls hl => ?_)
  refine lv_aload_n hx hb dProgram_firstVariable_7 rfl (lv_at hl 1 rfl) ?_
  refine va_get (D := D) (ci := 1) (v := .ref (ad 3)) (C := "OnceNamed$Program") (T := TX1) (N := 10) hx hb hts (fun w h => List.mem_cons_of_mem _ (inX1 w h)) hown hK hP 0 rfl rfl 2 (by decide) (hts _ (List.mem_cons_of_mem _ kw_46)) (fun _ h9 => h9) rfl dProgram_firstVariable_8 ?_
  refine lv_iload_n hx hb dProgram_firstVariable_11 rfl (lv_at hl 0 rfl) ?_
  have ho := hw.1
  have hw := hw.2
  refine va_iald hx hb hK hP 1 0 rfl rfl ho dProgram_firstVariable_12 ?_
  refine xci (va_runS ⟨hx, hb, hml, hown, hts⟩ (ktProgram_usesFirst l D cA ad N _ (kind (Int32.toNatClampNeg v3_6)) _ hw) (va_cwS 1 hts (goodS kw_366 kw_367 kw_3 kw_368) rfl rfl rfl (by decide +kernel) ⟨Nat.le_of_ble_eq_true rfl, Nat.le_of_ble_eq_true rfl⟩) (xpreS hK hP hD hN [] rfl rfl) rfl rfl hl.1 rfl (lv_room (Nat.le_of_ble_eq_true rfl)) dProgram_firstVariable_13 ⟨Nat.le_of_ble_eq_true rfl, Nat.le_of_ble_eq_true rfl⟩) hP hD hS hA [] [0, 1, 2] rfl rfl rfl rfl [0, 1, 2] rfl (fun _ => rfl) (fun r13 u H locs hw hP hD hS => ?_)
  obtain ⟨r13, rfl, hw⟩ := hw
  have hP : va_P D vwCl (wdProgram_firstVariable cA ad N kind first) H := hP
  have hD : va_D A (wdProgram_firstVariable cA ad N kind first) := hD
  refine lv_if_eq (tgt := 28) hx hb dProgram_firstVariable_16 rfl (fun hc => ?_) (fun hc => ?_)
  · have hw := hw.1 (bI_0 hc)
    refine lv_iconst (v := (-1)) hx hb dProgram_firstVariable_28 (by decide) ?_
    exact hend (-1) _ _ _ _ dProgram_firstVariable_29 hP hD hS hw
  · have hw := hw.2 (bI_1 hc)
    refine lv_aload_n hx hb dProgram_firstVariable_19 rfl (lv_at hl 1 rfl) ?_
    refine va_get (D := D) (ci := 1) (v := .ref (ad 5)) (C := "OnceNamed$Program") (T := TX1) (N := 10) hx hb hts (fun w h => List.mem_cons_of_mem _ (inX1 w h)) hown hK hP 0 rfl rfl 4 (by decide) (hts _ (List.mem_cons_of_mem _ kw_48)) (fun _ h9 => h9) rfl dProgram_firstVariable_20 ?_
    refine lv_iload_n hx hb dProgram_firstVariable_23 rfl (lv_at hl 0 rfl) ?_
    have ho := hw.1
    have hw := hw.2
    refine va_iald hx hb hK hP 2 0 rfl rfl ho dProgram_firstVariable_24 ?_
    refine lv_goto (tgt := 29) hx hb dProgram_firstVariable_25 rfl ?_
    exact hend (first (Int32.toNatClampNeg v3_6)) _ _ _ _ dProgram_firstVariable_29 hP hD hS hw
abbrev wdProgram_secondVariable (cA : ClassId) (ad : Nat → Nat) (N : Nat) (kind : Nat → Int32) (second : Nat → Int32) : va_W := [((ad 1), .inr (1, [.int (nI N), .ref (ad 2), .ref (ad 3), .ref (ad 4), .ref (ad 5), .ref (ad 6), .ref (ad 7), .ref (ad 8), .ref (ad 9), .ref (ad 10)])), ((ad 3), .inl (cA, N * 6, .inl kind)), ((ad 6), .inl (cA, N * 6, .inl second))]
abbrev qcProgram_secondVariable (D : va_G) (cA : ClassId) (ad : Nat → Nat) (N : Nat) (kind : Nat → Int32) (second : Nat → Int32) (post : Int32 → Prop) (A : Nat → Prop) : Array Value → State → Outcome → State → Prop := va_Qi (S := Unit) (fun r u => post r ) (fun u t => xB D cA A (wdProgram_secondVariable cA ad N kind second) t) A
abbrev rmProgram_secondVariable : Room := { frames := 1, cells := 0, slots := 0, locals := 20 }
set_option maxHeartbeats 4000000 in
set_option maxRecDepth 100000 in
theorem ktProgram_secondVariable (l : Launch) (D : va_G) (cA : ClassId) (ad : Nat → Nat) (N : Nat) (sz : Nat) (kind : Nat → Int32) (second : Nat → Int32) (v1 : Int32) (v2 : Int32) (post : Int32 → Prop) (hw : wpProgram_secondVariable N kind second v1 v2 post) : Met l yProgram_secondVariable (Cond.code yProgram_secondVariable cProgram_secondVariable 4 (some .int) :: xW) rmProgram_secondVariable (va_Pc [.ref (ad 1), .int v1, .int v2] (xPc D cA (wdProgram_secondVariable cA ad N kind second) sz)) (qcProgram_secondVariable D cA ad N kind second post (va_A (wdProgram_secondVariable cA ad N kind second) sz)) 0 0 (va_A (wdProgram_secondVariable cA ad N kind second) sz) := by
  refine Met.ofW (cc := cProgram_secondVariable) (maxL := 4) (ret := (some .int)) (by decide) rfl ?_
  intro p e s m args below meth c s₁ B hml hv
  obtain ⟨rfl, hsz, hP, hK, hD0, hN⟩ := hv
  have hx := B.exec
  have hb := B.bytes
  have hr := B.returns
  have hts := atoms_spec (ws := (Cond.code yProgram_secondVariable cProgram_secondVariable 4 (some .int) :: xW)) B.pre
  have hown : s.vm.findClass "OnceNamed$Program" = some m.cls := findClass_of_methodNamed B.named
  have hlocks := B.notSynchronized
  subst hsz
  have hD := hD0.self (sz := s.heap.size)
  generalize hAe : va_A (wdProgram_secondVariable cA ad N kind second) s.heap.size = A at hD ⊢
  have hA : ∀ q : Nat, s.heap.size ≤ q → A q := fun q h => by rw [← hAe]; exact Or.inr h
  have hS : va_S A s.heap s.heap [] := va_S.rf
  have hend : ∀ (r : Int32)  (H : Heap) (locs : List Loc) (pc : Nat) (ls : Array Slot), decode cProgram_secondVariable pc = .ok (.ireturn, 1) → va_P D vwCl (wdProgram_secondVariable cA ad N kind second) H → va_D A (wdProgram_secondVariable cA ad N kind second) → va_S A s.heap H locs → post r  → W p l e (headSpec (Cond.code yProgram_secondVariable cProgram_secondVariable 4 (some .int) :: xW) rmProgram_secondVariable).room s m ([.ref (ad 1), .int v1, .int v2] : List Value).toArray below meth c H locs 0 0 (MQ below (qcProgram_secondVariable D cA ad N kind second post A) ([.ref (ad 1), .int v1, .int v2] : List Value).toArray s 0 0 A) (F0 m pc ls [.int r]) := fun r  H locs pc ls hd hP hD hS hw => W.iret (v := r) hx hb hr (fun t ht hW => ⟨⟨r, (), rfl, hw, ⟨by rw [ht]; exact hP, va_K.moved hW.alike hK, hD⟩⟩, hS.F ht⟩) hS.2.2 hd
  generalize hQ : MQ below (qcProgram_secondVariable D cA ad N kind second post A) ([.ref (ad 1), .int v1, .int v2] : List Value).toArray s 0 0 A = Q at hend ⊢
  have hl := lv_entry ([.ref (ad 1), .int v1, .int v2]) (n := 4) (Nat.le_of_ble_eq_true rfl)
  rw [lg_entry_eq]
  generalize (lg_sl ([.ref (ad 1), .int v1, .int v2]) ++ List.replicate (4 - (lg_sl ([.ref (ad 1), .int v1, .int v2])).length) Slot.unset).toArray = ls at hl ⊢
  have hl : lv_has ls 4 [(0, .ref (ad 1)), (1, .int v1), (2, .int v2)] := hl
  unfold wpProgram_secondVariable at hw
  refine lv_iload_n hx hb dProgram_secondVariable_0 rfl (lv_at hl 1 rfl) ?_
  refine lv_bipush (v := 6) hx hb dProgram_secondVariable_1 (by decide) ?_
  refine lv_imul hx hb dProgram_secondVariable_3 ?_
  refine lv_iload_n hx hb dProgram_secondVariable_4 rfl (lv_at hl 2 rfl) ?_
  refine lv_iadd hx hb dProgram_secondVariable_5 ?_
  refine lv_topi (fun v3_6 e_v3_6 => ?_)
  have hw := hw v3_6 e_v3_6
  refine lv_istore_n (lv' := [(3, .int v3_6), (0, .ref (ad 1)), (1, .int v1), (2, .int v2)]) hx hb dProgram_secondVariable_6 rfl hl (by decide) rfl (fun ls hl => ?_)
  refine lv_aload_n hx hb dProgram_secondVariable_7 rfl (lv_at hl 1 rfl) ?_
  refine va_get (D := D) (ci := 1) (v := .ref (ad 3)) (C := "OnceNamed$Program") (T := TX1) (N := 10) hx hb hts (fun w h => List.mem_cons_of_mem _ (inX1 w h)) hown hK hP 0 rfl rfl 2 (by decide) (hts _ (List.mem_cons_of_mem _ kw_46)) (fun _ h9 => h9) rfl dProgram_secondVariable_8 ?_
  refine lv_iload_n hx hb dProgram_secondVariable_11 rfl (lv_at hl 0 rfl) ?_
  have ho := hw.1
  have hw := hw.2
  refine va_iald hx hb hK hP 1 0 rfl rfl ho dProgram_secondVariable_12 ?_
  refine xci (va_runS ⟨hx, hb, hml, hown, hts⟩ (ktProgram_usesSecond l D cA ad N _ (kind (Int32.toNatClampNeg v3_6)) _ hw) (va_cwS 1 hts (goodS kw_377 kw_378 kw_3 kw_379) rfl rfl rfl (by decide +kernel) ⟨Nat.le_of_ble_eq_true rfl, Nat.le_of_ble_eq_true rfl⟩) (xpreS hK hP hD hN [] rfl rfl) rfl rfl hl.1 rfl (lv_room (Nat.le_of_ble_eq_true rfl)) dProgram_secondVariable_13 ⟨Nat.le_of_ble_eq_true rfl, Nat.le_of_ble_eq_true rfl⟩) hP hD hS hA [] [0, 1, 2] rfl rfl rfl rfl [0, 1, 2] rfl (fun _ => rfl) (fun r13 u H locs hw hP hD hS => ?_)
  obtain ⟨r13, rfl, hw⟩ := hw
  have hP : va_P D vwCl (wdProgram_secondVariable cA ad N kind second) H := hP
  have hD : va_D A (wdProgram_secondVariable cA ad N kind second) := hD
  refine lv_if_eq (tgt := 28) hx hb dProgram_secondVariable_16 rfl (fun hc => ?_) (fun hc => ?_)
  · have hw := hw.1 (bI_0 hc)
    refine lv_iconst (v := (-1)) hx hb dProgram_secondVariable_28 (by decide) ?_
    exact hend (-1) _ _ _ _ dProgram_secondVariable_29 hP hD hS hw
  · have hw := hw.2 (bI_1 hc)
    refine lv_aload_n hx hb dProgram_secondVariable_19 rfl (lv_at hl 1 rfl) ?_
    refine va_get (D := D) (ci := 1) (v := .ref (ad 6)) (C := "OnceNamed$Program") (T := TX1) (N := 10) hx hb hts (fun w h => List.mem_cons_of_mem _ (inX1 w h)) hown hK hP 0 rfl rfl 5 (by decide) (hts _ (List.mem_cons_of_mem _ kw_49)) (fun _ h9 => h9) rfl dProgram_secondVariable_20 ?_
    refine lv_iload_n hx hb dProgram_secondVariable_23 rfl (lv_at hl 0 rfl) ?_
    have ho := hw.1
    have hw := hw.2
    refine va_iald hx hb hK hP 2 0 rfl rfl ho dProgram_secondVariable_24 ?_
    refine lv_goto (tgt := 29) hx hb dProgram_secondVariable_25 rfl ?_
    exact hend (second (Int32.toNatClampNeg v3_6)) _ _ _ _ dProgram_secondVariable_29 hP hD hS hw
abbrev wdProgram_variableOfFork (cA : ClassId) (ad : Nat → Nat) (N : Nat) (forkVariable : Nat → Int32) : va_W := [((ad 1), .inr (1, [.int (nI N), .ref (ad 2), .ref (ad 3), .ref (ad 4), .ref (ad 5), .ref (ad 6), .ref (ad 7), .ref (ad 8), .ref (ad 9), .ref (ad 10)])), ((ad 7), .inl (cA, N, .inl forkVariable))]
abbrev qcProgram_variableOfFork (D : va_G) (cA : ClassId) (ad : Nat → Nat) (N : Nat) (forkVariable : Nat → Int32) (post : Int32 → Prop) (A : Nat → Prop) : Array Value → State → Outcome → State → Prop := va_Qi (S := Unit) (fun r u => post r ) (fun u t => xB D cA A (wdProgram_variableOfFork cA ad N forkVariable) t) A
abbrev rmProgram_variableOfFork : Room := { frames := 0, cells := 0, slots := 0, locals := 0 }
set_option maxHeartbeats 4000000 in
set_option maxRecDepth 100000 in
theorem ktProgram_variableOfFork (l : Launch) (D : va_G) (cA : ClassId) (ad : Nat → Nat) (N : Nat) (sz : Nat) (forkVariable : Nat → Int32) (v1 : Int32) (post : Int32 → Prop) (hw : wpProgram_variableOfFork N forkVariable v1 post) : Met l yProgram_variableOfFork (Cond.code yProgram_variableOfFork cProgram_variableOfFork 2 (some .int) :: xW) rmProgram_variableOfFork (va_Pc [.ref (ad 1), .int v1] (xPc D cA (wdProgram_variableOfFork cA ad N forkVariable) sz)) (qcProgram_variableOfFork D cA ad N forkVariable post (va_A (wdProgram_variableOfFork cA ad N forkVariable) sz)) 0 0 (va_A (wdProgram_variableOfFork cA ad N forkVariable) sz) := by
  refine Met.ofW (cc := cProgram_variableOfFork) (maxL := 2) (ret := (some .int)) (by decide) rfl ?_
  intro p e s m args below meth c s₁ B hml hv
  obtain ⟨rfl, hsz, hP, hK, hD0, hN⟩ := hv
  have hx := B.exec
  have hb := B.bytes
  have hr := B.returns
  have hts := atoms_spec (ws := (Cond.code yProgram_variableOfFork cProgram_variableOfFork 2 (some .int) :: xW)) B.pre
  have hown : s.vm.findClass "OnceNamed$Program" = some m.cls := findClass_of_methodNamed B.named
  have hlocks := B.notSynchronized
  subst hsz
  have hD := hD0.self (sz := s.heap.size)
  generalize hAe : va_A (wdProgram_variableOfFork cA ad N forkVariable) s.heap.size = A at hD ⊢
  have hA : ∀ q : Nat, s.heap.size ≤ q → A q := fun q h => by rw [← hAe]; exact Or.inr h
  have hS : va_S A s.heap s.heap [] := va_S.rf
  have hend : ∀ (r : Int32)  (H : Heap) (locs : List Loc) (pc : Nat) (ls : Array Slot), decode cProgram_variableOfFork pc = .ok (.ireturn, 1) → va_P D vwCl (wdProgram_variableOfFork cA ad N forkVariable) H → va_D A (wdProgram_variableOfFork cA ad N forkVariable) → va_S A s.heap H locs → post r  → W p l e (headSpec (Cond.code yProgram_variableOfFork cProgram_variableOfFork 2 (some .int) :: xW) rmProgram_variableOfFork).room s m ([.ref (ad 1), .int v1] : List Value).toArray below meth c H locs 0 0 (MQ below (qcProgram_variableOfFork D cA ad N forkVariable post A) ([.ref (ad 1), .int v1] : List Value).toArray s 0 0 A) (F0 m pc ls [.int r]) := fun r  H locs pc ls hd hP hD hS hw => W.iret (v := r) hx hb hr (fun t ht hW => ⟨⟨r, (), rfl, hw, ⟨by rw [ht]; exact hP, va_K.moved hW.alike hK, hD⟩⟩, hS.F ht⟩) hS.2.2 hd
  generalize hQ : MQ below (qcProgram_variableOfFork D cA ad N forkVariable post A) ([.ref (ad 1), .int v1] : List Value).toArray s 0 0 A = Q at hend ⊢
  have hl := lv_entry ([.ref (ad 1), .int v1]) (n := 2) (Nat.le_of_ble_eq_true rfl)
  rw [lg_entry_eq]
  generalize (lg_sl ([.ref (ad 1), .int v1]) ++ List.replicate (2 - (lg_sl ([.ref (ad 1), .int v1])).length) Slot.unset).toArray = ls at hl ⊢
  have hl : lv_has ls 2 [(0, .ref (ad 1)), (1, .int v1)] := hl
  unfold wpProgram_variableOfFork at hw
  refine lv_aload_n hx hb dProgram_variableOfFork_0 rfl (lv_at hl 0 rfl) ?_
  refine va_get (D := D) (ci := 1) (v := .ref (ad 7)) (C := "OnceNamed$Program") (T := TX1) (N := 10) hx hb hts (fun w h => List.mem_cons_of_mem _ (inX1 w h)) hown hK hP 0 rfl rfl 6 (by decide) (hts _ (List.mem_cons_of_mem _ kw_50)) (fun _ h9 => h9) rfl dProgram_variableOfFork_1 ?_
  refine lv_iload_n hx hb dProgram_variableOfFork_4 rfl (lv_at hl 1 rfl) ?_
  have ho := hw.1
  have hw := hw.2
  refine va_iald hx hb hK hP 1 0 rfl rfl ho dProgram_variableOfFork_5 ?_
  exact hend (forkVariable (Int32.toNatClampNeg v1)) _ _ _ _ dProgram_variableOfFork_6 hP hD hS hw
abbrev wdProgram_blockAfter (cA : ClassId) (ad : Nat → Nat) (N : Nat) (yes : Nat → Int32) (no : Nat → Int32) : va_W := [((ad 1), .inr (1, [.int (nI N), .ref (ad 2), .ref (ad 3), .ref (ad 4), .ref (ad 5), .ref (ad 6), .ref (ad 7), .ref (ad 8), .ref (ad 9), .ref (ad 10)])), ((ad 8), .inl (cA, N, .inl yes)), ((ad 9), .inl (cA, N, .inl no))]
abbrev qcProgram_blockAfter (D : va_G) (cA : ClassId) (ad : Nat → Nat) (N : Nat) (yes : Nat → Int32) (no : Nat → Int32) (post : Int32 → Prop) (A : Nat → Prop) : Array Value → State → Outcome → State → Prop := va_Qi (S := Unit) (fun r u => post r ) (fun u t => xB D cA A (wdProgram_blockAfter cA ad N yes no) t) A
abbrev rmProgram_blockAfter : Room := { frames := 0, cells := 0, slots := 0, locals := 0 }
set_option maxHeartbeats 4000000 in
set_option maxRecDepth 100000 in
theorem ktProgram_blockAfter (l : Launch) (D : va_G) (cA : ClassId) (ad : Nat → Nat) (N : Nat) (sz : Nat) (yes : Nat → Int32) (no : Nat → Int32) (v1 : Int32) (v2 : Bool) (post : Int32 → Prop) (hw : wpProgram_blockAfter N yes no v1 v2 post) : Met l yProgram_blockAfter (Cond.code yProgram_blockAfter cProgram_blockAfter 3 (some .int) :: xW) rmProgram_blockAfter (va_Pc [.ref (ad 1), .int v1, .int (bI v2)] (xPc D cA (wdProgram_blockAfter cA ad N yes no) sz)) (qcProgram_blockAfter D cA ad N yes no post (va_A (wdProgram_blockAfter cA ad N yes no) sz)) 0 0 (va_A (wdProgram_blockAfter cA ad N yes no) sz) := by
  refine Met.ofW (cc := cProgram_blockAfter) (maxL := 3) (ret := (some .int)) (by decide) rfl ?_
  intro p e s m args below meth c s₁ B hml hv
  obtain ⟨rfl, hsz, hP, hK, hD0, hN⟩ := hv
  have hx := B.exec
  have hb := B.bytes
  have hr := B.returns
  have hts := atoms_spec (ws := (Cond.code yProgram_blockAfter cProgram_blockAfter 3 (some .int) :: xW)) B.pre
  have hown : s.vm.findClass "OnceNamed$Program" = some m.cls := findClass_of_methodNamed B.named
  have hlocks := B.notSynchronized
  subst hsz
  have hD := hD0.self (sz := s.heap.size)
  generalize hAe : va_A (wdProgram_blockAfter cA ad N yes no) s.heap.size = A at hD ⊢
  have hA : ∀ q : Nat, s.heap.size ≤ q → A q := fun q h => by rw [← hAe]; exact Or.inr h
  have hS : va_S A s.heap s.heap [] := va_S.rf
  have hend : ∀ (r : Int32)  (H : Heap) (locs : List Loc) (pc : Nat) (ls : Array Slot), decode cProgram_blockAfter pc = .ok (.ireturn, 1) → va_P D vwCl (wdProgram_blockAfter cA ad N yes no) H → va_D A (wdProgram_blockAfter cA ad N yes no) → va_S A s.heap H locs → post r  → W p l e (headSpec (Cond.code yProgram_blockAfter cProgram_blockAfter 3 (some .int) :: xW) rmProgram_blockAfter).room s m ([.ref (ad 1), .int v1, .int (bI v2)] : List Value).toArray below meth c H locs 0 0 (MQ below (qcProgram_blockAfter D cA ad N yes no post A) ([.ref (ad 1), .int v1, .int (bI v2)] : List Value).toArray s 0 0 A) (F0 m pc ls [.int r]) := fun r  H locs pc ls hd hP hD hS hw => W.iret (v := r) hx hb hr (fun t ht hW => ⟨⟨r, (), rfl, hw, ⟨by rw [ht]; exact hP, va_K.moved hW.alike hK, hD⟩⟩, hS.F ht⟩) hS.2.2 hd
  generalize hQ : MQ below (qcProgram_blockAfter D cA ad N yes no post A) ([.ref (ad 1), .int v1, .int (bI v2)] : List Value).toArray s 0 0 A = Q at hend ⊢
  have hl := lv_entry ([.ref (ad 1), .int v1, .int (bI v2)]) (n := 3) (Nat.le_of_ble_eq_true rfl)
  rw [lg_entry_eq]
  generalize (lg_sl ([.ref (ad 1), .int v1, .int (bI v2)]) ++ List.replicate (3 - (lg_sl ([.ref (ad 1), .int v1, .int (bI v2)])).length) Slot.unset).toArray = ls at hl ⊢
  have hl : lv_has ls 3 [(0, .ref (ad 1)), (1, .int v1), (2, .int (bI v2))] := hl
  unfold wpProgram_blockAfter at hw
  refine lv_iload_n hx hb dProgram_blockAfter_0 rfl (lv_at hl 2 rfl) ?_
  refine lv_if_eq (tgt := 13) hx hb dProgram_blockAfter_1 rfl (fun hc => ?_) (fun hc => ?_)
  · have hw := hw.1 (bI_0 hc)
    refine lv_aload_n hx hb dProgram_blockAfter_13 rfl (lv_at hl 0 rfl) ?_
    refine va_get (D := D) (ci := 1) (v := .ref (ad 8)) (C := "OnceNamed$Program") (T := TX1) (N := 10) hx hb hts (fun w h => List.mem_cons_of_mem _ (inX1 w h)) hown hK hP 0 rfl rfl 7 (by decide) (hts _ (List.mem_cons_of_mem _ kw_51)) (fun _ h9 => h9) rfl dProgram_blockAfter_14 ?_
    refine lv_iload_n hx hb dProgram_blockAfter_17 rfl (lv_at hl 1 rfl) ?_
    have ho := hw.1
    have hw := hw.2
    refine va_iald hx hb hK hP 1 0 rfl rfl ho dProgram_blockAfter_18 ?_
    exact hend (yes (Int32.toNatClampNeg v1)) _ _ _ _ dProgram_blockAfter_19 hP hD hS hw
  · have hw := hw.2 (bI_1 hc)
    refine lv_aload_n hx hb dProgram_blockAfter_4 rfl (lv_at hl 0 rfl) ?_
    refine va_get (D := D) (ci := 1) (v := .ref (ad 9)) (C := "OnceNamed$Program") (T := TX1) (N := 10) hx hb hts (fun w h => List.mem_cons_of_mem _ (inX1 w h)) hown hK hP 0 rfl rfl 8 (by decide) (hts _ (List.mem_cons_of_mem _ kw_52)) (fun _ h9 => h9) rfl dProgram_blockAfter_5 ?_
    refine lv_iload_n hx hb dProgram_blockAfter_8 rfl (lv_at hl 1 rfl) ?_
    have ho := hw.1
    have hw := hw.2
    refine va_iald hx hb hK hP 2 0 rfl rfl ho dProgram_blockAfter_9 ?_
    refine lv_goto (tgt := 19) hx hb dProgram_blockAfter_10 rfl ?_
    exact hend (no (Int32.toNatClampNeg v1)) _ _ _ _ dProgram_blockAfter_19 hP hD hS hw
abbrev wdProgram_followers (cA : ClassId) (ad : Nat → Nat) (N : Nat) (yes : Nat → Int32) (no : Nat → Int32) : va_W := [((ad 1), .inr (1, [.int (nI N), .ref (ad 2), .ref (ad 3), .ref (ad 4), .ref (ad 5), .ref (ad 6), .ref (ad 7), .ref (ad 8), .ref (ad 9), .ref (ad 10)])), ((ad 8), .inl (cA, N, .inl yes)), ((ad 9), .inl (cA, N, .inl no))]
abbrev qcProgram_followers (D : va_G) (cA : ClassId) (ad : Nat → Nat) (N : Nat) (yes : Nat → Int32) (no : Nat → Int32) (post : Int32 → Prop) (A : Nat → Prop) : Array Value → State → Outcome → State → Prop := va_Qi (S := Unit) (fun r u => post r ) (fun u t => xB D cA A (wdProgram_followers cA ad N yes no) t) A
abbrev rmProgram_followers : Room := { frames := 0, cells := 0, slots := 0, locals := 0 }
set_option maxHeartbeats 4000000 in
set_option maxRecDepth 100000 in
theorem ktProgram_followers (l : Launch) (D : va_G) (cA : ClassId) (ad : Nat → Nat) (N : Nat) (sz : Nat) (yes : Nat → Int32) (no : Nat → Int32) (v1 : Int32) (post : Int32 → Prop) (hw : wpProgram_followers N yes no v1 post) : Met l yProgram_followers (Cond.code yProgram_followers cProgram_followers 2 (some .int) :: xW) rmProgram_followers (va_Pc [.ref (ad 1), .int v1] (xPc D cA (wdProgram_followers cA ad N yes no) sz)) (qcProgram_followers D cA ad N yes no post (va_A (wdProgram_followers cA ad N yes no) sz)) 0 0 (va_A (wdProgram_followers cA ad N yes no) sz) := by
  refine Met.ofW (cc := cProgram_followers) (maxL := 2) (ret := (some .int)) (by decide) rfl ?_
  intro p e s m args below meth c s₁ B hml hv
  obtain ⟨rfl, hsz, hP, hK, hD0, hN⟩ := hv
  have hx := B.exec
  have hb := B.bytes
  have hr := B.returns
  have hts := atoms_spec (ws := (Cond.code yProgram_followers cProgram_followers 2 (some .int) :: xW)) B.pre
  have hown : s.vm.findClass "OnceNamed$Program" = some m.cls := findClass_of_methodNamed B.named
  have hlocks := B.notSynchronized
  subst hsz
  have hD := hD0.self (sz := s.heap.size)
  generalize hAe : va_A (wdProgram_followers cA ad N yes no) s.heap.size = A at hD ⊢
  have hA : ∀ q : Nat, s.heap.size ≤ q → A q := fun q h => by rw [← hAe]; exact Or.inr h
  have hS : va_S A s.heap s.heap [] := va_S.rf
  have hend : ∀ (r : Int32)  (H : Heap) (locs : List Loc) (pc : Nat) (ls : Array Slot), decode cProgram_followers pc = .ok (.ireturn, 1) → va_P D vwCl (wdProgram_followers cA ad N yes no) H → va_D A (wdProgram_followers cA ad N yes no) → va_S A s.heap H locs → post r  → W p l e (headSpec (Cond.code yProgram_followers cProgram_followers 2 (some .int) :: xW) rmProgram_followers).room s m ([.ref (ad 1), .int v1] : List Value).toArray below meth c H locs 0 0 (MQ below (qcProgram_followers D cA ad N yes no post A) ([.ref (ad 1), .int v1] : List Value).toArray s 0 0 A) (F0 m pc ls [.int r]) := fun r  H locs pc ls hd hP hD hS hw => W.iret (v := r) hx hb hr (fun t ht hW => ⟨⟨r, (), rfl, hw, ⟨by rw [ht]; exact hP, va_K.moved hW.alike hK, hD⟩⟩, hS.F ht⟩) hS.2.2 hd
  generalize hQ : MQ below (qcProgram_followers D cA ad N yes no post A) ([.ref (ad 1), .int v1] : List Value).toArray s 0 0 A = Q at hend ⊢
  have hl := lv_entry ([.ref (ad 1), .int v1]) (n := 2) (Nat.le_of_ble_eq_true rfl)
  rw [lg_entry_eq]
  generalize (lg_sl ([.ref (ad 1), .int v1]) ++ List.replicate (2 - (lg_sl ([.ref (ad 1), .int v1])).length) Slot.unset).toArray = ls at hl ⊢
  have hl : lv_has ls 2 [(0, .ref (ad 1)), (1, .int v1)] := hl
  unfold wpProgram_followers at hw
  refine lv_aload_n hx hb dProgram_followers_0 rfl (lv_at hl 0 rfl) ?_
  refine va_get (D := D) (ci := 1) (v := .ref (ad 8)) (C := "OnceNamed$Program") (T := TX1) (N := 10) hx hb hts (fun w h => List.mem_cons_of_mem _ (inX1 w h)) hown hK hP 0 rfl rfl 7 (by decide) (hts _ (List.mem_cons_of_mem _ kw_51)) (fun _ h9 => h9) rfl dProgram_followers_1 ?_
  refine lv_iload_n hx hb dProgram_followers_4 rfl (lv_at hl 1 rfl) ?_
  have ho := hw.1
  have hw := hw.2
  refine va_iald hx hb hK hP 1 0 rfl rfl ho dProgram_followers_5 ?_
  refine lv_iconst (v := (-1)) hx hb dProgram_followers_6 (by decide) ?_
  refine lv_icmp_ne (tgt := 14) hx hb dProgram_followers_7 rfl (fun hc => ?_) (fun hc => ?_)
  · have hw := hw.1 hc
    refine lv_iconst (v := 1) hx hb dProgram_followers_14 (by decide) ?_
    refine lv_aload_n hx hb dProgram_followers_15 rfl (lv_at hl 0 rfl) ?_
    refine va_get (D := D) (ci := 1) (v := .ref (ad 8)) (C := "OnceNamed$Program") (T := TX1) (N := 10) hx hb hts (fun w h => List.mem_cons_of_mem _ (inX1 w h)) hown hK hP 0 rfl rfl 7 (by decide) (hts _ (List.mem_cons_of_mem _ kw_51)) (fun _ h9 => h9) rfl dProgram_followers_16 ?_
    refine lv_iload_n hx hb dProgram_followers_19 rfl (lv_at hl 1 rfl) ?_
    have ho := hw.1
    have hw := hw.2
    refine va_iald hx hb hK hP 1 0 rfl rfl ho dProgram_followers_20 ?_
    refine lv_ishl hx hb dProgram_followers_21 ?_
    refine lv_iconst (v := 1) hx hb dProgram_followers_22 (by decide) ?_
    refine lv_aload_n hx hb dProgram_followers_23 rfl (lv_at hl 0 rfl) ?_
    refine va_get (D := D) (ci := 1) (v := .ref (ad 9)) (C := "OnceNamed$Program") (T := TX1) (N := 10) hx hb hts (fun w h => List.mem_cons_of_mem _ (inX1 w h)) hown hK hP 0 rfl rfl 8 (by decide) (hts _ (List.mem_cons_of_mem _ kw_52)) (fun _ h9 => h9) rfl dProgram_followers_24 ?_
    refine lv_iload_n hx hb dProgram_followers_27 rfl (lv_at hl 1 rfl) ?_
    have ho := hw.1
    have hw := hw.2
    refine va_iald hx hb hK hP 2 0 rfl rfl ho dProgram_followers_28 ?_
    refine lv_ishl hx hb dProgram_followers_29 ?_
    refine lv_ior hx hb dProgram_followers_30 ?_
    exact hend (((1 : Int32) <<< ((yes (Int32.toNatClampNeg v1)) &&& 31)) ||| ((1 : Int32) <<< ((no (Int32.toNatClampNeg v1)) &&& 31))) _ _ _ _ dProgram_followers_31 hP hD hS hw
  · have hw := hw.2 hc
    refine lv_iconst (v := 0) hx hb dProgram_followers_10 (by decide) ?_
    refine lv_goto (tgt := 31) hx hb dProgram_followers_11 rfl ?_
    exact hend 0 _ _ _ _ dProgram_followers_31 hP hD hS hw
abbrev wdProgram_setsInBlock (cA : ClassId) (ad : Nat → Nat) (N : Nat) (stepCount : Nat → Int32) (kind : Nat → Int32) (target : Nat → Int32) : va_W := [((ad 1), .inr (1, [.int (nI N), .ref (ad 2), .ref (ad 3), .ref (ad 4), .ref (ad 5), .ref (ad 6), .ref (ad 7), .ref (ad 8), .ref (ad 9), .ref (ad 10)])), ((ad 2), .inl (cA, N, .inl stepCount)), ((ad 3), .inl (cA, N * 6, .inl kind)), ((ad 4), .inl (cA, N * 6, .inl target))]
abbrev qcProgram_setsInBlock (D : va_G) (cA : ClassId) (ad : Nat → Nat) (N : Nat) (stepCount : Nat → Int32) (kind : Nat → Int32) (target : Nat → Int32) (post : Bool → Prop) (A : Nat → Prop) : Array Value → State → Outcome → State → Prop := va_Qi (S := Unit) (fun r u => ∃ z : Bool, r = bI z ∧ post z ) (fun u t => xB D cA A (wdProgram_setsInBlock cA ad N stepCount kind target) t) A
abbrev rmProgram_setsInBlock : Room := { frames := 2, cells := 0, slots := 0, locals := 43 }
set_option maxHeartbeats 4000000 in
set_option maxRecDepth 100000 in
theorem ktProgram_setsInBlock (l : Launch) (D : va_G) (cA : ClassId) (ad : Nat → Nat) (N : Nat) (sz : Nat) (stepCount : Nat → Int32) (kind : Nat → Int32) (target : Nat → Int32) (v1 : Int32) (v2 : Int32) (post : Bool → Prop) (hw : wpProgram_setsInBlock N stepCount kind target v1 v2 post) : Met l yProgram_setsInBlock (Cond.code yProgram_setsInBlock cProgram_setsInBlock 4 (some .boolean) :: xW) rmProgram_setsInBlock (va_Pc [.ref (ad 1), .int v1, .int v2] (xPc D cA (wdProgram_setsInBlock cA ad N stepCount kind target) sz)) (qcProgram_setsInBlock D cA ad N stepCount kind target post (va_A (wdProgram_setsInBlock cA ad N stepCount kind target) sz)) 0 0 (va_A (wdProgram_setsInBlock cA ad N stepCount kind target) sz) := by
  refine Met.ofW (cc := cProgram_setsInBlock) (maxL := 4) (ret := (some .boolean)) (by decide) rfl ?_
  intro p e s m args below meth c s₁ B hml hv
  obtain ⟨rfl, hsz, hP, hK, hD0, hN⟩ := hv
  have hx := B.exec
  have hb := B.bytes
  have hr := B.returns
  have hts := atoms_spec (ws := (Cond.code yProgram_setsInBlock cProgram_setsInBlock 4 (some .boolean) :: xW)) B.pre
  have hown : s.vm.findClass "OnceNamed$Program" = some m.cls := findClass_of_methodNamed B.named
  have hlocks := B.notSynchronized
  subst hsz
  have hD := hD0.self (sz := s.heap.size)
  generalize hAe : va_A (wdProgram_setsInBlock cA ad N stepCount kind target) s.heap.size = A at hD ⊢
  have hA : ∀ q : Nat, s.heap.size ≤ q → A q := fun q h => by rw [← hAe]; exact Or.inr h
  have hS : va_S A s.heap s.heap [] := va_S.rf
  have hend : ∀ (r : Bool)  (H : Heap) (locs : List Loc) (pc : Nat) (ls : Array Slot), decode cProgram_setsInBlock pc = .ok (.ireturn, 1) → va_P D vwCl (wdProgram_setsInBlock cA ad N stepCount kind target) H → va_D A (wdProgram_setsInBlock cA ad N stepCount kind target) → va_S A s.heap H locs → post r  → W p l e (headSpec (Cond.code yProgram_setsInBlock cProgram_setsInBlock 4 (some .boolean) :: xW) rmProgram_setsInBlock).room s m ([.ref (ad 1), .int v1, .int v2] : List Value).toArray below meth c H locs 0 0 (MQ below (qcProgram_setsInBlock D cA ad N stepCount kind target post A) ([.ref (ad 1), .int v1, .int v2] : List Value).toArray s 0 0 A) (F0 m pc ls [.int (bI r)]) := fun r  H locs pc ls hd hP hD hS hw => W.zret (v := bI r) hx hb hr (bI_nar r) (fun t ht hW => ⟨⟨bI r, (), rfl, ⟨r, rfl, hw⟩, ⟨by rw [ht]; exact hP, va_K.moved hW.alike hK, hD⟩⟩, hS.F ht⟩) hS.2.2 hd
  generalize hQ : MQ below (qcProgram_setsInBlock D cA ad N stepCount kind target post A) ([.ref (ad 1), .int v1, .int v2] : List Value).toArray s 0 0 A = Q at hend ⊢
  have hl := lv_entry ([.ref (ad 1), .int v1, .int v2]) (n := 4) (Nat.le_of_ble_eq_true rfl)
  rw [lg_entry_eq]
  generalize (lg_sl ([.ref (ad 1), .int v1, .int v2]) ++ List.replicate (4 - (lg_sl ([.ref (ad 1), .int v1, .int v2])).length) Slot.unset).toArray = ls at hl ⊢
  have hl : lv_has ls 4 [(0, .ref (ad 1)), (1, .int v1), (2, .int v2)] := hl
  unfold wpProgram_setsInBlock at hw
  refine lv_iconst (v := 0) hx hb dProgram_setsInBlock_0 (by decide) ?_
  refine lv_istore_n (lv' := [(3, .int 0), (0, .ref (ad 1)), (1, .int v1), (2, .int v2)]) hx hb dProgram_setsInBlock_1 rfl hl (by decide) rfl (fun ls hl => ?_)
  obtain ⟨k2, hw⟩ := hw
  have hlp2 : ∀ (k : Nat), ∀ (v3_L2 : Int32) (ls : Array Slot) (H : Heap) (locs : List Loc), lv_has ls 4 [(0, .ref (ad 1)), (1, .int v1), (2, .int v2), (3, .int v3_L2)] → va_P D vwCl (wdProgram_setsInBlock cA ad N stepCount kind target) H → va_D A (wdProgram_setsInBlock cA ad N stepCount kind target) → va_S A s.heap H locs → lpProgram_setsInBlock_2 N v1 v2 stepCount kind target post k v3_L2 → W p l e (headSpec (Cond.code yProgram_setsInBlock cProgram_setsInBlock 4 (some .boolean) :: xW) rmProgram_setsInBlock).room s m ([.ref (ad 1), .int v1, .int v2] : List Value).toArray below meth c H locs 0 0 Q (F0 m 2 ls []) := by
    intro k
    induction k with
    | zero => intro v3_L2 ls H locs hl hP hD hS hw; exact False.elim hw
    | succ k ih =>
      intro v3_L2 ls H locs hl hP hD hS hw
      refine lv_iload_n hx hb dProgram_setsInBlock_2 rfl (lv_at hl 3 rfl) ?_
      refine lv_aload_n hx hb dProgram_setsInBlock_3 rfl (lv_at hl 0 rfl) ?_
      refine va_get (D := D) (ci := 1) (v := .ref (ad 2)) (C := "OnceNamed$Program") (T := TX1) (N := 10) hx hb hts (fun w h => List.mem_cons_of_mem _ (inX1 w h)) hown hK hP 0 rfl rfl 1 (by decide) (hts _ (List.mem_cons_of_mem _ kw_45)) (fun _ h9 => h9) rfl dProgram_setsInBlock_4 ?_
      refine lv_iload_n hx hb dProgram_setsInBlock_7 rfl (lv_at hl 1 rfl) ?_
      have ho := hw.1
      have hw := hw.2
      refine va_iald hx hb hK hP 1 0 rfl rfl ho dProgram_setsInBlock_8 ?_
      refine lv_icmp_ge (tgt := 30) hx hb dProgram_setsInBlock_9 rfl (fun hc => ?_) (fun hc => ?_)
      · have hw := hw.1 hc
        refine lv_iconst (v := 0) hx hb dProgram_setsInBlock_30 (by decide) ?_
        exact hend false _ _ _ _ dProgram_setsInBlock_31 hP hD hS hw
      · have hw := hw.2 hc
        refine lv_aload_n hx hb dProgram_setsInBlock_12 rfl (lv_at hl 0 rfl) ?_
        refine lv_iload_n hx hb dProgram_setsInBlock_13 rfl (lv_at hl 1 rfl) ?_
        refine lv_iload_n hx hb dProgram_setsInBlock_14 rfl (lv_at hl 3 rfl) ?_
        refine xci (va_runV ⟨hx, hb, hml, hown, hts⟩ (ktProgram_variableSet l D cA ad N _ kind target v1 v3_L2 _ hw) (cwV 2 hts (goodV kw_327 kw_328 kw_329 kw_3 kw_330) rfl rfl rfl (by decide +kernel) ⟨Nat.le_of_ble_eq_true rfl, Nat.le_of_ble_eq_true rfl⟩) (xpreV hK hP hD hN [0, 2, 3] rfl rfl 0 rfl rfl) rfl rfl hl.1 rfl (lv_room (Nat.le_of_ble_eq_true rfl)) dProgram_setsInBlock_15 ⟨Nat.le_of_ble_eq_true rfl, Nat.le_of_ble_eq_true rfl⟩) hP hD hS hA [0, 2, 3] [1] rfl rfl rfl rfl [1, 0, 2, 3] rfl (fun _ => rfl) (fun r15 u H locs hw hP hD hS => ?_)
        have hP : va_P D vwCl (wdProgram_setsInBlock cA ad N stepCount kind target) H := hP
        have hD : va_D A (wdProgram_setsInBlock cA ad N stepCount kind target) := hD
        refine lv_iload_n hx hb dProgram_setsInBlock_18 rfl (lv_at hl 2 rfl) ?_
        refine lv_icmp_ne (tgt := 24) hx hb dProgram_setsInBlock_19 rfl (fun hc => ?_) (fun hc => ?_)
        · have hw := hw.1 hc
          refine lv_iinc (k := 3) (v := (v3_L2 + 1)) (lv' := [(3, .int (v3_L2 + 1)), (0, .ref (ad 1)), (1, .int v1), (2, .int v2)]) hx hb dProgram_setsInBlock_24 hl rfl rfl (by decide) rfl (fun ls hl => ?_)
          refine lv_goto (tgt := 2) hx hb dProgram_setsInBlock_27 rfl ?_
          exact ih (v3_L2 + 1) _ _ _ (lv_sub hl [1, 2, 3, 0] rfl) hP hD hS hw
        · have hw := hw.2 hc
          refine lv_iconst (v := 1) hx hb dProgram_setsInBlock_22 (by decide) ?_
          exact hend true _ _ _ _ dProgram_setsInBlock_23 hP hD hS hw
  refine hlp2 k2 0 _ _ _ (lv_sub hl [1, 2, 3, 0] rfl) hP hD hS hw
end
