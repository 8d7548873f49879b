theorem kw_409 : Cond.methodLink "OnceNamedLaw" 7 yOn_step ∈ xW := List.mem_filter.mpr ⟨List.mem_append_right _ (List.mem_append_right _ (List.mem_append_left _ (List.mem_of_getElem? (i := 169) rfl))), rfl⟩
theorem kw_410 : Cond.instanceMethod yOn_step ∈ xW := List.mem_filter.mpr ⟨List.mem_append_right _ (List.mem_append_right _ (List.mem_append_left _ (List.mem_of_getElem? (i := 170) rfl))), rfl⟩
theorem kw_411 : Cond.selects "OnceNamed" yOn_step yOn_step ∈ xW := List.mem_filter.mpr ⟨List.mem_append_right _ (List.mem_append_right _ (List.mem_append_left _ (List.mem_of_getElem? (i := 171) rfl))), rfl⟩
theorem kw_407 : Cond.classLink "OnceNamedLaw" 13 "java/lang/IllegalArgumentException" ∈ xW := List.mem_filter.mpr ⟨List.mem_append_right _ (List.mem_append_right _ (List.mem_append_left _ (List.mem_of_getElem? (i := 167) rfl))), rfl⟩
theorem kw_408 : Cond.classLink "OnceNamedLaw" 15 "java/lang/IllegalStateException" ∈ xW := List.mem_filter.mpr ⟨List.mem_append_right _ (List.mem_append_right _ (List.mem_append_left _ (List.mem_of_getElem? (i := 168) rfl))), rfl⟩
theorem kw_523 : Cond.methodLink "OnceNamedLaw" 17 yOn_go ∈ xW := List.mem_filter.mpr ⟨List.mem_append_right _ (List.mem_append_right _ (List.mem_append_right _ (List.mem_append_left _ (List.mem_of_getElem? (i := 43) rfl)))), rfl⟩
theorem kw_524 : Cond.instanceMethod yOn_go ∈ xW := List.mem_filter.mpr ⟨List.mem_append_right _ (List.mem_append_right _ (List.mem_append_right _ (List.mem_append_left _ (List.mem_of_getElem? (i := 44) rfl)))), rfl⟩
theorem kw_525 : Cond.selects "OnceNamed" yOn_go yOn_go ∈ xW := List.mem_filter.mpr ⟨List.mem_append_right _ (List.mem_append_right _ (List.mem_append_right _ (List.mem_append_left _ (List.mem_of_getElem? (i := 45) rfl)))), rfl⟩
theorem kw_538 : Cond.methodLink "OnceNamedLaw" 21 yOn_fork ∈ xW := List.mem_filter.mpr ⟨List.mem_append_right _ (List.mem_append_right _ (List.mem_append_right _ (List.mem_append_left _ (List.mem_of_getElem? (i := 58) rfl)))), rfl⟩
theorem kw_539 : Cond.instanceMethod yOn_fork ∈ xW := List.mem_filter.mpr ⟨List.mem_append_right _ (List.mem_append_right _ (List.mem_append_right _ (List.mem_append_left _ (List.mem_of_getElem? (i := 59) rfl)))), rfl⟩
theorem kw_540 : Cond.selects "OnceNamed" yOn_fork yOn_fork ∈ xW := List.mem_filter.mpr ⟨List.mem_append_right _ (List.mem_append_right _ (List.mem_append_right _ (List.mem_append_left _ (List.mem_of_getElem? (i := 60) rfl)))), rfl⟩
theorem kw_545 : Cond.methodLink "OnceNamedLaw" 25 yOn_stop ∈ xW := List.mem_filter.mpr ⟨List.mem_append_right _ (List.mem_append_right _ (List.mem_append_right _ (List.mem_append_left _ (List.mem_of_getElem? (i := 65) rfl)))), rfl⟩
theorem kw_546 : Cond.instanceMethod yOn_stop ∈ xW := List.mem_filter.mpr ⟨List.mem_append_right _ (List.mem_append_right _ (List.mem_append_right _ (List.mem_append_left _ (List.mem_of_getElem? (i := 66) rfl)))), rfl⟩
theorem kw_547 : Cond.selects "OnceNamed" yOn_stop yOn_stop ∈ xW := List.mem_filter.mpr ⟨List.mem_append_right _ (List.mem_append_right _ (List.mem_append_right _ (List.mem_append_left _ (List.mem_of_getElem? (i := 67) rfl)))), rfl⟩
theorem kw_552 : Cond.methodLink "OnceNamedLaw" 29 yOn_start ∈ xW := List.mem_filter.mpr ⟨List.mem_append_right _ (List.mem_append_right _ (List.mem_append_right _ (List.mem_append_left _ (List.mem_of_getElem? (i := 72) rfl)))), rfl⟩
theorem kw_553 : Cond.instanceMethod yOn_start ∈ xW := List.mem_filter.mpr ⟨List.mem_append_right _ (List.mem_append_right _ (List.mem_append_right _ (List.mem_append_left _ (List.mem_of_getElem? (i := 73) rfl)))), rfl⟩
theorem kw_554 : Cond.selects "OnceNamed" yOn_start yOn_start ∈ xW := List.mem_filter.mpr ⟨List.mem_append_right _ (List.mem_append_right _ (List.mem_append_right _ (List.mem_append_left _ (List.mem_of_getElem? (i := 74) rfl)))), rfl⟩
theorem kw_564 : Cond.methodLink "OnceNamedLaw" 32 yOn_propagate ∈ xW := List.mem_filter.mpr ⟨List.mem_append_right _ (List.mem_append_right _ (List.mem_append_right _ (List.mem_append_left _ (List.mem_of_getElem? (i := 84) rfl)))), rfl⟩
theorem kw_565 : Cond.instanceMethod yOn_propagate ∈ xW := List.mem_filter.mpr ⟨List.mem_append_right _ (List.mem_append_right _ (List.mem_append_right _ (List.mem_append_left _ (List.mem_of_getElem? (i := 85) rfl)))), rfl⟩
theorem kw_566 : Cond.selects "OnceNamed" yOn_propagate yOn_propagate ∈ xW := List.mem_filter.mpr ⟨List.mem_append_right _ (List.mem_append_right _ (List.mem_append_right _ (List.mem_append_left _ (List.mem_of_getElem? (i := 86) rfl)))), rfl⟩
theorem kw_563 : Cond.classLink "OnceNamedLaw" 36 "java/lang/UnsupportedOperationException" ∈ xW := List.mem_filter.mpr ⟨List.mem_append_right _ (List.mem_append_right _ (List.mem_append_right _ (List.mem_append_left _ (List.mem_of_getElem? (i := 83) rfl)))), rfl⟩
theorem kw_628 : Cond.methodLink "OnceNamedLaw" 38 yOn_parent ∈ xW := List.mem_filter.mpr ⟨List.mem_append_right _ (List.mem_append_right _ (List.mem_append_right _ (List.mem_append_left _ (List.mem_of_getElem? (i := 148) rfl)))), rfl⟩
theorem kw_629 : Cond.instanceMethod yOn_parent ∈ xW := List.mem_filter.mpr ⟨List.mem_append_right _ (List.mem_append_right _ (List.mem_append_right _ (List.mem_append_left _ (List.mem_of_getElem? (i := 149) rfl)))), rfl⟩
theorem kw_630 : Cond.selects "OnceNamed" yOn_parent yOn_parent ∈ xW := List.mem_filter.mpr ⟨List.mem_append_right _ (List.mem_append_right _ (List.mem_append_right _ (List.mem_append_left _ (List.mem_of_getElem? (i := 150) rfl)))), rfl⟩
theorem kw_636 : Cond.methodLink "OnceNamedLaw" 42 yOn_dominates ∈ xW := List.mem_filter.mpr ⟨List.mem_append_right _ (List.mem_append_right _ (List.mem_append_right _ (List.mem_append_left _ (List.mem_of_getElem? (i := 156) rfl)))), rfl⟩
theorem kw_637 : Cond.instanceMethod yOn_dominates ∈ xW := List.mem_filter.mpr ⟨List.mem_append_right _ (List.mem_append_right _ (List.mem_append_right _ (List.mem_append_left _ (List.mem_of_getElem? (i := 157) rfl)))), rfl⟩
theorem kw_638 : Cond.selects "OnceNamed" yOn_dominates yOn_dominates ∈ xW := List.mem_filter.mpr ⟨List.mem_append_right _ (List.mem_append_right _ (List.mem_append_right _ (List.mem_append_left _ (List.mem_of_getElem? (i := 158) rfl)))), rfl⟩
theorem kw_644 : Cond.methodLink "OnceNamedLaw" 46 yOn_frontier ∈ xW := List.mem_filter.mpr ⟨List.mem_append_right _ (List.mem_append_right _ (List.mem_append_right _ (List.mem_append_left _ (List.mem_of_getElem? (i := 164) rfl)))), rfl⟩
theorem kw_645 : Cond.instanceMethod yOn_frontier ∈ xW := List.mem_filter.mpr ⟨List.mem_append_right _ (List.mem_append_right _ (List.mem_append_right _ (List.mem_append_left _ (List.mem_of_getElem? (i := 165) rfl)))), rfl⟩
theorem kw_646 : Cond.selects "OnceNamed" yOn_frontier yOn_frontier ∈ xW := List.mem_filter.mpr ⟨List.mem_append_right _ (List.mem_append_right _ (List.mem_append_right _ (List.mem_append_left _ (List.mem_of_getElem? (i := 166) rfl)))), rfl⟩
theorem kw_656 : Cond.methodLink "OnceNamedLaw" 49 yOn_meeting ∈ xW := List.mem_filter.mpr ⟨List.mem_append_right _ (List.mem_append_right _ (List.mem_append_right _ (List.mem_append_left _ (List.mem_of_getElem? (i := 176) rfl)))), rfl⟩
theorem kw_657 : Cond.instanceMethod yOn_meeting ∈ xW := List.mem_filter.mpr ⟨List.mem_append_right _ (List.mem_append_right _ (List.mem_append_right _ (List.mem_append_left _ (List.mem_of_getElem? (i := 177) rfl)))), rfl⟩
theorem kw_658 : Cond.selects "OnceNamed" yOn_meeting yOn_meeting ∈ xW := List.mem_filter.mpr ⟨List.mem_append_right _ (List.mem_append_right _ (List.mem_append_right _ (List.mem_append_left _ (List.mem_of_getElem? (i := 178) rfl)))), rfl⟩
theorem kw_667 : Cond.methodLink "OnceNamedLaw" 53 yOn_source ∈ xW := List.mem_filter.mpr ⟨List.mem_append_right _ (List.mem_append_right _ (List.mem_append_right _ (List.mem_append_left _ (List.mem_of_getElem? (i := 187) rfl)))), rfl⟩
theorem kw_668 : Cond.instanceMethod yOn_source ∈ xW := List.mem_filter.mpr ⟨List.mem_append_right _ (List.mem_append_right _ (List.mem_append_right _ (List.mem_append_left _ (List.mem_of_getElem? (i := 188) rfl)))), rfl⟩
theorem kw_669 : Cond.selects "OnceNamed" yOn_source yOn_source ∈ xW := List.mem_filter.mpr ⟨List.mem_append_right _ (List.mem_append_right _ (List.mem_append_right _ (List.mem_append_left _ (List.mem_of_getElem? (i := 189) rfl)))), rfl⟩
theorem kw_687 : Cond.methodLink "OnceNamedLaw" 57 yOn_sets ∈ xW := List.mem_filter.mpr ⟨List.mem_append_right _ (List.mem_append_right _ (List.mem_append_right _ (List.mem_append_left _ (List.mem_of_getElem? (i := 207) rfl)))), rfl⟩
theorem kw_688 : Cond.instanceMethod yOn_sets ∈ xW := List.mem_filter.mpr ⟨List.mem_append_right _ (List.mem_append_right _ (List.mem_append_right _ (List.mem_append_left _ (List.mem_of_getElem? (i := 208) rfl)))), rfl⟩
theorem kw_689 : Cond.selects "OnceNamed" yOn_sets yOn_sets ∈ xW := List.mem_filter.mpr ⟨List.mem_append_right _ (List.mem_append_right _ (List.mem_append_right _ (List.mem_append_left _ (List.mem_of_getElem? (i := 209) rfl)))), rfl⟩
theorem kw_703 : Cond.methodLink "OnceNamedLaw" 60 yOn_use ∈ xW := List.mem_filter.mpr ⟨List.mem_append_right _ (List.mem_append_right _ (List.mem_append_right _ (List.mem_append_left _ (List.mem_of_getElem? (i := 223) rfl)))), rfl⟩
theorem kw_704 : Cond.instanceMethod yOn_use ∈ xW := List.mem_filter.mpr ⟨List.mem_append_right _ (List.mem_append_right _ (List.mem_append_right _ (List.mem_append_left _ (List.mem_of_getElem? (i := 224) rfl)))), rfl⟩
theorem kw_705 : Cond.selects "OnceNamed" yOn_use yOn_use ∈ xW := List.mem_filter.mpr ⟨List.mem_append_right _ (List.mem_append_right _ (List.mem_append_right _ (List.mem_append_left _ (List.mem_of_getElem? (i := 225) rfl)))), rfl⟩
theorem kw_727 : Cond.methodLink "OnceNamedLaw" 63 yOn_alter ∈ xW := List.mem_filter.mpr ⟨List.mem_append_right _ (List.mem_append_right _ (List.mem_append_right _ (List.mem_append_right _ (List.mem_append_left _ (List.mem_of_getElem? (i := 7) rfl))))), rfl⟩
theorem kw_728 : Cond.instanceMethod yOn_alter ∈ xW := List.mem_filter.mpr ⟨List.mem_append_right _ (List.mem_append_right _ (List.mem_append_right _ (List.mem_append_right _ (List.mem_append_left _ (List.mem_of_getElem? (i := 8) rfl))))), rfl⟩
theorem kw_729 : Cond.selects "OnceNamed" yOn_alter yOn_alter ∈ xW := List.mem_filter.mpr ⟨List.mem_append_right _ (List.mem_append_right _ (List.mem_append_right _ (List.mem_append_right _ (List.mem_append_left _ (List.mem_of_getElem? (i := 9) rfl))))), rfl⟩
theorem kw_755 : Cond.methodLink "OnceNamedLaw" 66 yOn_turn ∈ xW := List.mem_filter.mpr ⟨List.mem_append_right _ (List.mem_append_right _ (List.mem_append_right _ (List.mem_append_right _ (List.mem_append_left _ (List.mem_of_getElem? (i := 35) rfl))))), rfl⟩
theorem kw_756 : Cond.instanceMethod yOn_turn ∈ xW := List.mem_filter.mpr ⟨List.mem_append_right _ (List.mem_append_right _ (List.mem_append_right _ (List.mem_append_right _ (List.mem_append_left _ (List.mem_of_getElem? (i := 36) rfl))))), rfl⟩
theorem kw_757 : Cond.selects "OnceNamed" yOn_turn yOn_turn ∈ xW := List.mem_filter.mpr ⟨List.mem_append_right _ (List.mem_append_right _ (List.mem_append_right _ (List.mem_append_right _ (List.mem_append_left _ (List.mem_of_getElem? (i := 37) rfl))))), rfl⟩
theorem kw_766 : Cond.methodLink "OnceNamedLaw" 69 yOn_valid ∈ xW := List.mem_filter.mpr ⟨List.mem_append_right _ (List.mem_append_right _ (List.mem_append_right _ (List.mem_append_right _ (List.mem_append_left _ (List.mem_of_getElem? (i := 46) rfl))))), rfl⟩
theorem kw_767 : Cond.instanceMethod yOn_valid ∈ xW := List.mem_filter.mpr ⟨List.mem_append_right _ (List.mem_append_right _ (List.mem_append_right _ (List.mem_append_right _ (List.mem_append_left _ (List.mem_of_getElem? (i := 47) rfl))))), rfl⟩
theorem kw_768 : Cond.selects "OnceNamed" yOn_valid yOn_valid ∈ xW := List.mem_filter.mpr ⟨List.mem_append_right _ (List.mem_append_right _ (List.mem_append_right _ (List.mem_append_right _ (List.mem_append_left _ (List.mem_of_getElem? (i := 48) rfl))))), rfl⟩
theorem kw_773 : Cond.methodLink "OnceNamedLaw" 73 yOn_copies ∈ xW := List.mem_filter.mpr ⟨List.mem_append_right _ (List.mem_append_right _ (List.mem_append_right _ (List.mem_append_right _ (List.mem_append_left _ (List.mem_of_getElem? (i := 53) rfl))))), rfl⟩
theorem kw_774 : Cond.instanceMethod yOn_copies ∈ xW := List.mem_filter.mpr ⟨List.mem_append_right _ (List.mem_append_right _ (List.mem_append_right _ (List.mem_append_right _ (List.mem_append_left _ (List.mem_of_getElem? (i := 54) rfl))))), rfl⟩
theorem kw_775 : Cond.selects "OnceNamed" yOn_copies yOn_copies ∈ xW := List.mem_filter.mpr ⟨List.mem_append_right _ (List.mem_append_right _ (List.mem_append_right _ (List.mem_append_right _ (List.mem_append_left _ (List.mem_of_getElem? (i := 55) rfl))))), rfl⟩
theorem kw_815 : Cond.methodLink "OnceNamedLaw" 76 yOn_run ∈ xW := List.mem_filter.mpr ⟨List.mem_append_right _ (List.mem_append_right _ (List.mem_append_right _ (List.mem_append_right _ (List.mem_append_left _ (List.mem_of_getElem? (i := 95) rfl))))), rfl⟩
theorem kw_816 : Cond.instanceMethod yOn_run ∈ xW := List.mem_filter.mpr ⟨List.mem_append_right _ (List.mem_append_right _ (List.mem_append_right _ (List.mem_append_right _ (List.mem_append_left _ (List.mem_of_getElem? (i := 96) rfl))))), rfl⟩
theorem kw_817 : Cond.selects "OnceNamed" yOn_run yOn_run ∈ xW := List.mem_filter.mpr ⟨List.mem_append_right _ (List.mem_append_right _ (List.mem_append_right _ (List.mem_append_right _ (List.mem_append_left _ (List.mem_of_getElem? (i := 97) rfl))))), rfl⟩
theorem kw_814 : Cond.classLink "OnceNamedLaw" 79 "java/lang/ArithmeticException" ∈ xW := List.mem_filter.mpr ⟨List.mem_append_right _ (List.mem_append_right _ (List.mem_append_right _ (List.mem_append_right _ (List.mem_append_left _ (List.mem_of_getElem? (i := 94) rfl))))), rfl⟩
theorem kw_944 : Cond.methodLink "OnceNamedLaw" 81 yOn_said ∈ xW := List.mem_filter.mpr ⟨List.mem_append_right _ (List.mem_append_right _ (List.mem_append_right _ (List.mem_append_right _ (List.mem_append_left _ (List.mem_of_getElem? (i := 224) rfl))))), rfl⟩
theorem kw_945 : Cond.instanceMethod yOn_said ∈ xW := List.mem_filter.mpr ⟨List.mem_append_right _ (List.mem_append_right _ (List.mem_append_right _ (List.mem_append_right _ (List.mem_append_left _ (List.mem_of_getElem? (i := 225) rfl))))), rfl⟩
theorem kw_946 : Cond.selects "OnceNamed" yOn_said yOn_said ∈ xW := List.mem_filter.mpr ⟨List.mem_append_right _ (List.mem_append_right _ (List.mem_append_right _ (List.mem_append_right _ (List.mem_append_left _ (List.mem_of_getElem? (i := 226) rfl))))), rfl⟩
theorem kw_943 : Cond.classLink "OnceNamedLaw" 84 "java/lang/IndexOutOfBoundsException" ∈ xW := List.mem_filter.mpr ⟨List.mem_append_right _ (List.mem_append_right _ (List.mem_append_right _ (List.mem_append_right _ (List.mem_append_left _ (List.mem_of_getElem? (i := 223) rfl))))), rfl⟩
theorem kw_971 : Cond.methodLink "OnceNamedLaw" 86 yOn_same ∈ xW := List.mem_filter.mpr ⟨List.mem_append_right _ (List.mem_append_right _ (List.mem_append_right _ (List.mem_append_right _ (List.mem_append_right _ (List.mem_append_left _ (List.mem_of_getElem? (i := 11) rfl)))))), rfl⟩
theorem kw_972 : Cond.instanceMethod yOn_same ∈ xW := List.mem_filter.mpr ⟨List.mem_append_right _ (List.mem_append_right _ (List.mem_append_right _ (List.mem_append_right _ (List.mem_append_right _ (List.mem_append_left _ (List.mem_of_getElem? (i := 12) rfl)))))), rfl⟩
theorem kw_973 : Cond.selects "OnceNamed" yOn_same yOn_same ∈ xW := List.mem_filter.mpr ⟨List.mem_append_right _ (List.mem_append_right _ (List.mem_append_right _ (List.mem_append_right _ (List.mem_append_right _ (List.mem_append_left _ (List.mem_of_getElem? (i := 13) rfl)))))), rfl⟩
abbrev cLw_step : ByteArray := method_3_code
abbrev yLw_step : MethodName := ⟨"OnceNamedLaw", "step", "(LOnceNamed;IIIII[J)I"⟩
abbrev cLw_go : ByteArray := method_4_code
abbrev yLw_go : MethodName := ⟨"OnceNamedLaw", "go", "(LOnceNamed;II)I"⟩
abbrev cLw_fork : ByteArray := method_5_code
abbrev yLw_fork : MethodName := ⟨"OnceNamedLaw", "fork", "(LOnceNamed;IIII)I"⟩
abbrev cLw_stop : ByteArray := method_6_code
abbrev yLw_stop : MethodName := ⟨"OnceNamedLaw", "stop", "(LOnceNamed;I)I"⟩
abbrev cLw_start : ByteArray := method_7_code
abbrev yLw_start : MethodName := ⟨"OnceNamedLaw", "start", "(LOnceNamed;II)I"⟩
abbrev cLw_propagate : ByteArray := method_8_code
abbrev yLw_propagate : MethodName := ⟨"OnceNamedLaw", "propagate", "(LOnceNamed;[J)I"⟩
abbrev cLw_parent : ByteArray := method_9_code
abbrev yLw_parent : MethodName := ⟨"OnceNamedLaw", "parent", "(LOnceNamed;I[J)I"⟩
abbrev cLw_dominates : ByteArray := method_10_code
abbrev yLw_dominates : MethodName := ⟨"OnceNamedLaw", "dominates", "(LOnceNamed;II[J)I"⟩
abbrev cLw_frontier : ByteArray := method_11_code
abbrev yLw_frontier : MethodName := ⟨"OnceNamedLaw", "frontier", "(LOnceNamed;II[J)I"⟩
abbrev cLw_meeting : ByteArray := method_12_code
abbrev yLw_meeting : MethodName := ⟨"OnceNamedLaw", "meeting", "(LOnceNamed;II[J)I"⟩
abbrev cLw_source : ByteArray := method_13_code
abbrev yLw_source : MethodName := ⟨"OnceNamedLaw", "source", "(LOnceNamed;III[J)I"⟩
abbrev cLw_sets : ByteArray := method_14_code
abbrev yLw_sets : MethodName := ⟨"OnceNamedLaw", "sets", "(LOnceNamed;II[J)I"⟩
abbrev cLw_use : ByteArray := method_15_code
abbrev yLw_use : MethodName := ⟨"OnceNamedLaw", "use", "(LOnceNamed;III[J)I"⟩
abbrev cLw_alter : ByteArray := method_16_code
abbrev yLw_alter : MethodName := ⟨"OnceNamedLaw", "alter", "(LOnceNamed;IIII)I"⟩
abbrev cLw_turn : ByteArray := method_17_code
abbrev yLw_turn : MethodName := ⟨"OnceNamedLaw", "turn", "(LOnceNamed;IIII)I"⟩
abbrev cLw_valid : ByteArray := method_18_code
abbrev yLw_valid : MethodName := ⟨"OnceNamedLaw", "valid", "(LOnceNamed;[J)I"⟩
abbrev cLw_copies : ByteArray := method_19_code
abbrev yLw_copies : MethodName := ⟨"OnceNamedLaw", "copies", "(LOnceNamed;II[J)I"⟩
abbrev cLw_run : ByteArray := method_20_code
abbrev yLw_run : MethodName := ⟨"OnceNamedLaw", "run", "(LOnceNamed;I[J)I"⟩
abbrev cLw_said : ByteArray := method_21_code
abbrev yLw_said : MethodName := ⟨"OnceNamedLaw", "said", "(LOnceNamed;I[J)I"⟩
abbrev cLw_same : ByteArray := method_22_code
abbrev yLw_same : MethodName := ⟨"OnceNamedLaw", "same", "(LOnceNamed;I[J)I"⟩
theorem dLw_step_0 : decode cLw_step 0 = .ok (.aload 6, 2) := by decide +kernel
theorem dLw_step_2 : decode cLw_step 2 = .ok (.iconst 0, 1) := by decide +kernel
theorem dLw_step_3 : decode cLw_step 3 = .ok (.aload_n 0, 1) := by decide +kernel
theorem dLw_step_4 : decode cLw_step 4 = .ok (.iload_n 1, 1) := by decide +kernel
theorem dLw_step_5 : decode cLw_step 5 = .ok (.iload_n 2, 1) := by decide +kernel
theorem dLw_step_6 : decode cLw_step 6 = .ok (.iload_n 3, 1) := by decide +kernel
theorem dLw_step_7 : decode cLw_step 7 = .ok (.iload 4, 2) := by decide +kernel
theorem dLw_step_9 : decode cLw_step 9 = .ok (.iload 5, 2) := by decide +kernel
theorem dLw_step_11 : decode cLw_step 11 = .ok (.invokevirtual 7, 3) := by decide +kernel
theorem dLw_step_14 : decode cLw_step 14 = .ok (.i2l, 1) := by decide +kernel
theorem dLw_step_15 : decode cLw_step 15 = .ok (.lastore, 1) := by decide +kernel
theorem dLw_step_16 : decode cLw_step 16 = .ok (.goto 11, 3) := by decide +kernel
theorem dLw_step_19 : decode cLw_step 19 = .ok (.astore 7, 2) := by decide +kernel
theorem dLw_step_21 : decode cLw_step 21 = .ok (.iconst 1, 1) := by decide +kernel
theorem dLw_step_22 : decode cLw_step 22 = .ok (.ireturn, 1) := by decide +kernel
theorem dLw_step_23 : decode cLw_step 23 = .ok (.astore 7, 2) := by decide +kernel
theorem dLw_step_25 : decode cLw_step 25 = .ok (.iconst 2, 1) := by decide +kernel
theorem dLw_step_26 : decode cLw_step 26 = .ok (.ireturn, 1) := by decide +kernel
theorem dLw_step_27 : decode cLw_step 27 = .ok (.iconst 0, 1) := by decide +kernel
theorem dLw_step_28 : decode cLw_step 28 = .ok (.ireturn, 1) := by decide +kernel
theorem dLw_go_0 : decode cLw_go 0 = .ok (.aload_n 0, 1) := by decide +kernel
theorem dLw_go_1 : decode cLw_go 1 = .ok (.iload_n 1, 1) := by decide +kernel
theorem dLw_go_2 : decode cLw_go 2 = .ok (.iload_n 2, 1) := by decide +kernel
theorem dLw_go_3 : decode cLw_go 3 = .ok (.invokevirtual 17, 3) := by decide +kernel
theorem dLw_go_6 : decode cLw_go 6 = .ok (.goto 6, 3) := by decide +kernel
theorem dLw_go_9 : decode cLw_go 9 = .ok (.astore_n 3, 1) := by decide +kernel
theorem dLw_go_10 : decode cLw_go 10 = .ok (.iconst 1, 1) := by decide +kernel
theorem dLw_go_11 : decode cLw_go 11 = .ok (.ireturn, 1) := by decide +kernel
theorem dLw_go_12 : decode cLw_go 12 = .ok (.iconst 0, 1) := by decide +kernel
theorem dLw_go_13 : decode cLw_go 13 = .ok (.ireturn, 1) := by decide +kernel
theorem dLw_fork_0 : decode cLw_fork 0 = .ok (.aload_n 0, 1) := by decide +kernel
theorem dLw_fork_1 : decode cLw_fork 1 = .ok (.iload_n 1, 1) := by decide +kernel
theorem dLw_fork_2 : decode cLw_fork 2 = .ok (.iload_n 2, 1) := by decide +kernel
theorem dLw_fork_3 : decode cLw_fork 3 = .ok (.iload_n 3, 1) := by decide +kernel
theorem dLw_fork_4 : decode cLw_fork 4 = .ok (.iload 4, 2) := by decide +kernel
theorem dLw_fork_6 : decode cLw_fork 6 = .ok (.invokevirtual 21, 3) := by decide +kernel
theorem dLw_fork_9 : decode cLw_fork 9 = .ok (.goto 7, 3) := by decide +kernel
theorem dLw_fork_12 : decode cLw_fork 12 = .ok (.astore 5, 2) := by decide +kernel
theorem dLw_fork_14 : decode cLw_fork 14 = .ok (.iconst 1, 1) := by decide +kernel
theorem dLw_fork_15 : decode cLw_fork 15 = .ok (.ireturn, 1) := by decide +kernel
theorem dLw_fork_16 : decode cLw_fork 16 = .ok (.iconst 0, 1) := by decide +kernel
theorem dLw_fork_17 : decode cLw_fork 17 = .ok (.ireturn, 1) := by decide +kernel
theorem dLw_stop_0 : decode cLw_stop 0 = .ok (.aload_n 0, 1) := by decide +kernel
theorem dLw_stop_1 : decode cLw_stop 1 = .ok (.iload_n 1, 1) := by decide +kernel
theorem dLw_stop_2 : decode cLw_stop 2 = .ok (.invokevirtual 25, 3) := by decide +kernel
theorem dLw_stop_5 : decode cLw_stop 5 = .ok (.goto 6, 3) := by decide +kernel
theorem dLw_stop_8 : decode cLw_stop 8 = .ok (.astore_n 2, 1) := by decide +kernel
theorem dLw_stop_9 : decode cLw_stop 9 = .ok (.iconst 1, 1) := by decide +kernel
theorem dLw_stop_10 : decode cLw_stop 10 = .ok (.ireturn, 1) := by decide +kernel
theorem dLw_stop_11 : decode cLw_stop 11 = .ok (.iconst 0, 1) := by decide +kernel
theorem dLw_stop_12 : decode cLw_stop 12 = .ok (.ireturn, 1) := by decide +kernel
theorem dLw_start_0 : decode cLw_start 0 = .ok (.aload_n 0, 1) := by decide +kernel
theorem dLw_start_1 : decode cLw_start 1 = .ok (.iload_n 1, 1) := by decide +kernel
theorem dLw_start_2 : decode cLw_start 2 = .ok (.iload_n 2, 1) := by decide +kernel
theorem dLw_start_3 : decode cLw_start 3 = .ok (.invokevirtual 29, 3) := by decide +kernel
theorem dLw_start_6 : decode cLw_start 6 = .ok (.goto 6, 3) := by decide +kernel
theorem dLw_start_9 : decode cLw_start 9 = .ok (.astore_n 3, 1) := by decide +kernel
theorem dLw_start_10 : decode cLw_start 10 = .ok (.iconst 1, 1) := by decide +kernel
theorem dLw_start_11 : decode cLw_start 11 = .ok (.ireturn, 1) := by decide +kernel
theorem dLw_start_12 : decode cLw_start 12 = .ok (.iconst 0, 1) := by decide +kernel
theorem dLw_start_13 : decode cLw_start 13 = .ok (.ireturn, 1) := by decide +kernel
theorem dLw_propagate_0 : decode cLw_propagate 0 = .ok (.aload_n 1, 1) := by decide +kernel
theorem dLw_propagate_1 : decode cLw_propagate 1 = .ok (.iconst 0, 1) := by decide +kernel
theorem dLw_propagate_2 : decode cLw_propagate 2 = .ok (.aload_n 0, 1) := by decide +kernel
theorem dLw_propagate_3 : decode cLw_propagate 3 = .ok (.invokevirtual 32, 3) := by decide +kernel
theorem dLw_propagate_6 : decode cLw_propagate 6 = .ok (.i2l, 1) := by decide +kernel
theorem dLw_propagate_7 : decode cLw_propagate 7 = .ok (.lastore, 1) := by decide +kernel
theorem dLw_propagate_8 : decode cLw_propagate 8 = .ok (.goto 9, 3) := by decide +kernel
theorem dLw_propagate_11 : decode cLw_propagate 11 = .ok (.astore_n 2, 1) := by decide +kernel
theorem dLw_propagate_12 : decode cLw_propagate 12 = .ok (.iconst 1, 1) := by decide +kernel
theorem dLw_propagate_13 : decode cLw_propagate 13 = .ok (.ireturn, 1) := by decide +kernel
theorem dLw_propagate_14 : decode cLw_propagate 14 = .ok (.astore_n 2, 1) := by decide +kernel
theorem dLw_propagate_15 : decode cLw_propagate 15 = .ok (.iconst 2, 1) := by decide +kernel
theorem dLw_propagate_16 : decode cLw_propagate 16 = .ok (.ireturn, 1) := by decide +kernel
theorem dLw_propagate_17 : decode cLw_propagate 17 = .ok (.iconst 0, 1) := by decide +kernel
theorem dLw_propagate_18 : decode cLw_propagate 18 = .ok (.ireturn, 1) := by decide +kernel
theorem dLw_parent_0 : decode cLw_parent 0 = .ok (.aload_n 2, 1) := by decide +kernel
theorem dLw_parent_1 : decode cLw_parent 1 = .ok (.iconst 0, 1) := by decide +kernel
theorem dLw_parent_2 : decode cLw_parent 2 = .ok (.aload_n 0, 1) := by decide +kernel
theorem dLw_parent_3 : decode cLw_parent 3 = .ok (.iload_n 1, 1) := by decide +kernel
theorem dLw_parent_4 : decode cLw_parent 4 = .ok (.invokevirtual 38, 3) := by decide +kernel
theorem dLw_parent_7 : decode cLw_parent 7 = .ok (.i2l, 1) := by decide +kernel
theorem dLw_parent_8 : decode cLw_parent 8 = .ok (.lastore, 1) := by decide +kernel
theorem dLw_parent_9 : decode cLw_parent 9 = .ok (.goto 6, 3) := by decide +kernel
theorem dLw_parent_12 : decode cLw_parent 12 = .ok (.astore_n 3, 1) := by decide +kernel
theorem dLw_parent_13 : decode cLw_parent 13 = .ok (.iconst 1, 1) := by decide +kernel
theorem dLw_parent_14 : decode cLw_parent 14 = .ok (.ireturn, 1) := by decide +kernel
theorem dLw_parent_15 : decode cLw_parent 15 = .ok (.iconst 0, 1) := by decide +kernel
theorem dLw_parent_16 : decode cLw_parent 16 = .ok (.ireturn, 1) := by decide +kernel
theorem dLw_dominates_0 : decode cLw_dominates 0 = .ok (.aload_n 3, 1) := by decide +kernel
theorem dLw_dominates_1 : decode cLw_dominates 1 = .ok (.iconst 0, 1) := by decide +kernel
theorem dLw_dominates_2 : decode cLw_dominates 2 = .ok (.aload_n 0, 1) := by decide +kernel
theorem dLw_dominates_3 : decode cLw_dominates 3 = .ok (.iload_n 1, 1) := by decide +kernel
theorem dLw_dominates_4 : decode cLw_dominates 4 = .ok (.iload_n 2, 1) := by decide +kernel
theorem dLw_dominates_5 : decode cLw_dominates 5 = .ok (.invokevirtual 42, 3) := by decide +kernel
theorem dLw_dominates_8 : decode cLw_dominates 8 = .ok (.ifCond .eq 7, 3) := by decide +kernel
theorem dLw_dominates_11 : decode cLw_dominates 11 = .ok (.lconst 1, 1) := by decide +kernel
theorem dLw_dominates_12 : decode cLw_dominates 12 = .ok (.goto 4, 3) := by decide +kernel
theorem dLw_dominates_15 : decode cLw_dominates 15 = .ok (.lconst 0, 1) := by decide +kernel
theorem dLw_dominates_16 : decode cLw_dominates 16 = .ok (.lastore, 1) := by decide +kernel
theorem dLw_dominates_17 : decode cLw_dominates 17 = .ok (.goto 7, 3) := by decide +kernel
theorem dLw_dominates_20 : decode cLw_dominates 20 = .ok (.astore 4, 2) := by decide +kernel
theorem dLw_dominates_22 : decode cLw_dominates 22 = .ok (.iconst 1, 1) := by decide +kernel
theorem dLw_dominates_23 : decode cLw_dominates 23 = .ok (.ireturn, 1) := by decide +kernel
theorem dLw_dominates_24 : decode cLw_dominates 24 = .ok (.iconst 0, 1) := by decide +kernel
theorem dLw_dominates_25 : decode cLw_dominates 25 = .ok (.ireturn, 1) := by decide +kernel
theorem dLw_frontier_0 : decode cLw_frontier 0 = .ok (.aload_n 3, 1) := by decide +kernel
theorem dLw_frontier_1 : decode cLw_frontier 1 = .ok (.iconst 0, 1) := by decide +kernel
theorem dLw_frontier_2 : decode cLw_frontier 2 = .ok (.aload_n 0, 1) := by decide +kernel
theorem dLw_frontier_3 : decode cLw_frontier 3 = .ok (.iload_n 1, 1) := by decide +kernel
theorem dLw_frontier_4 : decode cLw_frontier 4 = .ok (.iload_n 2, 1) := by decide +kernel
theorem dLw_frontier_5 : decode cLw_frontier 5 = .ok (.invokevirtual 46, 3) := by decide +kernel
theorem dLw_frontier_8 : decode cLw_frontier 8 = .ok (.ifCond .eq 7, 3) := by decide +kernel
theorem dLw_frontier_11 : decode cLw_frontier 11 = .ok (.lconst 1, 1) := by decide +kernel
theorem dLw_frontier_12 : decode cLw_frontier 12 = .ok (.goto 4, 3) := by decide +kernel
theorem dLw_frontier_15 : decode cLw_frontier 15 = .ok (.lconst 0, 1) := by decide +kernel
theorem dLw_frontier_16 : decode cLw_frontier 16 = .ok (.lastore, 1) := by decide +kernel
theorem dLw_frontier_17 : decode cLw_frontier 17 = .ok (.goto 7, 3) := by decide +kernel
theorem dLw_frontier_20 : decode cLw_frontier 20 = .ok (.astore 4, 2) := by decide +kernel
theorem dLw_frontier_22 : decode cLw_frontier 22 = .ok (.iconst 1, 1) := by decide +kernel
theorem dLw_frontier_23 : decode cLw_frontier 23 = .ok (.ireturn, 1) := by decide +kernel
theorem dLw_frontier_24 : decode cLw_frontier 24 = .ok (.iconst 0, 1) := by decide +kernel
theorem dLw_frontier_25 : decode cLw_frontier 25 = .ok (.ireturn, 1) := by decide +kernel
theorem dLw_meeting_0 : decode cLw_meeting 0 = .ok (.aload_n 3, 1) := by decide +kernel
theorem dLw_meeting_1 : decode cLw_meeting 1 = .ok (.iconst 0, 1) := by decide +kernel
theorem dLw_meeting_2 : decode cLw_meeting 2 = .ok (.aload_n 0, 1) := by decide +kernel
theorem dLw_meeting_3 : decode cLw_meeting 3 = .ok (.iload_n 1, 1) := by decide +kernel
theorem dLw_meeting_4 : decode cLw_meeting 4 = .ok (.iload_n 2, 1) := by decide +kernel
theorem dLw_meeting_5 : decode cLw_meeting 5 = .ok (.invokevirtual 49, 3) := by decide +kernel
theorem dLw_meeting_8 : decode cLw_meeting 8 = .ok (.i2l, 1) := by decide +kernel
theorem dLw_meeting_9 : decode cLw_meeting 9 = .ok (.lastore, 1) := by decide +kernel
theorem dLw_meeting_10 : decode cLw_meeting 10 = .ok (.goto 11, 3) := by decide +kernel
theorem dLw_meeting_13 : decode cLw_meeting 13 = .ok (.astore 4, 2) := by decide +kernel
theorem dLw_meeting_15 : decode cLw_meeting 15 = .ok (.iconst 1, 1) := by decide +kernel
theorem dLw_meeting_16 : decode cLw_meeting 16 = .ok (.ireturn, 1) := by decide +kernel
theorem dLw_meeting_17 : decode cLw_meeting 17 = .ok (.astore 4, 2) := by decide +kernel
theorem dLw_meeting_19 : decode cLw_meeting 19 = .ok (.iconst 2, 1) := by decide +kernel
theorem dLw_meeting_20 : decode cLw_meeting 20 = .ok (.ireturn, 1) := by decide +kernel
theorem dLw_meeting_21 : decode cLw_meeting 21 = .ok (.iconst 0, 1) := by decide +kernel
theorem dLw_meeting_22 : decode cLw_meeting 22 = .ok (.ireturn, 1) := by decide +kernel
theorem dLw_source_0 : decode cLw_source 0 = .ok (.aload 4, 2) := by decide +kernel
theorem dLw_source_2 : decode cLw_source 2 = .ok (.iconst 0, 1) := by decide +kernel
theorem dLw_source_3 : decode cLw_source 3 = .ok (.aload_n 0, 1) := by decide +kernel
theorem dLw_source_4 : decode cLw_source 4 = .ok (.iload_n 1, 1) := by decide +kernel
theorem dLw_source_5 : decode cLw_source 5 = .ok (.iload_n 2, 1) := by decide +kernel
theorem dLw_source_6 : decode cLw_source 6 = .ok (.iload_n 3, 1) := by decide +kernel
theorem dLw_source_7 : decode cLw_source 7 = .ok (.invokevirtual 53, 3) := by decide +kernel
theorem dLw_source_10 : decode cLw_source 10 = .ok (.i2l, 1) := by decide +kernel
theorem dLw_source_11 : decode cLw_source 11 = .ok (.lastore, 1) := by decide +kernel
theorem dLw_source_12 : decode cLw_source 12 = .ok (.goto 11, 3) := by decide +kernel
theorem dLw_source_15 : decode cLw_source 15 = .ok (.astore 5, 2) := by decide +kernel
theorem dLw_source_17 : decode cLw_source 17 = .ok (.iconst 1, 1) := by decide +kernel
theorem dLw_source_18 : decode cLw_source 18 = .ok (.ireturn, 1) := by decide +kernel
theorem dLw_source_19 : decode cLw_source 19 = .ok (.astore 5, 2) := by decide +kernel
theorem dLw_source_21 : decode cLw_source 21 = .ok (.iconst 2, 1) := by decide +kernel
theorem dLw_source_22 : decode cLw_source 22 = .ok (.ireturn, 1) := by decide +kernel
theorem dLw_source_23 : decode cLw_source 23 = .ok (.iconst 0, 1) := by decide +kernel
theorem dLw_source_24 : decode cLw_source 24 = .ok (.ireturn, 1) := by decide +kernel
theorem dLw_sets_0 : decode cLw_sets 0 = .ok (.aload_n 3, 1) := by decide +kernel
theorem dLw_sets_1 : decode cLw_sets 1 = .ok (.iconst 0, 1) := by decide +kernel
theorem dLw_sets_2 : decode cLw_sets 2 = .ok (.aload_n 0, 1) := by decide +kernel
theorem dLw_sets_3 : decode cLw_sets 3 = .ok (.iload_n 1, 1) := by decide +kernel
theorem dLw_sets_4 : decode cLw_sets 4 = .ok (.iload_n 2, 1) := by decide +kernel
theorem dLw_sets_5 : decode cLw_sets 5 = .ok (.invokevirtual 57, 3) := by decide +kernel
theorem dLw_sets_8 : decode cLw_sets 8 = .ok (.i2l, 1) := by decide +kernel
theorem dLw_sets_9 : decode cLw_sets 9 = .ok (.lastore, 1) := by decide +kernel
theorem dLw_sets_10 : decode cLw_sets 10 = .ok (.goto 11, 3) := by decide +kernel
theorem dLw_sets_13 : decode cLw_sets 13 = .ok (.astore 4, 2) := by decide +kernel
theorem dLw_sets_15 : decode cLw_sets 15 = .ok (.iconst 1, 1) := by decide +kernel
theorem dLw_sets_16 : decode cLw_sets 16 = .ok (.ireturn, 1) := by decide +kernel
theorem dLw_sets_17 : decode cLw_sets 17 = .ok (.astore 4, 2) := by decide +kernel
theorem dLw_sets_19 : decode cLw_sets 19 = .ok (.iconst 2, 1) := by decide +kernel
theorem dLw_sets_20 : decode cLw_sets 20 = .ok (.ireturn, 1) := by decide +kernel
theorem dLw_sets_21 : decode cLw_sets 21 = .ok (.iconst 0, 1) := by decide +kernel
theorem dLw_sets_22 : decode cLw_sets 22 = .ok (.ireturn, 1) := by decide +kernel
theorem dLw_use_0 : decode cLw_use 0 = .ok (.aload 4, 2) := by decide +kernel
theorem dLw_use_2 : decode cLw_use 2 = .ok (.iconst 0, 1) := by decide +kernel
theorem dLw_use_3 : decode cLw_use 3 = .ok (.aload_n 0, 1) := by decide +kernel
theorem dLw_use_4 : decode cLw_use 4 = .ok (.iload_n 1, 1) := by decide +kernel
theorem dLw_use_5 : decode cLw_use 5 = .ok (.iload_n 2, 1) := by decide +kernel
theorem dLw_use_6 : decode cLw_use 6 = .ok (.iload_n 3, 1) := by decide +kernel
theorem dLw_use_7 : decode cLw_use 7 = .ok (.invokevirtual 60, 3) := by decide +kernel
theorem dLw_use_10 : decode cLw_use 10 = .ok (.i2l, 1) := by decide +kernel
theorem dLw_use_11 : decode cLw_use 11 = .ok (.lastore, 1) := by decide +kernel
theorem dLw_use_12 : decode cLw_use 12 = .ok (.goto 11, 3) := by decide +kernel
theorem dLw_use_15 : decode cLw_use 15 = .ok (.astore 5, 2) := by decide +kernel
theorem dLw_use_17 : decode cLw_use 17 = .ok (.iconst 1, 1) := by decide +kernel
theorem dLw_use_18 : decode cLw_use 18 = .ok (.ireturn, 1) := by decide +kernel
theorem dLw_use_19 : decode cLw_use 19 = .ok (.astore 5, 2) := by decide +kernel
theorem dLw_use_21 : decode cLw_use 21 = .ok (.iconst 2, 1) := by decide +kernel
theorem dLw_use_22 : decode cLw_use 22 = .ok (.ireturn, 1) := by decide +kernel
theorem dLw_use_23 : decode cLw_use 23 = .ok (.iconst 0, 1) := by decide +kernel
theorem dLw_use_24 : decode cLw_use 24 = .ok (.ireturn, 1) := by decide +kernel
theorem dLw_alter_0 : decode cLw_alter 0 = .ok (.aload_n 0, 1) := by decide +kernel
theorem dLw_alter_1 : decode cLw_alter 1 = .ok (.iload_n 1, 1) := by decide +kernel
theorem dLw_alter_2 : decode cLw_alter 2 = .ok (.iload_n 2, 1) := by decide +kernel
theorem dLw_alter_3 : decode cLw_alter 3 = .ok (.iload_n 3, 1) := by decide +kernel
theorem dLw_alter_4 : decode cLw_alter 4 = .ok (.iload 4, 2) := by decide +kernel
theorem dLw_alter_6 : decode cLw_alter 6 = .ok (.invokevirtual 63, 3) := by decide +kernel
theorem dLw_alter_9 : decode cLw_alter 9 = .ok (.goto 11, 3) := by decide +kernel
theorem dLw_alter_12 : decode cLw_alter 12 = .ok (.astore 5, 2) := by decide +kernel
theorem dLw_alter_14 : decode cLw_alter 14 = .ok (.iconst 1, 1) := by decide +kernel
theorem dLw_alter_15 : decode cLw_alter 15 = .ok (.ireturn, 1) := by decide +kernel
theorem dLw_alter_16 : decode cLw_alter 16 = .ok (.astore 5, 2) := by decide +kernel
theorem dLw_alter_18 : decode cLw_alter 18 = .ok (.iconst 2, 1) := by decide +kernel
theorem dLw_alter_19 : decode cLw_alter 19 = .ok (.ireturn, 1) := by decide +kernel
theorem dLw_alter_20 : decode cLw_alter 20 = .ok (.iconst 0, 1) := by decide +kernel
theorem dLw_alter_21 : decode cLw_alter 21 = .ok (.ireturn, 1) := by decide +kernel
theorem dLw_turn_0 : decode cLw_turn 0 = .ok (.aload_n 0, 1) := by decide +kernel
theorem dLw_turn_1 : decode cLw_turn 1 = .ok (.iload_n 1, 1) := by decide +kernel
theorem dLw_turn_2 : decode cLw_turn 2 = .ok (.iload_n 2, 1) := by decide +kernel
theorem dLw_turn_3 : decode cLw_turn 3 = .ok (.iload_n 3, 1) := by decide +kernel
theorem dLw_turn_4 : decode cLw_turn 4 = .ok (.iload 4, 2) := by decide +kernel
theorem dLw_turn_6 : decode cLw_turn 6 = .ok (.invokevirtual 66, 3) := by decide +kernel
theorem dLw_turn_9 : decode cLw_turn 9 = .ok (.goto 11, 3) := by decide +kernel
theorem dLw_turn_12 : decode cLw_turn 12 = .ok (.astore 5, 2) := by decide +kernel
theorem dLw_turn_14 : decode cLw_turn 14 = .ok (.iconst 1, 1) := by decide +kernel
theorem dLw_turn_15 : decode cLw_turn 15 = .ok (.ireturn, 1) := by decide +kernel
theorem dLw_turn_16 : decode cLw_turn 16 = .ok (.astore 5, 2) := by decide +kernel
theorem dLw_turn_18 : decode cLw_turn 18 = .ok (.iconst 2, 1) := by decide +kernel
theorem dLw_turn_19 : decode cLw_turn 19 = .ok (.ireturn, 1) := by decide +kernel
theorem dLw_turn_20 : decode cLw_turn 20 = .ok (.iconst 0, 1) := by decide +kernel
theorem dLw_turn_21 : decode cLw_turn 21 = .ok (.ireturn, 1) := by decide +kernel
theorem dLw_valid_0 : decode cLw_valid 0 = .ok (.aload_n 1, 1) := by decide +kernel
theorem dLw_valid_1 : decode cLw_valid 1 = .ok (.iconst 0, 1) := by decide +kernel
theorem dLw_valid_2 : decode cLw_valid 2 = .ok (.aload_n 0, 1) := by decide +kernel
theorem dLw_valid_3 : decode cLw_valid 3 = .ok (.invokevirtual 69, 3) := by decide +kernel
theorem dLw_valid_6 : decode cLw_valid 6 = .ok (.ifCond .eq 7, 3) := by decide +kernel
theorem dLw_valid_9 : decode cLw_valid 9 = .ok (.lconst 1, 1) := by decide +kernel
theorem dLw_valid_10 : decode cLw_valid 10 = .ok (.goto 4, 3) := by decide +kernel
theorem dLw_valid_13 : decode cLw_valid 13 = .ok (.lconst 0, 1) := by decide +kernel
theorem dLw_valid_14 : decode cLw_valid 14 = .ok (.lastore, 1) := by decide +kernel
theorem dLw_valid_15 : decode cLw_valid 15 = .ok (.goto 6, 3) := by decide +kernel
theorem dLw_valid_18 : decode cLw_valid 18 = .ok (.astore_n 2, 1) := by decide +kernel
theorem dLw_valid_19 : decode cLw_valid 19 = .ok (.iconst 1, 1) := by decide +kernel
theorem dLw_valid_20 : decode cLw_valid 20 = .ok (.ireturn, 1) := by decide +kernel
theorem dLw_valid_21 : decode cLw_valid 21 = .ok (.iconst 0, 1) := by decide +kernel
theorem dLw_valid_22 : decode cLw_valid 22 = .ok (.ireturn, 1) := by decide +kernel
theorem dLw_copies_0 : decode cLw_copies 0 = .ok (.aload_n 3, 1) := by decide +kernel
theorem dLw_copies_1 : decode cLw_copies 1 = .ok (.iconst 0, 1) := by decide +kernel
theorem dLw_copies_2 : decode cLw_copies 2 = .ok (.aload_n 0, 1) := by decide +kernel
theorem dLw_copies_3 : decode cLw_copies 3 = .ok (.iload_n 1, 1) := by decide +kernel
theorem dLw_copies_4 : decode cLw_copies 4 = .ok (.iload_n 2, 1) := by decide +kernel
theorem dLw_copies_5 : decode cLw_copies 5 = .ok (.invokevirtual 73, 3) := by decide +kernel
theorem dLw_copies_8 : decode cLw_copies 8 = .ok (.i2l, 1) := by decide +kernel
theorem dLw_copies_9 : decode cLw_copies 9 = .ok (.lastore, 1) := by decide +kernel
theorem dLw_copies_10 : decode cLw_copies 10 = .ok (.goto 11, 3) := by decide +kernel
theorem dLw_copies_13 : decode cLw_copies 13 = .ok (.astore 4, 2) := by decide +kernel
theorem dLw_copies_15 : decode cLw_copies 15 = .ok (.iconst 1, 1) := by decide +kernel
theorem dLw_copies_16 : decode cLw_copies 16 = .ok (.ireturn, 1) := by decide +kernel
theorem dLw_copies_17 : decode cLw_copies 17 = .ok (.astore 4, 2) := by decide +kernel
theorem dLw_copies_19 : decode cLw_copies 19 = .ok (.iconst 2, 1) := by decide +kernel
theorem dLw_copies_20 : decode cLw_copies 20 = .ok (.ireturn, 1) := by decide +kernel
theorem dLw_copies_21 : decode cLw_copies 21 = .ok (.iconst 0, 1) := by decide +kernel
theorem dLw_copies_22 : decode cLw_copies 22 = .ok (.ireturn, 1) := by decide +kernel
theorem dLw_run_0 : decode cLw_run 0 = .ok (.aload_n 2, 1) := by decide +kernel
theorem dLw_run_1 : decode cLw_run 1 = .ok (.iconst 0, 1) := by decide +kernel
theorem dLw_run_2 : decode cLw_run 2 = .ok (.aload_n 0, 1) := by decide +kernel
theorem dLw_run_3 : decode cLw_run 3 = .ok (.iload_n 1, 1) := by decide +kernel
theorem dLw_run_4 : decode cLw_run 4 = .ok (.invokevirtual 76, 3) := by decide +kernel
theorem dLw_run_7 : decode cLw_run 7 = .ok (.i2l, 1) := by decide +kernel
theorem dLw_run_8 : decode cLw_run 8 = .ok (.lastore, 1) := by decide +kernel
theorem dLw_run_9 : decode cLw_run 9 = .ok (.goto 15, 3) := by decide +kernel
theorem dLw_run_12 : decode cLw_run 12 = .ok (.astore_n 3, 1) := by decide +kernel
theorem dLw_run_13 : decode cLw_run 13 = .ok (.iconst 1, 1) := by decide +kernel
theorem dLw_run_14 : decode cLw_run 14 = .ok (.ireturn, 1) := by decide +kernel
theorem dLw_run_15 : decode cLw_run 15 = .ok (.astore_n 3, 1) := by decide +kernel
theorem dLw_run_16 : decode cLw_run 16 = .ok (.iconst 2, 1) := by decide +kernel
theorem dLw_run_17 : decode cLw_run 17 = .ok (.ireturn, 1) := by decide +kernel
theorem dLw_run_18 : decode cLw_run 18 = .ok (.astore_n 3, 1) := by decide +kernel
theorem dLw_run_19 : decode cLw_run 19 = .ok (.iconst 3, 1) := by decide +kernel
theorem dLw_run_20 : decode cLw_run 20 = .ok (.ireturn, 1) := by decide +kernel
theorem dLw_run_21 : decode cLw_run 21 = .ok (.astore_n 3, 1) := by decide +kernel
theorem dLw_run_22 : decode cLw_run 22 = .ok (.iconst 4, 1) := by decide +kernel
theorem dLw_run_23 : decode cLw_run 23 = .ok (.ireturn, 1) := by decide +kernel
theorem dLw_run_24 : decode cLw_run 24 = .ok (.iconst 0, 1) := by decide +kernel
theorem dLw_run_25 : decode cLw_run 25 = .ok (.ireturn, 1) := by decide +kernel
theorem dLw_said_0 : decode cLw_said 0 = .ok (.aload_n 2, 1) := by decide +kernel
theorem dLw_said_1 : decode cLw_said 1 = .ok (.iconst 0, 1) := by decide +kernel
theorem dLw_said_2 : decode cLw_said 2 = .ok (.aload_n 0, 1) := by decide +kernel
theorem dLw_said_3 : decode cLw_said 3 = .ok (.iload_n 1, 1) := by decide +kernel
theorem dLw_said_4 : decode cLw_said 4 = .ok (.invokevirtual 81, 3) := by decide +kernel
theorem dLw_said_7 : decode cLw_said 7 = .ok (.i2l, 1) := by decide +kernel
theorem dLw_said_8 : decode cLw_said 8 = .ok (.lastore, 1) := by decide +kernel
theorem dLw_said_9 : decode cLw_said 9 = .ok (.goto 6, 3) := by decide +kernel
theorem dLw_said_12 : decode cLw_said 12 = .ok (.astore_n 3, 1) := by decide +kernel
theorem dLw_said_13 : decode cLw_said 13 = .ok (.iconst 1, 1) := by decide +kernel
theorem dLw_said_14 : decode cLw_said 14 = .ok (.ireturn, 1) := by decide +kernel
theorem dLw_said_15 : decode cLw_said 15 = .ok (.iconst 0, 1) := by decide +kernel
theorem dLw_said_16 : decode cLw_said 16 = .ok (.ireturn, 1) := by decide +kernel
theorem dLw_same_0 : decode cLw_same 0 = .ok (.aload_n 2, 1) := by decide +kernel
theorem dLw_same_1 : decode cLw_same 1 = .ok (.iconst 0, 1) := by decide +kernel
theorem dLw_same_2 : decode cLw_same 2 = .ok (.aload_n 0, 1) := by decide +kernel
theorem dLw_same_3 : decode cLw_same 3 = .ok (.iload_n 1, 1) := by decide +kernel
theorem dLw_same_4 : decode cLw_same 4 = .ok (.invokevirtual 86, 3) := by decide +kernel
theorem dLw_same_7 : decode cLw_same 7 = .ok (.ifCond .eq 7, 3) := by decide +kernel
theorem dLw_same_10 : decode cLw_same 10 = .ok (.lconst 1, 1) := by decide +kernel
theorem dLw_same_11 : decode cLw_same 11 = .ok (.goto 4, 3) := by decide +kernel
theorem dLw_same_14 : decode cLw_same 14 = .ok (.lconst 0, 1) := by decide +kernel
theorem dLw_same_15 : decode cLw_same 15 = .ok (.lastore, 1) := by decide +kernel
theorem dLw_same_16 : decode cLw_same 16 = .ok (.goto 9, 3) := by decide +kernel
theorem dLw_same_19 : decode cLw_same 19 = .ok (.astore_n 3, 1) := by decide +kernel
theorem dLw_same_20 : decode cLw_same 20 = .ok (.iconst 1, 1) := by decide +kernel
theorem dLw_same_21 : decode cLw_same 21 = .ok (.ireturn, 1) := by decide +kernel
theorem dLw_same_22 : decode cLw_same 22 = .ok (.astore_n 3, 1) := by decide +kernel
theorem dLw_same_23 : decode cLw_same 23 = .ok (.iconst 2, 1) := by decide +kernel
theorem dLw_same_24 : decode cLw_same 24 = .ok (.ireturn, 1) := by decide +kernel
theorem dLw_same_25 : decode cLw_same 25 = .ok (.iconst 0, 1) := by decide +kernel
theorem dLw_same_26 : decode cLw_same 26 = .ok (.ireturn, 1) := by decide +kernel
