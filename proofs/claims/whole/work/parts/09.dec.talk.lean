theorem dTalk_begin_0 : decode cTalk_begin 0 = .ok (.aload_n 0, 1) := by decide +kernel
theorem dTalk_begin_1 : decode cTalk_begin 1 = .ok (.iconst 0, 1) := by decide +kernel
theorem dTalk_begin_2 : decode cTalk_begin 2 = .ok (.putfield 13, 3) := by decide +kernel
theorem dTalk_begin_5 : decode cTalk_begin 5 = .ok (.aload_n 0, 1) := by decide +kernel
theorem dTalk_begin_6 : decode cTalk_begin 6 = .ok (.iconst 0, 1) := by decide +kernel
theorem dTalk_begin_7 : decode cTalk_begin 7 = .ok (.putfield 17, 3) := by decide +kernel
theorem dTalk_begin_10 : decode cTalk_begin 10 = .ok (.return_, 1) := by decide +kernel
theorem dTalk_say_0 : decode cTalk_say 0 = .ok (.aload_n 0, 1) := by decide +kernel
theorem dTalk_say_1 : decode cTalk_say 1 = .ok (.getfield 13, 3) := by decide +kernel
theorem dTalk_say_4 : decode cTalk_say 4 = .ok (.bipush 50, 2) := by decide +kernel
theorem dTalk_say_6 : decode cTalk_say 6 = .ok (.if_icmp .lt 9, 3) := by decide +kernel
theorem dTalk_say_9 : decode cTalk_say 9 = .ok (.aload_n 0, 1) := by decide +kernel
theorem dTalk_say_10 : decode cTalk_say 10 = .ok (.iconst 2, 1) := by decide +kernel
theorem dTalk_say_11 : decode cTalk_say 11 = .ok (.putfield 17, 3) := by decide +kernel
theorem dTalk_say_14 : decode cTalk_say 14 = .ok (.return_, 1) := by decide +kernel
theorem dTalk_say_15 : decode cTalk_say 15 = .ok (.aload_n 0, 1) := by decide +kernel
theorem dTalk_say_16 : decode cTalk_say 16 = .ok (.getfield 9, 3) := by decide +kernel
theorem dTalk_say_19 : decode cTalk_say 19 = .ok (.aload_n 0, 1) := by decide +kernel
theorem dTalk_say_20 : decode cTalk_say 20 = .ok (.getfield 13, 3) := by decide +kernel
theorem dTalk_say_23 : decode cTalk_say 23 = .ok (.iload_n 1, 1) := by decide +kernel
theorem dTalk_say_24 : decode cTalk_say 24 = .ok (.iastore, 1) := by decide +kernel
theorem dTalk_say_25 : decode cTalk_say 25 = .ok (.aload_n 0, 1) := by decide +kernel
theorem dTalk_say_26 : decode cTalk_say 26 = .ok (.dup, 1) := by decide +kernel
theorem dTalk_say_27 : decode cTalk_say 27 = .ok (.getfield 13, 3) := by decide +kernel
theorem dTalk_say_30 : decode cTalk_say 30 = .ok (.iconst 1, 1) := by decide +kernel
theorem dTalk_say_31 : decode cTalk_say 31 = .ok (.iadd, 1) := by decide +kernel
theorem dTalk_say_32 : decode cTalk_say 32 = .ok (.putfield 13, 3) := by decide +kernel
theorem dTalk_say_35 : decode cTalk_say 35 = .ok (.return_, 1) := by decide +kernel
theorem dTalk_fail_0 : decode cTalk_fail 0 = .ok (.aload_n 0, 1) := by decide +kernel
theorem dTalk_fail_1 : decode cTalk_fail 1 = .ok (.iload_n 1, 1) := by decide +kernel
theorem dTalk_fail_2 : decode cTalk_fail 2 = .ok (.putfield 17, 3) := by decide +kernel
theorem dTalk_fail_5 : decode cTalk_fail 5 = .ok (.return_, 1) := by decide +kernel
theorem dTalk_outcome_0 : decode cTalk_outcome 0 = .ok (.aload_n 0, 1) := by decide +kernel
theorem dTalk_outcome_1 : decode cTalk_outcome 1 = .ok (.getfield 17, 3) := by decide +kernel
theorem dTalk_outcome_4 : decode cTalk_outcome 4 = .ok (.ireturn, 1) := by decide +kernel
theorem dTalk_size_0 : decode cTalk_size 0 = .ok (.aload_n 0, 1) := by decide +kernel
theorem dTalk_size_1 : decode cTalk_size 1 = .ok (.getfield 13, 3) := by decide +kernel
theorem dTalk_size_4 : decode cTalk_size 4 = .ok (.ireturn, 1) := by decide +kernel
theorem dTalk_number_0 : decode cTalk_number 0 = .ok (.aload_n 0, 1) := by decide +kernel
theorem dTalk_number_1 : decode cTalk_number 1 = .ok (.getfield 9, 3) := by decide +kernel
theorem dTalk_number_4 : decode cTalk_number 4 = .ok (.iload_n 1, 1) := by decide +kernel
theorem dTalk_number_5 : decode cTalk_number 5 = .ok (.iaload, 1) := by decide +kernel
theorem dTalk_number_6 : decode cTalk_number 6 = .ok (.ireturn, 1) := by decide +kernel
theorem dTalk_isLike_0 : decode cTalk_isLike 0 = .ok (.aload_n 0, 1) := by decide +kernel
theorem dTalk_isLike_1 : decode cTalk_isLike 1 = .ok (.getfield 17, 3) := by decide +kernel
theorem dTalk_isLike_4 : decode cTalk_isLike 4 = .ok (.aload_n 1, 1) := by decide +kernel
theorem dTalk_isLike_5 : decode cTalk_isLike 5 = .ok (.getfield 17, 3) := by decide +kernel
theorem dTalk_isLike_8 : decode cTalk_isLike 8 = .ok (.if_icmp .ne 14, 3) := by decide +kernel
theorem dTalk_isLike_11 : decode cTalk_isLike 11 = .ok (.aload_n 0, 1) := by decide +kernel
theorem dTalk_isLike_12 : decode cTalk_isLike 12 = .ok (.getfield 13, 3) := by decide +kernel
theorem dTalk_isLike_15 : decode cTalk_isLike 15 = .ok (.aload_n 1, 1) := by decide +kernel
theorem dTalk_isLike_16 : decode cTalk_isLike 16 = .ok (.getfield 13, 3) := by decide +kernel
theorem dTalk_isLike_19 : decode cTalk_isLike 19 = .ok (.if_icmp .eq 5, 3) := by decide +kernel
theorem dTalk_isLike_22 : decode cTalk_isLike 22 = .ok (.iconst 0, 1) := by decide +kernel
theorem dTalk_isLike_23 : decode cTalk_isLike 23 = .ok (.ireturn, 1) := by decide +kernel
theorem dTalk_isLike_24 : decode cTalk_isLike 24 = .ok (.iconst 0, 1) := by decide +kernel
theorem dTalk_isLike_25 : decode cTalk_isLike 25 = .ok (.istore_n 2, 1) := by decide +kernel
theorem dTalk_isLike_26 : decode cTalk_isLike 26 = .ok (.iload_n 2, 1) := by decide +kernel
theorem dTalk_isLike_27 : decode cTalk_isLike 27 = .ok (.aload_n 0, 1) := by decide +kernel
theorem dTalk_isLike_28 : decode cTalk_isLike 28 = .ok (.getfield 13, 3) := by decide +kernel
theorem dTalk_isLike_31 : decode cTalk_isLike 31 = .ok (.if_icmp .ge 26, 3) := by decide +kernel
theorem dTalk_isLike_34 : decode cTalk_isLike 34 = .ok (.aload_n 0, 1) := by decide +kernel
theorem dTalk_isLike_35 : decode cTalk_isLike 35 = .ok (.getfield 9, 3) := by decide +kernel
theorem dTalk_isLike_38 : decode cTalk_isLike 38 = .ok (.iload_n 2, 1) := by decide +kernel
theorem dTalk_isLike_39 : decode cTalk_isLike 39 = .ok (.iaload, 1) := by decide +kernel
theorem dTalk_isLike_40 : decode cTalk_isLike 40 = .ok (.aload_n 1, 1) := by decide +kernel
theorem dTalk_isLike_41 : decode cTalk_isLike 41 = .ok (.getfield 9, 3) := by decide +kernel
theorem dTalk_isLike_44 : decode cTalk_isLike 44 = .ok (.iload_n 2, 1) := by decide +kernel
theorem dTalk_isLike_45 : decode cTalk_isLike 45 = .ok (.iaload, 1) := by decide +kernel
theorem dTalk_isLike_46 : decode cTalk_isLike 46 = .ok (.if_icmp .eq 5, 3) := by decide +kernel
theorem dTalk_isLike_49 : decode cTalk_isLike 49 = .ok (.iconst 0, 1) := by decide +kernel
theorem dTalk_isLike_50 : decode cTalk_isLike 50 = .ok (.ireturn, 1) := by decide +kernel
theorem dTalk_isLike_51 : decode cTalk_isLike 51 = .ok (.iinc 2 1, 3) := by decide +kernel
theorem dTalk_isLike_54 : decode cTalk_isLike 54 = .ok (.goto (-28), 3) := by decide +kernel
theorem dTalk_isLike_57 : decode cTalk_isLike 57 = .ok (.iconst 1, 1) := by decide +kernel
theorem dTalk_isLike_58 : decode cTalk_isLike 58 = .ok (.ireturn, 1) := by decide +kernel
