theorem dCopyPlan_draw_0 : decode cCopyPlan_draw 0 = .ok (.aload_n 0, 1) := by decide +kernel
theorem dCopyPlan_draw_1 : decode cCopyPlan_draw 1 = .ok (.aload_n 1, 1) := by decide +kernel
theorem dCopyPlan_draw_2 : decode cCopyPlan_draw 2 = .ok (.iload_n 2, 1) := by decide +kernel
theorem dCopyPlan_draw_3 : decode cCopyPlan_draw 3 = .ok (.iload_n 3, 1) := by decide +kernel
theorem dCopyPlan_draw_4 : decode cCopyPlan_draw 4 = .ok (.invokevirtual 26, 3) := by decide +kernel
theorem dCopyPlan_draw_7 : decode cCopyPlan_draw 7 = .ok (.aload_n 0, 1) := by decide +kernel
theorem dCopyPlan_draw_8 : decode cCopyPlan_draw 8 = .ok (.iconst 0, 1) := by decide +kernel
theorem dCopyPlan_draw_9 : decode cCopyPlan_draw 9 = .ok (.putfield 30, 3) := by decide +kernel
theorem dCopyPlan_draw_12 : decode cCopyPlan_draw 12 = .ok (.iconst 0, 1) := by decide +kernel
theorem dCopyPlan_draw_13 : decode cCopyPlan_draw 13 = .ok (.istore 4, 2) := by decide +kernel
theorem dCopyPlan_draw_15 : decode cCopyPlan_draw 15 = .ok (.iload 4, 2) := by decide +kernel
theorem dCopyPlan_draw_17 : decode cCopyPlan_draw 17 = .ok (.bipush 9, 2) := by decide +kernel
theorem dCopyPlan_draw_19 : decode cCopyPlan_draw 19 = .ok (.if_icmp .ge 72, 3) := by decide +kernel
theorem dCopyPlan_draw_22 : decode cCopyPlan_draw 22 = .ok (.aload_n 0, 1) := by decide +kernel
theorem dCopyPlan_draw_23 : decode cCopyPlan_draw 23 = .ok (.getfield 34, 3) := by decide +kernel
theorem dCopyPlan_draw_26 : decode cCopyPlan_draw 26 = .ok (.ifCond .le 65, 3) := by decide +kernel
theorem dCopyPlan_draw_29 : decode cCopyPlan_draw 29 = .ok (.aload_n 0, 1) := by decide +kernel
theorem dCopyPlan_draw_30 : decode cCopyPlan_draw 30 = .ok (.invokevirtual 37, 3) := by decide +kernel
theorem dCopyPlan_draw_33 : decode cCopyPlan_draw 33 = .ok (.istore 5, 2) := by decide +kernel
theorem dCopyPlan_draw_35 : decode cCopyPlan_draw 35 = .ok (.iload 5, 2) := by decide +kernel
theorem dCopyPlan_draw_37 : decode cCopyPlan_draw 37 = .ok (.iconst (-1), 1) := by decide +kernel
theorem dCopyPlan_draw_38 : decode cCopyPlan_draw 38 = .ok (.if_icmp .ne 19, 3) := by decide +kernel
theorem dCopyPlan_draw_41 : decode cCopyPlan_draw 41 = .ok (.aload_n 0, 1) := by decide +kernel
theorem dCopyPlan_draw_42 : decode cCopyPlan_draw 42 = .ok (.sipush 600, 3) := by decide +kernel
theorem dCopyPlan_draw_45 : decode cCopyPlan_draw 45 = .ok (.aload_n 0, 1) := by decide +kernel
theorem dCopyPlan_draw_46 : decode cCopyPlan_draw 46 = .ok (.getfield 11, 3) := by decide +kernel
theorem dCopyPlan_draw_49 : decode cCopyPlan_draw 49 = .ok (.iconst 0, 1) := by decide +kernel
theorem dCopyPlan_draw_50 : decode cCopyPlan_draw 50 = .ok (.iaload, 1) := by decide +kernel
theorem dCopyPlan_draw_51 : decode cCopyPlan_draw 51 = .ok (.invokevirtual 41, 3) := by decide +kernel
theorem dCopyPlan_draw_54 : decode cCopyPlan_draw 54 = .ok (.goto 27, 3) := by decide +kernel
theorem dCopyPlan_draw_57 : decode cCopyPlan_draw 57 = .ok (.aload_n 0, 1) := by decide +kernel
theorem dCopyPlan_draw_58 : decode cCopyPlan_draw 58 = .ok (.aload_n 0, 1) := by decide +kernel
theorem dCopyPlan_draw_59 : decode cCopyPlan_draw 59 = .ok (.getfield 11, 3) := by decide +kernel
theorem dCopyPlan_draw_62 : decode cCopyPlan_draw 62 = .ok (.iload 5, 2) := by decide +kernel
theorem dCopyPlan_draw_64 : decode cCopyPlan_draw 64 = .ok (.iaload, 1) := by decide +kernel
theorem dCopyPlan_draw_65 : decode cCopyPlan_draw 65 = .ok (.aload_n 0, 1) := by decide +kernel
theorem dCopyPlan_draw_66 : decode cCopyPlan_draw 66 = .ok (.getfield 17, 3) := by decide +kernel
theorem dCopyPlan_draw_69 : decode cCopyPlan_draw 69 = .ok (.iload 5, 2) := by decide +kernel
theorem dCopyPlan_draw_71 : decode cCopyPlan_draw 71 = .ok (.iaload, 1) := by decide +kernel
theorem dCopyPlan_draw_72 : decode cCopyPlan_draw 72 = .ok (.invokevirtual 41, 3) := by decide +kernel
theorem dCopyPlan_draw_75 : decode cCopyPlan_draw 75 = .ok (.aload_n 0, 1) := by decide +kernel
theorem dCopyPlan_draw_76 : decode cCopyPlan_draw 76 = .ok (.iload 5, 2) := by decide +kernel
theorem dCopyPlan_draw_78 : decode cCopyPlan_draw 78 = .ok (.invokevirtual 45, 3) := by decide +kernel
theorem dCopyPlan_draw_81 : decode cCopyPlan_draw 81 = .ok (.aload_n 0, 1) := by decide +kernel
theorem dCopyPlan_draw_82 : decode cCopyPlan_draw 82 = .ok (.invokevirtual 49, 3) := by decide +kernel
theorem dCopyPlan_draw_85 : decode cCopyPlan_draw 85 = .ok (.iinc 4 1, 3) := by decide +kernel
theorem dCopyPlan_draw_88 : decode cCopyPlan_draw 88 = .ok (.goto (-73), 3) := by decide +kernel
theorem dCopyPlan_draw_91 : decode cCopyPlan_draw 91 = .ok (.return_, 1) := by decide +kernel
theorem dCopyPlan_length_0 : decode cCopyPlan_length 0 = .ok (.aload_n 0, 1) := by decide +kernel
theorem dCopyPlan_length_1 : decode cCopyPlan_length 1 = .ok (.getfield 30, 3) := by decide +kernel
theorem dCopyPlan_length_4 : decode cCopyPlan_length 4 = .ok (.ireturn, 1) := by decide +kernel
theorem dCopyPlan_to_0 : decode cCopyPlan_to 0 = .ok (.aload_n 0, 1) := by decide +kernel
theorem dCopyPlan_to_1 : decode cCopyPlan_to 1 = .ok (.getfield 20, 3) := by decide +kernel
theorem dCopyPlan_to_4 : decode cCopyPlan_to 4 = .ok (.iload_n 1, 1) := by decide +kernel
theorem dCopyPlan_to_5 : decode cCopyPlan_to 5 = .ok (.iaload, 1) := by decide +kernel
theorem dCopyPlan_to_6 : decode cCopyPlan_to 6 = .ok (.ireturn, 1) := by decide +kernel
theorem dCopyPlan_from_0 : decode cCopyPlan_from 0 = .ok (.aload_n 0, 1) := by decide +kernel
theorem dCopyPlan_from_1 : decode cCopyPlan_from 1 = .ok (.getfield 23, 3) := by decide +kernel
theorem dCopyPlan_from_4 : decode cCopyPlan_from 4 = .ok (.iload_n 1, 1) := by decide +kernel
theorem dCopyPlan_from_5 : decode cCopyPlan_from 5 = .ok (.iaload, 1) := by decide +kernel
theorem dCopyPlan_from_6 : decode cCopyPlan_from 6 = .ok (.ireturn, 1) := by decide +kernel
theorem dCopyPlan_collect_0 : decode cCopyPlan_collect 0 = .ok (.aload_n 0, 1) := by decide +kernel
theorem dCopyPlan_collect_1 : decode cCopyPlan_collect 1 = .ok (.iconst 0, 1) := by decide +kernel
theorem dCopyPlan_collect_2 : decode cCopyPlan_collect 2 = .ok (.putfield 34, 3) := by decide +kernel
theorem dCopyPlan_collect_5 : decode cCopyPlan_collect 5 = .ok (.iconst 0, 1) := by decide +kernel
theorem dCopyPlan_collect_6 : decode cCopyPlan_collect 6 = .ok (.istore 4, 2) := by decide +kernel
theorem dCopyPlan_collect_8 : decode cCopyPlan_collect 8 = .ok (.iload 4, 2) := by decide +kernel
theorem dCopyPlan_collect_10 : decode cCopyPlan_collect 10 = .ok (.bipush 6, 2) := by decide +kernel
theorem dCopyPlan_collect_12 : decode cCopyPlan_collect 12 = .ok (.if_icmp .ge 73, 3) := by decide +kernel
theorem dCopyPlan_collect_15 : decode cCopyPlan_collect 15 = .ok (.aload_n 1, 1) := by decide +kernel
theorem dCopyPlan_collect_16 : decode cCopyPlan_collect 16 = .ok (.iload_n 2, 1) := by decide +kernel
theorem dCopyPlan_collect_17 : decode cCopyPlan_collect 17 = .ok (.iload 4, 2) := by decide +kernel
theorem dCopyPlan_collect_19 : decode cCopyPlan_collect 19 = .ok (.iload_n 3, 1) := by decide +kernel
theorem dCopyPlan_collect_20 : decode cCopyPlan_collect 20 = .ok (.invokevirtual 52, 3) := by decide +kernel
theorem dCopyPlan_collect_23 : decode cCopyPlan_collect 23 = .ok (.istore 5, 2) := by decide +kernel
theorem dCopyPlan_collect_25 : decode cCopyPlan_collect 25 = .ok (.aload_n 1, 1) := by decide +kernel
theorem dCopyPlan_collect_26 : decode cCopyPlan_collect 26 = .ok (.iload_n 2, 1) := by decide +kernel
theorem dCopyPlan_collect_27 : decode cCopyPlan_collect 27 = .ok (.iload 4, 2) := by decide +kernel
theorem dCopyPlan_collect_29 : decode cCopyPlan_collect 29 = .ok (.invokevirtual 56, 3) := by decide +kernel
theorem dCopyPlan_collect_32 : decode cCopyPlan_collect 32 = .ok (.istore 6, 2) := by decide +kernel
theorem dCopyPlan_collect_34 : decode cCopyPlan_collect 34 = .ok (.iload 5, 2) := by decide +kernel
theorem dCopyPlan_collect_36 : decode cCopyPlan_collect 36 = .ok (.iconst (-1), 1) := by decide +kernel
theorem dCopyPlan_collect_37 : decode cCopyPlan_collect 37 = .ok (.if_icmp .eq 42, 3) := by decide +kernel
theorem dCopyPlan_collect_40 : decode cCopyPlan_collect 40 = .ok (.iload 5, 2) := by decide +kernel
theorem dCopyPlan_collect_42 : decode cCopyPlan_collect 42 = .ok (.iload 6, 2) := by decide +kernel
theorem dCopyPlan_collect_44 : decode cCopyPlan_collect 44 = .ok (.if_icmp .eq 35, 3) := by decide +kernel
theorem dCopyPlan_collect_47 : decode cCopyPlan_collect 47 = .ok (.aload_n 0, 1) := by decide +kernel
theorem dCopyPlan_collect_48 : decode cCopyPlan_collect 48 = .ok (.getfield 11, 3) := by decide +kernel
theorem dCopyPlan_collect_51 : decode cCopyPlan_collect 51 = .ok (.aload_n 0, 1) := by decide +kernel
theorem dCopyPlan_collect_52 : decode cCopyPlan_collect 52 = .ok (.getfield 34, 3) := by decide +kernel
theorem dCopyPlan_collect_55 : decode cCopyPlan_collect 55 = .ok (.iload 6, 2) := by decide +kernel
theorem dCopyPlan_collect_57 : decode cCopyPlan_collect 57 = .ok (.iastore, 1) := by decide +kernel
theorem dCopyPlan_collect_58 : decode cCopyPlan_collect 58 = .ok (.aload_n 0, 1) := by decide +kernel
theorem dCopyPlan_collect_59 : decode cCopyPlan_collect 59 = .ok (.getfield 17, 3) := by decide +kernel
theorem dCopyPlan_collect_62 : decode cCopyPlan_collect 62 = .ok (.aload_n 0, 1) := by decide +kernel
theorem dCopyPlan_collect_63 : decode cCopyPlan_collect 63 = .ok (.getfield 34, 3) := by decide +kernel
theorem dCopyPlan_collect_66 : decode cCopyPlan_collect 66 = .ok (.iload 5, 2) := by decide +kernel
theorem dCopyPlan_collect_68 : decode cCopyPlan_collect 68 = .ok (.iastore, 1) := by decide +kernel
theorem dCopyPlan_collect_69 : decode cCopyPlan_collect 69 = .ok (.aload_n 0, 1) := by decide +kernel
theorem dCopyPlan_collect_70 : decode cCopyPlan_collect 70 = .ok (.dup, 1) := by decide +kernel
theorem dCopyPlan_collect_71 : decode cCopyPlan_collect 71 = .ok (.getfield 34, 3) := by decide +kernel
theorem dCopyPlan_collect_74 : decode cCopyPlan_collect 74 = .ok (.iconst 1, 1) := by decide +kernel
theorem dCopyPlan_collect_75 : decode cCopyPlan_collect 75 = .ok (.iadd, 1) := by decide +kernel
theorem dCopyPlan_collect_76 : decode cCopyPlan_collect 76 = .ok (.putfield 34, 3) := by decide +kernel
theorem dCopyPlan_collect_79 : decode cCopyPlan_collect 79 = .ok (.iinc 4 1, 3) := by decide +kernel
theorem dCopyPlan_collect_82 : decode cCopyPlan_collect 82 = .ok (.goto (-74), 3) := by decide +kernel
theorem dCopyPlan_collect_85 : decode cCopyPlan_collect 85 = .ok (.return_, 1) := by decide +kernel
theorem dCopyPlan_freeMove_0 : decode cCopyPlan_freeMove 0 = .ok (.iconst 0, 1) := by decide +kernel
theorem dCopyPlan_freeMove_1 : decode cCopyPlan_freeMove 1 = .ok (.istore_n 1, 1) := by decide +kernel
theorem dCopyPlan_freeMove_2 : decode cCopyPlan_freeMove 2 = .ok (.iload_n 1, 1) := by decide +kernel
theorem dCopyPlan_freeMove_3 : decode cCopyPlan_freeMove 3 = .ok (.aload_n 0, 1) := by decide +kernel
theorem dCopyPlan_freeMove_4 : decode cCopyPlan_freeMove 4 = .ok (.getfield 34, 3) := by decide +kernel
theorem dCopyPlan_freeMove_7 : decode cCopyPlan_freeMove 7 = .ok (.if_icmp .ge 24, 3) := by decide +kernel
theorem dCopyPlan_freeMove_10 : decode cCopyPlan_freeMove 10 = .ok (.aload_n 0, 1) := by decide +kernel
theorem dCopyPlan_freeMove_11 : decode cCopyPlan_freeMove 11 = .ok (.aload_n 0, 1) := by decide +kernel
theorem dCopyPlan_freeMove_12 : decode cCopyPlan_freeMove 12 = .ok (.getfield 11, 3) := by decide +kernel
theorem dCopyPlan_freeMove_15 : decode cCopyPlan_freeMove 15 = .ok (.iload_n 1, 1) := by decide +kernel
theorem dCopyPlan_freeMove_16 : decode cCopyPlan_freeMove 16 = .ok (.iaload, 1) := by decide +kernel
theorem dCopyPlan_freeMove_17 : decode cCopyPlan_freeMove 17 = .ok (.invokevirtual 60, 3) := by decide +kernel
theorem dCopyPlan_freeMove_20 : decode cCopyPlan_freeMove 20 = .ok (.ifCond .ne 5, 3) := by decide +kernel
theorem dCopyPlan_freeMove_23 : decode cCopyPlan_freeMove 23 = .ok (.iload_n 1, 1) := by decide +kernel
theorem dCopyPlan_freeMove_24 : decode cCopyPlan_freeMove 24 = .ok (.ireturn, 1) := by decide +kernel
theorem dCopyPlan_freeMove_25 : decode cCopyPlan_freeMove 25 = .ok (.iinc 1 1, 3) := by decide +kernel
theorem dCopyPlan_freeMove_28 : decode cCopyPlan_freeMove 28 = .ok (.goto (-26), 3) := by decide +kernel
theorem dCopyPlan_freeMove_31 : decode cCopyPlan_freeMove 31 = .ok (.iconst (-1), 1) := by decide +kernel
theorem dCopyPlan_freeMove_32 : decode cCopyPlan_freeMove 32 = .ok (.ireturn, 1) := by decide +kernel
theorem dCopyPlan_isAwaited_0 : decode cCopyPlan_isAwaited 0 = .ok (.iconst 0, 1) := by decide +kernel
theorem dCopyPlan_isAwaited_1 : decode cCopyPlan_isAwaited 1 = .ok (.istore_n 2, 1) := by decide +kernel
theorem dCopyPlan_isAwaited_2 : decode cCopyPlan_isAwaited 2 = .ok (.iload_n 2, 1) := by decide +kernel
theorem dCopyPlan_isAwaited_3 : decode cCopyPlan_isAwaited 3 = .ok (.aload_n 0, 1) := by decide +kernel
theorem dCopyPlan_isAwaited_4 : decode cCopyPlan_isAwaited 4 = .ok (.getfield 34, 3) := by decide +kernel
theorem dCopyPlan_isAwaited_7 : decode cCopyPlan_isAwaited 7 = .ok (.if_icmp .ge 21, 3) := by decide +kernel
theorem dCopyPlan_isAwaited_10 : decode cCopyPlan_isAwaited 10 = .ok (.aload_n 0, 1) := by decide +kernel
theorem dCopyPlan_isAwaited_11 : decode cCopyPlan_isAwaited 11 = .ok (.getfield 17, 3) := by decide +kernel
theorem dCopyPlan_isAwaited_14 : decode cCopyPlan_isAwaited 14 = .ok (.iload_n 2, 1) := by decide +kernel
theorem dCopyPlan_isAwaited_15 : decode cCopyPlan_isAwaited 15 = .ok (.iaload, 1) := by decide +kernel
theorem dCopyPlan_isAwaited_16 : decode cCopyPlan_isAwaited 16 = .ok (.iload_n 1, 1) := by decide +kernel
theorem dCopyPlan_isAwaited_17 : decode cCopyPlan_isAwaited 17 = .ok (.if_icmp .ne 5, 3) := by decide +kernel
theorem dCopyPlan_isAwaited_20 : decode cCopyPlan_isAwaited 20 = .ok (.iconst 1, 1) := by decide +kernel
theorem dCopyPlan_isAwaited_21 : decode cCopyPlan_isAwaited 21 = .ok (.ireturn, 1) := by decide +kernel
theorem dCopyPlan_isAwaited_22 : decode cCopyPlan_isAwaited 22 = .ok (.iinc 2 1, 3) := by decide +kernel
theorem dCopyPlan_isAwaited_25 : decode cCopyPlan_isAwaited 25 = .ok (.goto (-23), 3) := by decide +kernel
theorem dCopyPlan_isAwaited_28 : decode cCopyPlan_isAwaited 28 = .ok (.iconst 0, 1) := by decide +kernel
theorem dCopyPlan_isAwaited_29 : decode cCopyPlan_isAwaited 29 = .ok (.ireturn, 1) := by decide +kernel
theorem dCopyPlan_copy_0 : decode cCopyPlan_copy 0 = .ok (.aload_n 0, 1) := by decide +kernel
theorem dCopyPlan_copy_1 : decode cCopyPlan_copy 1 = .ok (.getfield 20, 3) := by decide +kernel
theorem dCopyPlan_copy_4 : decode cCopyPlan_copy 4 = .ok (.aload_n 0, 1) := by decide +kernel
theorem dCopyPlan_copy_5 : decode cCopyPlan_copy 5 = .ok (.getfield 30, 3) := by decide +kernel
theorem dCopyPlan_copy_8 : decode cCopyPlan_copy 8 = .ok (.iload_n 1, 1) := by decide +kernel
theorem dCopyPlan_copy_9 : decode cCopyPlan_copy 9 = .ok (.iastore, 1) := by decide +kernel
theorem dCopyPlan_copy_10 : decode cCopyPlan_copy 10 = .ok (.aload_n 0, 1) := by decide +kernel
theorem dCopyPlan_copy_11 : decode cCopyPlan_copy 11 = .ok (.getfield 23, 3) := by decide +kernel
theorem dCopyPlan_copy_14 : decode cCopyPlan_copy 14 = .ok (.aload_n 0, 1) := by decide +kernel
theorem dCopyPlan_copy_15 : decode cCopyPlan_copy 15 = .ok (.getfield 30, 3) := by decide +kernel
theorem dCopyPlan_copy_18 : decode cCopyPlan_copy 18 = .ok (.iload_n 2, 1) := by decide +kernel
theorem dCopyPlan_copy_19 : decode cCopyPlan_copy 19 = .ok (.iastore, 1) := by decide +kernel
theorem dCopyPlan_copy_20 : decode cCopyPlan_copy 20 = .ok (.aload_n 0, 1) := by decide +kernel
theorem dCopyPlan_copy_21 : decode cCopyPlan_copy 21 = .ok (.dup, 1) := by decide +kernel
theorem dCopyPlan_copy_22 : decode cCopyPlan_copy 22 = .ok (.getfield 30, 3) := by decide +kernel
theorem dCopyPlan_copy_25 : decode cCopyPlan_copy 25 = .ok (.iconst 1, 1) := by decide +kernel
theorem dCopyPlan_copy_26 : decode cCopyPlan_copy 26 = .ok (.iadd, 1) := by decide +kernel
theorem dCopyPlan_copy_27 : decode cCopyPlan_copy 27 = .ok (.putfield 30, 3) := by decide +kernel
theorem dCopyPlan_copy_30 : decode cCopyPlan_copy 30 = .ok (.return_, 1) := by decide +kernel
theorem dCopyPlan_remove_0 : decode cCopyPlan_remove 0 = .ok (.aload_n 0, 1) := by decide +kernel
theorem dCopyPlan_remove_1 : decode cCopyPlan_remove 1 = .ok (.dup, 1) := by decide +kernel
theorem dCopyPlan_remove_2 : decode cCopyPlan_remove 2 = .ok (.getfield 34, 3) := by decide +kernel
theorem dCopyPlan_remove_5 : decode cCopyPlan_remove 5 = .ok (.iconst 1, 1) := by decide +kernel
theorem dCopyPlan_remove_6 : decode cCopyPlan_remove 6 = .ok (.isub, 1) := by decide +kernel
theorem dCopyPlan_remove_7 : decode cCopyPlan_remove 7 = .ok (.putfield 34, 3) := by decide +kernel
theorem dCopyPlan_remove_10 : decode cCopyPlan_remove 10 = .ok (.aload_n 0, 1) := by decide +kernel
theorem dCopyPlan_remove_11 : decode cCopyPlan_remove 11 = .ok (.getfield 11, 3) := by decide +kernel
theorem dCopyPlan_remove_14 : decode cCopyPlan_remove 14 = .ok (.iload_n 1, 1) := by decide +kernel
theorem dCopyPlan_remove_15 : decode cCopyPlan_remove 15 = .ok (.aload_n 0, 1) := by decide +kernel
theorem dCopyPlan_remove_16 : decode cCopyPlan_remove 16 = .ok (.getfield 11, 3) := by decide +kernel
theorem dCopyPlan_remove_19 : decode cCopyPlan_remove 19 = .ok (.aload_n 0, 1) := by decide +kernel
theorem dCopyPlan_remove_20 : decode cCopyPlan_remove 20 = .ok (.getfield 34, 3) := by decide +kernel
theorem dCopyPlan_remove_23 : decode cCopyPlan_remove 23 = .ok (.iaload, 1) := by decide +kernel
theorem dCopyPlan_remove_24 : decode cCopyPlan_remove 24 = .ok (.iastore, 1) := by decide +kernel
theorem dCopyPlan_remove_25 : decode cCopyPlan_remove 25 = .ok (.aload_n 0, 1) := by decide +kernel
theorem dCopyPlan_remove_26 : decode cCopyPlan_remove 26 = .ok (.getfield 17, 3) := by decide +kernel
theorem dCopyPlan_remove_29 : decode cCopyPlan_remove 29 = .ok (.iload_n 1, 1) := by decide +kernel
theorem dCopyPlan_remove_30 : decode cCopyPlan_remove 30 = .ok (.aload_n 0, 1) := by decide +kernel
theorem dCopyPlan_remove_31 : decode cCopyPlan_remove 31 = .ok (.getfield 17, 3) := by decide +kernel
theorem dCopyPlan_remove_34 : decode cCopyPlan_remove 34 = .ok (.aload_n 0, 1) := by decide +kernel
theorem dCopyPlan_remove_35 : decode cCopyPlan_remove 35 = .ok (.getfield 34, 3) := by decide +kernel
theorem dCopyPlan_remove_38 : decode cCopyPlan_remove 38 = .ok (.iaload, 1) := by decide +kernel
theorem dCopyPlan_remove_39 : decode cCopyPlan_remove 39 = .ok (.iastore, 1) := by decide +kernel
theorem dCopyPlan_remove_40 : decode cCopyPlan_remove 40 = .ok (.return_, 1) := by decide +kernel
theorem dCopyPlan_readFromCopy_0 : decode cCopyPlan_readFromCopy 0 = .ok (.iconst 0, 1) := by decide +kernel
theorem dCopyPlan_readFromCopy_1 : decode cCopyPlan_readFromCopy 1 = .ok (.istore_n 1, 1) := by decide +kernel
theorem dCopyPlan_readFromCopy_2 : decode cCopyPlan_readFromCopy 2 = .ok (.iload_n 1, 1) := by decide +kernel
theorem dCopyPlan_readFromCopy_3 : decode cCopyPlan_readFromCopy 3 = .ok (.aload_n 0, 1) := by decide +kernel
theorem dCopyPlan_readFromCopy_4 : decode cCopyPlan_readFromCopy 4 = .ok (.getfield 34, 3) := by decide +kernel
theorem dCopyPlan_readFromCopy_7 : decode cCopyPlan_readFromCopy 7 = .ok (.if_icmp .ge 46, 3) := by decide +kernel
theorem dCopyPlan_readFromCopy_10 : decode cCopyPlan_readFromCopy 10 = .ok (.aload_n 0, 1) := by decide +kernel
theorem dCopyPlan_readFromCopy_11 : decode cCopyPlan_readFromCopy 11 = .ok (.getfield 17, 3) := by decide +kernel
theorem dCopyPlan_readFromCopy_14 : decode cCopyPlan_readFromCopy 14 = .ok (.iload_n 1, 1) := by decide +kernel
theorem dCopyPlan_readFromCopy_15 : decode cCopyPlan_readFromCopy 15 = .ok (.iaload, 1) := by decide +kernel
theorem dCopyPlan_readFromCopy_16 : decode cCopyPlan_readFromCopy 16 = .ok (.aload_n 0, 1) := by decide +kernel
theorem dCopyPlan_readFromCopy_17 : decode cCopyPlan_readFromCopy 17 = .ok (.getfield 23, 3) := by decide +kernel
theorem dCopyPlan_readFromCopy_20 : decode cCopyPlan_readFromCopy 20 = .ok (.aload_n 0, 1) := by decide +kernel
theorem dCopyPlan_readFromCopy_21 : decode cCopyPlan_readFromCopy 21 = .ok (.getfield 30, 3) := by decide +kernel
theorem dCopyPlan_readFromCopy_24 : decode cCopyPlan_readFromCopy 24 = .ok (.iconst 1, 1) := by decide +kernel
theorem dCopyPlan_readFromCopy_25 : decode cCopyPlan_readFromCopy 25 = .ok (.isub, 1) := by decide +kernel
theorem dCopyPlan_readFromCopy_26 : decode cCopyPlan_readFromCopy 26 = .ok (.iaload, 1) := by decide +kernel
theorem dCopyPlan_readFromCopy_27 : decode cCopyPlan_readFromCopy 27 = .ok (.if_icmp .ne 20, 3) := by decide +kernel
theorem dCopyPlan_readFromCopy_30 : decode cCopyPlan_readFromCopy 30 = .ok (.aload_n 0, 1) := by decide +kernel
theorem dCopyPlan_readFromCopy_31 : decode cCopyPlan_readFromCopy 31 = .ok (.getfield 17, 3) := by decide +kernel
theorem dCopyPlan_readFromCopy_34 : decode cCopyPlan_readFromCopy 34 = .ok (.iload_n 1, 1) := by decide +kernel
theorem dCopyPlan_readFromCopy_35 : decode cCopyPlan_readFromCopy 35 = .ok (.aload_n 0, 1) := by decide +kernel
theorem dCopyPlan_readFromCopy_36 : decode cCopyPlan_readFromCopy 36 = .ok (.getfield 20, 3) := by decide +kernel
theorem dCopyPlan_readFromCopy_39 : decode cCopyPlan_readFromCopy 39 = .ok (.aload_n 0, 1) := by decide +kernel
theorem dCopyPlan_readFromCopy_40 : decode cCopyPlan_readFromCopy 40 = .ok (.getfield 30, 3) := by decide +kernel
theorem dCopyPlan_readFromCopy_43 : decode cCopyPlan_readFromCopy 43 = .ok (.iconst 1, 1) := by decide +kernel
theorem dCopyPlan_readFromCopy_44 : decode cCopyPlan_readFromCopy 44 = .ok (.isub, 1) := by decide +kernel
theorem dCopyPlan_readFromCopy_45 : decode cCopyPlan_readFromCopy 45 = .ok (.iaload, 1) := by decide +kernel
theorem dCopyPlan_readFromCopy_46 : decode cCopyPlan_readFromCopy 46 = .ok (.iastore, 1) := by decide +kernel
theorem dCopyPlan_readFromCopy_47 : decode cCopyPlan_readFromCopy 47 = .ok (.iinc 1 1, 3) := by decide +kernel
theorem dCopyPlan_readFromCopy_50 : decode cCopyPlan_readFromCopy 50 = .ok (.goto (-48), 3) := by decide +kernel
theorem dCopyPlan_readFromCopy_53 : decode cCopyPlan_readFromCopy 53 = .ok (.return_, 1) := by decide +kernel
