theorem dGraph_survey_0 : decode cGraph_survey 0 = .ok (.aload_n 0, 1) := by decide +kernel
theorem dGraph_survey_1 : decode cGraph_survey 1 = .ok (.aload_n 0, 1) := by decide +kernel
theorem dGraph_survey_2 : decode cGraph_survey 2 = .ok (.aload_n 1, 1) := by decide +kernel
theorem dGraph_survey_3 : decode cGraph_survey 3 = .ok (.iconst (-1), 1) := by decide +kernel
theorem dGraph_survey_4 : decode cGraph_survey 4 = .ok (.invokevirtual 34, 3) := by decide +kernel
theorem dGraph_survey_7 : decode cGraph_survey 7 = .ok (.putfield 38, 3) := by decide +kernel
theorem dGraph_survey_10 : decode cGraph_survey 10 = .ok (.aload_n 0, 1) := by decide +kernel
theorem dGraph_survey_11 : decode cGraph_survey 11 = .ok (.aload_n 1, 1) := by decide +kernel
theorem dGraph_survey_12 : decode cGraph_survey 12 = .ok (.invokevirtual 41, 3) := by decide +kernel
theorem dGraph_survey_15 : decode cGraph_survey 15 = .ok (.iconst 0, 1) := by decide +kernel
theorem dGraph_survey_16 : decode cGraph_survey 16 = .ok (.istore_n 2, 1) := by decide +kernel
theorem dGraph_survey_17 : decode cGraph_survey 17 = .ok (.iload_n 2, 1) := by decide +kernel
theorem dGraph_survey_18 : decode cGraph_survey 18 = .ok (.aload_n 0, 1) := by decide +kernel
theorem dGraph_survey_19 : decode cGraph_survey 19 = .ok (.getfield 9, 3) := by decide +kernel
theorem dGraph_survey_22 : decode cGraph_survey 22 = .ok (.if_icmp .ge 28, 3) := by decide +kernel
theorem dGraph_survey_25 : decode cGraph_survey 25 = .ok (.aload_n 0, 1) := by decide +kernel
theorem dGraph_survey_26 : decode cGraph_survey 26 = .ok (.getfield 19, 3) := by decide +kernel
theorem dGraph_survey_29 : decode cGraph_survey 29 = .ok (.iload_n 2, 1) := by decide +kernel
theorem dGraph_survey_30 : decode cGraph_survey 30 = .ok (.aload_n 0, 1) := by decide +kernel
theorem dGraph_survey_31 : decode cGraph_survey 31 = .ok (.getfield 38, 3) := by decide +kernel
theorem dGraph_survey_34 : decode cGraph_survey 34 = .ok (.aload_n 0, 1) := by decide +kernel
theorem dGraph_survey_35 : decode cGraph_survey 35 = .ok (.aload_n 1, 1) := by decide +kernel
theorem dGraph_survey_36 : decode cGraph_survey 36 = .ok (.iload_n 2, 1) := by decide +kernel
theorem dGraph_survey_37 : decode cGraph_survey 37 = .ok (.invokevirtual 34, 3) := by decide +kernel
theorem dGraph_survey_40 : decode cGraph_survey 40 = .ok (.iconst (-1), 1) := by decide +kernel
theorem dGraph_survey_41 : decode cGraph_survey 41 = .ok (.ixor, 1) := by decide +kernel
theorem dGraph_survey_42 : decode cGraph_survey 42 = .ok (.iand, 1) := by decide +kernel
theorem dGraph_survey_43 : decode cGraph_survey 43 = .ok (.iastore, 1) := by decide +kernel
theorem dGraph_survey_44 : decode cGraph_survey 44 = .ok (.iinc 2 1, 3) := by decide +kernel
theorem dGraph_survey_47 : decode cGraph_survey 47 = .ok (.goto (-30), 3) := by decide +kernel
theorem dGraph_survey_50 : decode cGraph_survey 50 = .ok (.iconst 0, 1) := by decide +kernel
theorem dGraph_survey_51 : decode cGraph_survey 51 = .ok (.istore_n 2, 1) := by decide +kernel
theorem dGraph_survey_52 : decode cGraph_survey 52 = .ok (.iload_n 2, 1) := by decide +kernel
theorem dGraph_survey_53 : decode cGraph_survey 53 = .ok (.aload_n 0, 1) := by decide +kernel
theorem dGraph_survey_54 : decode cGraph_survey 54 = .ok (.getfield 9, 3) := by decide +kernel
theorem dGraph_survey_57 : decode cGraph_survey 57 = .ok (.if_icmp .ge 46, 3) := by decide +kernel
theorem dGraph_survey_60 : decode cGraph_survey 60 = .ok (.aload_n 0, 1) := by decide +kernel
theorem dGraph_survey_61 : decode cGraph_survey 61 = .ok (.getfield 25, 3) := by decide +kernel
theorem dGraph_survey_64 : decode cGraph_survey 64 = .ok (.iload_n 2, 1) := by decide +kernel
theorem dGraph_survey_65 : decode cGraph_survey 65 = .ok (.aload_n 0, 1) := by decide +kernel
theorem dGraph_survey_66 : decode cGraph_survey 66 = .ok (.getfield 38, 3) := by decide +kernel
theorem dGraph_survey_69 : decode cGraph_survey 69 = .ok (.iload_n 2, 1) := by decide +kernel
theorem dGraph_survey_70 : decode cGraph_survey 70 = .ok (.invokestatic 45, 3) := by decide +kernel
theorem dGraph_survey_73 : decode cGraph_survey 73 = .ok (.ifCond .eq 11, 3) := by decide +kernel
theorem dGraph_survey_76 : decode cGraph_survey 76 = .ok (.aload_n 0, 1) := by decide +kernel
theorem dGraph_survey_77 : decode cGraph_survey 77 = .ok (.iload_n 2, 1) := by decide +kernel
theorem dGraph_survey_78 : decode cGraph_survey 78 = .ok (.invokevirtual 49, 3) := by decide +kernel
theorem dGraph_survey_81 : decode cGraph_survey 81 = .ok (.goto 4, 3) := by decide +kernel
theorem dGraph_survey_84 : decode cGraph_survey 84 = .ok (.iconst (-1), 1) := by decide +kernel
theorem dGraph_survey_85 : decode cGraph_survey 85 = .ok (.iastore, 1) := by decide +kernel
theorem dGraph_survey_86 : decode cGraph_survey 86 = .ok (.aload_n 0, 1) := by decide +kernel
theorem dGraph_survey_87 : decode cGraph_survey 87 = .ok (.getfield 22, 3) := by decide +kernel
theorem dGraph_survey_90 : decode cGraph_survey 90 = .ok (.iload_n 2, 1) := by decide +kernel
theorem dGraph_survey_91 : decode cGraph_survey 91 = .ok (.aload_n 0, 1) := by decide +kernel
theorem dGraph_survey_92 : decode cGraph_survey 92 = .ok (.iload_n 2, 1) := by decide +kernel
theorem dGraph_survey_93 : decode cGraph_survey 93 = .ok (.invokevirtual 53, 3) := by decide +kernel
theorem dGraph_survey_96 : decode cGraph_survey 96 = .ok (.iastore, 1) := by decide +kernel
theorem dGraph_survey_97 : decode cGraph_survey 97 = .ok (.iinc 2 1, 3) := by decide +kernel
theorem dGraph_survey_100 : decode cGraph_survey 100 = .ok (.goto (-48), 3) := by decide +kernel
theorem dGraph_survey_103 : decode cGraph_survey 103 = .ok (.aload_n 0, 1) := by decide +kernel
theorem dGraph_survey_104 : decode cGraph_survey 104 = .ok (.invokevirtual 56, 3) := by decide +kernel
theorem dGraph_survey_107 : decode cGraph_survey 107 = .ok (.return_, 1) := by decide +kernel
theorem dGraph_reachedWithout_0 : decode cGraph_reachedWithout 0 = .ok (.iload_n 2, 1) := by decide +kernel
theorem dGraph_reachedWithout_1 : decode cGraph_reachedWithout 1 = .ok (.iconst (-1), 1) := by decide +kernel
theorem dGraph_reachedWithout_2 : decode cGraph_reachedWithout 2 = .ok (.if_icmp .ne 7, 3) := by decide +kernel
theorem dGraph_reachedWithout_5 : decode cGraph_reachedWithout 5 = .ok (.iconst (-1), 1) := by decide +kernel
theorem dGraph_reachedWithout_6 : decode cGraph_reachedWithout 6 = .ok (.goto 8, 3) := by decide +kernel
theorem dGraph_reachedWithout_9 : decode cGraph_reachedWithout 9 = .ok (.iconst 1, 1) := by decide +kernel
theorem dGraph_reachedWithout_10 : decode cGraph_reachedWithout 10 = .ok (.iload_n 2, 1) := by decide +kernel
theorem dGraph_reachedWithout_11 : decode cGraph_reachedWithout 11 = .ok (.ishl, 1) := by decide +kernel
theorem dGraph_reachedWithout_12 : decode cGraph_reachedWithout 12 = .ok (.iconst (-1), 1) := by decide +kernel
theorem dGraph_reachedWithout_13 : decode cGraph_reachedWithout 13 = .ok (.ixor, 1) := by decide +kernel
theorem dGraph_reachedWithout_14 : decode cGraph_reachedWithout 14 = .ok (.istore_n 3, 1) := by decide +kernel
theorem dGraph_reachedWithout_15 : decode cGraph_reachedWithout 15 = .ok (.iconst 1, 1) := by decide +kernel
theorem dGraph_reachedWithout_16 : decode cGraph_reachedWithout 16 = .ok (.iload_n 3, 1) := by decide +kernel
theorem dGraph_reachedWithout_17 : decode cGraph_reachedWithout 17 = .ok (.iand, 1) := by decide +kernel
theorem dGraph_reachedWithout_18 : decode cGraph_reachedWithout 18 = .ok (.istore 4, 2) := by decide +kernel
theorem dGraph_reachedWithout_20 : decode cGraph_reachedWithout 20 = .ok (.iconst 0, 1) := by decide +kernel
theorem dGraph_reachedWithout_21 : decode cGraph_reachedWithout 21 = .ok (.istore 5, 2) := by decide +kernel
theorem dGraph_reachedWithout_23 : decode cGraph_reachedWithout 23 = .ok (.iload 5, 2) := by decide +kernel
theorem dGraph_reachedWithout_25 : decode cGraph_reachedWithout 25 = .ok (.aload_n 0, 1) := by decide +kernel
theorem dGraph_reachedWithout_26 : decode cGraph_reachedWithout 26 = .ok (.getfield 9, 3) := by decide +kernel
theorem dGraph_reachedWithout_29 : decode cGraph_reachedWithout 29 = .ok (.if_icmp .ge 64, 3) := by decide +kernel
theorem dGraph_reachedWithout_32 : decode cGraph_reachedWithout 32 = .ok (.iload 4, 2) := by decide +kernel
theorem dGraph_reachedWithout_34 : decode cGraph_reachedWithout 34 = .ok (.istore 6, 2) := by decide +kernel
theorem dGraph_reachedWithout_36 : decode cGraph_reachedWithout 36 = .ok (.iconst 0, 1) := by decide +kernel
theorem dGraph_reachedWithout_37 : decode cGraph_reachedWithout 37 = .ok (.istore 7, 2) := by decide +kernel
theorem dGraph_reachedWithout_39 : decode cGraph_reachedWithout 39 = .ok (.iload 7, 2) := by decide +kernel
theorem dGraph_reachedWithout_41 : decode cGraph_reachedWithout 41 = .ok (.aload_n 0, 1) := by decide +kernel
theorem dGraph_reachedWithout_42 : decode cGraph_reachedWithout 42 = .ok (.getfield 9, 3) := by decide +kernel
theorem dGraph_reachedWithout_45 : decode cGraph_reachedWithout 45 = .ok (.if_icmp .ge 32, 3) := by decide +kernel
theorem dGraph_reachedWithout_48 : decode cGraph_reachedWithout 48 = .ok (.iload 4, 2) := by decide +kernel
theorem dGraph_reachedWithout_50 : decode cGraph_reachedWithout 50 = .ok (.iload 7, 2) := by decide +kernel
theorem dGraph_reachedWithout_52 : decode cGraph_reachedWithout 52 = .ok (.invokestatic 45, 3) := by decide +kernel
theorem dGraph_reachedWithout_55 : decode cGraph_reachedWithout 55 = .ok (.ifCond .eq 16, 3) := by decide +kernel
theorem dGraph_reachedWithout_58 : decode cGraph_reachedWithout 58 = .ok (.iload 4, 2) := by decide +kernel
theorem dGraph_reachedWithout_60 : decode cGraph_reachedWithout 60 = .ok (.aload_n 1, 1) := by decide +kernel
theorem dGraph_reachedWithout_61 : decode cGraph_reachedWithout 61 = .ok (.iload 7, 2) := by decide +kernel
theorem dGraph_reachedWithout_63 : decode cGraph_reachedWithout 63 = .ok (.invokevirtual 59, 3) := by decide +kernel
theorem dGraph_reachedWithout_66 : decode cGraph_reachedWithout 66 = .ok (.iload_n 3, 1) := by decide +kernel
theorem dGraph_reachedWithout_67 : decode cGraph_reachedWithout 67 = .ok (.iand, 1) := by decide +kernel
theorem dGraph_reachedWithout_68 : decode cGraph_reachedWithout 68 = .ok (.ior, 1) := by decide +kernel
theorem dGraph_reachedWithout_69 : decode cGraph_reachedWithout 69 = .ok (.istore 4, 2) := by decide +kernel
theorem dGraph_reachedWithout_71 : decode cGraph_reachedWithout 71 = .ok (.iinc 7 1, 3) := by decide +kernel
theorem dGraph_reachedWithout_74 : decode cGraph_reachedWithout 74 = .ok (.goto (-35), 3) := by decide +kernel
theorem dGraph_reachedWithout_77 : decode cGraph_reachedWithout 77 = .ok (.iload 4, 2) := by decide +kernel
theorem dGraph_reachedWithout_79 : decode cGraph_reachedWithout 79 = .ok (.iload 6, 2) := by decide +kernel
theorem dGraph_reachedWithout_81 : decode cGraph_reachedWithout 81 = .ok (.if_icmp .ne 6, 3) := by decide +kernel
theorem dGraph_reachedWithout_84 : decode cGraph_reachedWithout 84 = .ok (.goto 9, 3) := by decide +kernel
theorem dGraph_reachedWithout_87 : decode cGraph_reachedWithout 87 = .ok (.iinc 5 1, 3) := by decide +kernel
theorem dGraph_reachedWithout_90 : decode cGraph_reachedWithout 90 = .ok (.goto (-67), 3) := by decide +kernel
theorem dGraph_reachedWithout_93 : decode cGraph_reachedWithout 93 = .ok (.iload 4, 2) := by decide +kernel
theorem dGraph_reachedWithout_95 : decode cGraph_reachedWithout 95 = .ok (.ireturn, 1) := by decide +kernel
theorem dGraph_findForerunners_0 : decode cGraph_findForerunners 0 = .ok (.aload_n 0, 1) := by decide +kernel
theorem dGraph_findForerunners_1 : decode cGraph_findForerunners 1 = .ok (.getfield 15, 3) := by decide +kernel
theorem dGraph_findForerunners_4 : decode cGraph_findForerunners 4 = .ok (.iconst 0, 1) := by decide +kernel
theorem dGraph_findForerunners_5 : decode cGraph_findForerunners 5 = .ok (.invokestatic 64, 3) := by decide +kernel
theorem dGraph_findForerunners_8 : decode cGraph_findForerunners 8 = .ok (.aload_n 0, 1) := by decide +kernel
theorem dGraph_findForerunners_9 : decode cGraph_findForerunners 9 = .ok (.getfield 15, 3) := by decide +kernel
theorem dGraph_findForerunners_12 : decode cGraph_findForerunners 12 = .ok (.iconst 0, 1) := by decide +kernel
theorem dGraph_findForerunners_13 : decode cGraph_findForerunners 13 = .ok (.iconst 1, 1) := by decide +kernel
theorem dGraph_findForerunners_14 : decode cGraph_findForerunners 14 = .ok (.aload_n 0, 1) := by decide +kernel
theorem dGraph_findForerunners_15 : decode cGraph_findForerunners 15 = .ok (.getfield 9, 3) := by decide +kernel
theorem dGraph_findForerunners_18 : decode cGraph_findForerunners 18 = .ok (.ishl, 1) := by decide +kernel
theorem dGraph_findForerunners_19 : decode cGraph_findForerunners 19 = .ok (.iastore, 1) := by decide +kernel
theorem dGraph_findForerunners_20 : decode cGraph_findForerunners 20 = .ok (.iconst 0, 1) := by decide +kernel
theorem dGraph_findForerunners_21 : decode cGraph_findForerunners 21 = .ok (.istore_n 2, 1) := by decide +kernel
theorem dGraph_findForerunners_22 : decode cGraph_findForerunners 22 = .ok (.iload_n 2, 1) := by decide +kernel
theorem dGraph_findForerunners_23 : decode cGraph_findForerunners 23 = .ok (.aload_n 0, 1) := by decide +kernel
theorem dGraph_findForerunners_24 : decode cGraph_findForerunners 24 = .ok (.getfield 9, 3) := by decide +kernel
theorem dGraph_findForerunners_27 : decode cGraph_findForerunners 27 = .ok (.if_icmp .ge 70, 3) := by decide +kernel
theorem dGraph_findForerunners_30 : decode cGraph_findForerunners 30 = .ok (.aload_n 0, 1) := by decide +kernel
theorem dGraph_findForerunners_31 : decode cGraph_findForerunners 31 = .ok (.getfield 38, 3) := by decide +kernel
theorem dGraph_findForerunners_34 : decode cGraph_findForerunners 34 = .ok (.iload_n 2, 1) := by decide +kernel
theorem dGraph_findForerunners_35 : decode cGraph_findForerunners 35 = .ok (.invokestatic 45, 3) := by decide +kernel
theorem dGraph_findForerunners_38 : decode cGraph_findForerunners 38 = .ok (.ifCond .eq 11, 3) := by decide +kernel
theorem dGraph_findForerunners_41 : decode cGraph_findForerunners 41 = .ok (.aload_n 1, 1) := by decide +kernel
theorem dGraph_findForerunners_42 : decode cGraph_findForerunners 42 = .ok (.iload_n 2, 1) := by decide +kernel
theorem dGraph_findForerunners_43 : decode cGraph_findForerunners 43 = .ok (.invokevirtual 59, 3) := by decide +kernel
theorem dGraph_findForerunners_46 : decode cGraph_findForerunners 46 = .ok (.goto 4, 3) := by decide +kernel
theorem dGraph_findForerunners_49 : decode cGraph_findForerunners 49 = .ok (.iconst 0, 1) := by decide +kernel
theorem dGraph_findForerunners_50 : decode cGraph_findForerunners 50 = .ok (.istore_n 3, 1) := by decide +kernel
theorem dGraph_findForerunners_51 : decode cGraph_findForerunners 51 = .ok (.iconst 0, 1) := by decide +kernel
theorem dGraph_findForerunners_52 : decode cGraph_findForerunners 52 = .ok (.istore 4, 2) := by decide +kernel
theorem dGraph_findForerunners_54 : decode cGraph_findForerunners 54 = .ok (.iload 4, 2) := by decide +kernel
theorem dGraph_findForerunners_56 : decode cGraph_findForerunners 56 = .ok (.aload_n 0, 1) := by decide +kernel
theorem dGraph_findForerunners_57 : decode cGraph_findForerunners 57 = .ok (.getfield 9, 3) := by decide +kernel
theorem dGraph_findForerunners_60 : decode cGraph_findForerunners 60 = .ok (.if_icmp .ge 31, 3) := by decide +kernel
theorem dGraph_findForerunners_63 : decode cGraph_findForerunners 63 = .ok (.iload_n 3, 1) := by decide +kernel
theorem dGraph_findForerunners_64 : decode cGraph_findForerunners 64 = .ok (.iload 4, 2) := by decide +kernel
theorem dGraph_findForerunners_66 : decode cGraph_findForerunners 66 = .ok (.invokestatic 45, 3) := by decide +kernel
theorem dGraph_findForerunners_69 : decode cGraph_findForerunners 69 = .ok (.ifCond .eq 16, 3) := by decide +kernel
theorem dGraph_findForerunners_72 : decode cGraph_findForerunners 72 = .ok (.aload_n 0, 1) := by decide +kernel
theorem dGraph_findForerunners_73 : decode cGraph_findForerunners 73 = .ok (.getfield 15, 3) := by decide +kernel
theorem dGraph_findForerunners_76 : decode cGraph_findForerunners 76 = .ok (.iload 4, 2) := by decide +kernel
theorem dGraph_findForerunners_78 : decode cGraph_findForerunners 78 = .ok (.dup2, 1) := by decide +kernel
theorem dGraph_findForerunners_79 : decode cGraph_findForerunners 79 = .ok (.iaload, 1) := by decide +kernel
theorem dGraph_findForerunners_80 : decode cGraph_findForerunners 80 = .ok (.iconst 1, 1) := by decide +kernel
theorem dGraph_findForerunners_81 : decode cGraph_findForerunners 81 = .ok (.iload_n 2, 1) := by decide +kernel
theorem dGraph_findForerunners_82 : decode cGraph_findForerunners 82 = .ok (.ishl, 1) := by decide +kernel
theorem dGraph_findForerunners_83 : decode cGraph_findForerunners 83 = .ok (.ior, 1) := by decide +kernel
theorem dGraph_findForerunners_84 : decode cGraph_findForerunners 84 = .ok (.iastore, 1) := by decide +kernel
theorem dGraph_findForerunners_85 : decode cGraph_findForerunners 85 = .ok (.iinc 4 1, 3) := by decide +kernel
theorem dGraph_findForerunners_88 : decode cGraph_findForerunners 88 = .ok (.goto (-34), 3) := by decide +kernel
theorem dGraph_findForerunners_91 : decode cGraph_findForerunners 91 = .ok (.iinc 2 1, 3) := by decide +kernel
theorem dGraph_findForerunners_94 : decode cGraph_findForerunners 94 = .ok (.goto (-72), 3) := by decide +kernel
theorem dGraph_findForerunners_97 : decode cGraph_findForerunners 97 = .ok (.return_, 1) := by decide +kernel
theorem dGraph_nearestAbove_0 : decode cGraph_nearestAbove 0 = .ok (.aload_n 0, 1) := by decide +kernel
theorem dGraph_nearestAbove_1 : decode cGraph_nearestAbove 1 = .ok (.getfield 9, 3) := by decide +kernel
theorem dGraph_nearestAbove_4 : decode cGraph_nearestAbove 4 = .ok (.istore_n 2, 1) := by decide +kernel
theorem dGraph_nearestAbove_5 : decode cGraph_nearestAbove 5 = .ok (.aload_n 0, 1) := by decide +kernel
theorem dGraph_nearestAbove_6 : decode cGraph_nearestAbove 6 = .ok (.getfield 9, 3) := by decide +kernel
theorem dGraph_nearestAbove_9 : decode cGraph_nearestAbove 9 = .ok (.iconst 1, 1) := by decide +kernel
theorem dGraph_nearestAbove_10 : decode cGraph_nearestAbove 10 = .ok (.iadd, 1) := by decide +kernel
theorem dGraph_nearestAbove_11 : decode cGraph_nearestAbove 11 = .ok (.istore_n 3, 1) := by decide +kernel
theorem dGraph_nearestAbove_12 : decode cGraph_nearestAbove 12 = .ok (.iconst 0, 1) := by decide +kernel
theorem dGraph_nearestAbove_13 : decode cGraph_nearestAbove 13 = .ok (.istore 4, 2) := by decide +kernel
theorem dGraph_nearestAbove_15 : decode cGraph_nearestAbove 15 = .ok (.iload 4, 2) := by decide +kernel
theorem dGraph_nearestAbove_17 : decode cGraph_nearestAbove 17 = .ok (.aload_n 0, 1) := by decide +kernel
theorem dGraph_nearestAbove_18 : decode cGraph_nearestAbove 18 = .ok (.getfield 9, 3) := by decide +kernel
theorem dGraph_nearestAbove_21 : decode cGraph_nearestAbove 21 = .ok (.if_icmp .ge 53, 3) := by decide +kernel
theorem dGraph_nearestAbove_24 : decode cGraph_nearestAbove 24 = .ok (.aload_n 0, 1) := by decide +kernel
theorem dGraph_nearestAbove_25 : decode cGraph_nearestAbove 25 = .ok (.getfield 19, 3) := by decide +kernel
theorem dGraph_nearestAbove_28 : decode cGraph_nearestAbove 28 = .ok (.iload 4, 2) := by decide +kernel
theorem dGraph_nearestAbove_30 : decode cGraph_nearestAbove 30 = .ok (.iaload, 1) := by decide +kernel
theorem dGraph_nearestAbove_31 : decode cGraph_nearestAbove 31 = .ok (.invokestatic 70, 3) := by decide +kernel
theorem dGraph_nearestAbove_34 : decode cGraph_nearestAbove 34 = .ok (.istore 5, 2) := by decide +kernel
theorem dGraph_nearestAbove_36 : decode cGraph_nearestAbove 36 = .ok (.iload 4, 2) := by decide +kernel
theorem dGraph_nearestAbove_38 : decode cGraph_nearestAbove 38 = .ok (.iload_n 1, 1) := by decide +kernel
theorem dGraph_nearestAbove_39 : decode cGraph_nearestAbove 39 = .ok (.if_icmp .eq 29, 3) := by decide +kernel
theorem dGraph_nearestAbove_42 : decode cGraph_nearestAbove 42 = .ok (.aload_n 0, 1) := by decide +kernel
theorem dGraph_nearestAbove_43 : decode cGraph_nearestAbove 43 = .ok (.getfield 19, 3) := by decide +kernel
theorem dGraph_nearestAbove_46 : decode cGraph_nearestAbove 46 = .ok (.iload 4, 2) := by decide +kernel
theorem dGraph_nearestAbove_48 : decode cGraph_nearestAbove 48 = .ok (.iaload, 1) := by decide +kernel
theorem dGraph_nearestAbove_49 : decode cGraph_nearestAbove 49 = .ok (.iload_n 1, 1) := by decide +kernel
theorem dGraph_nearestAbove_50 : decode cGraph_nearestAbove 50 = .ok (.invokestatic 45, 3) := by decide +kernel
theorem dGraph_nearestAbove_53 : decode cGraph_nearestAbove 53 = .ok (.ifCond .eq 15, 3) := by decide +kernel
theorem dGraph_nearestAbove_56 : decode cGraph_nearestAbove 56 = .ok (.iload 5, 2) := by decide +kernel
theorem dGraph_nearestAbove_58 : decode cGraph_nearestAbove 58 = .ok (.iload_n 3, 1) := by decide +kernel
theorem dGraph_nearestAbove_59 : decode cGraph_nearestAbove 59 = .ok (.if_icmp .ge 9, 3) := by decide +kernel
theorem dGraph_nearestAbove_62 : decode cGraph_nearestAbove 62 = .ok (.iload 4, 2) := by decide +kernel
theorem dGraph_nearestAbove_64 : decode cGraph_nearestAbove 64 = .ok (.istore_n 2, 1) := by decide +kernel
theorem dGraph_nearestAbove_65 : decode cGraph_nearestAbove 65 = .ok (.iload 5, 2) := by decide +kernel
theorem dGraph_nearestAbove_67 : decode cGraph_nearestAbove 67 = .ok (.istore_n 3, 1) := by decide +kernel
theorem dGraph_nearestAbove_68 : decode cGraph_nearestAbove 68 = .ok (.iinc 4 1, 3) := by decide +kernel
theorem dGraph_nearestAbove_71 : decode cGraph_nearestAbove 71 = .ok (.goto (-56), 3) := by decide +kernel
theorem dGraph_nearestAbove_74 : decode cGraph_nearestAbove 74 = .ok (.iload_n 2, 1) := by decide +kernel
theorem dGraph_nearestAbove_75 : decode cGraph_nearestAbove 75 = .ok (.ireturn, 1) := by decide +kernel
theorem dGraph_findFrontier_0 : decode cGraph_findFrontier 0 = .ok (.iconst 0, 1) := by decide +kernel
theorem dGraph_findFrontier_1 : decode cGraph_findFrontier 1 = .ok (.istore_n 2, 1) := by decide +kernel
theorem dGraph_findFrontier_2 : decode cGraph_findFrontier 2 = .ok (.aload_n 0, 1) := by decide +kernel
theorem dGraph_findFrontier_3 : decode cGraph_findFrontier 3 = .ok (.getfield 19, 3) := by decide +kernel
theorem dGraph_findFrontier_6 : decode cGraph_findFrontier 6 = .ok (.iload_n 1, 1) := by decide +kernel
theorem dGraph_findFrontier_7 : decode cGraph_findFrontier 7 = .ok (.iaload, 1) := by decide +kernel
theorem dGraph_findFrontier_8 : decode cGraph_findFrontier 8 = .ok (.iconst 1, 1) := by decide +kernel
theorem dGraph_findFrontier_9 : decode cGraph_findFrontier 9 = .ok (.iload_n 1, 1) := by decide +kernel
theorem dGraph_findFrontier_10 : decode cGraph_findFrontier 10 = .ok (.ishl, 1) := by decide +kernel
theorem dGraph_findFrontier_11 : decode cGraph_findFrontier 11 = .ok (.iconst (-1), 1) := by decide +kernel
theorem dGraph_findFrontier_12 : decode cGraph_findFrontier 12 = .ok (.ixor, 1) := by decide +kernel
theorem dGraph_findFrontier_13 : decode cGraph_findFrontier 13 = .ok (.iand, 1) := by decide +kernel
theorem dGraph_findFrontier_14 : decode cGraph_findFrontier 14 = .ok (.istore_n 3, 1) := by decide +kernel
theorem dGraph_findFrontier_15 : decode cGraph_findFrontier 15 = .ok (.iconst 0, 1) := by decide +kernel
theorem dGraph_findFrontier_16 : decode cGraph_findFrontier 16 = .ok (.istore 4, 2) := by decide +kernel
theorem dGraph_findFrontier_18 : decode cGraph_findFrontier 18 = .ok (.iload 4, 2) := by decide +kernel
theorem dGraph_findFrontier_20 : decode cGraph_findFrontier 20 = .ok (.aload_n 0, 1) := by decide +kernel
theorem dGraph_findFrontier_21 : decode cGraph_findFrontier 21 = .ok (.getfield 9, 3) := by decide +kernel
theorem dGraph_findFrontier_24 : decode cGraph_findFrontier 24 = .ok (.if_icmp .ge 42, 3) := by decide +kernel
theorem dGraph_findFrontier_27 : decode cGraph_findFrontier 27 = .ok (.aload_n 0, 1) := by decide +kernel
theorem dGraph_findFrontier_28 : decode cGraph_findFrontier 28 = .ok (.getfield 19, 3) := by decide +kernel
theorem dGraph_findFrontier_31 : decode cGraph_findFrontier 31 = .ok (.iload_n 1, 1) := by decide +kernel
theorem dGraph_findFrontier_32 : decode cGraph_findFrontier 32 = .ok (.iaload, 1) := by decide +kernel
theorem dGraph_findFrontier_33 : decode cGraph_findFrontier 33 = .ok (.aload_n 0, 1) := by decide +kernel
theorem dGraph_findFrontier_34 : decode cGraph_findFrontier 34 = .ok (.getfield 15, 3) := by decide +kernel
theorem dGraph_findFrontier_37 : decode cGraph_findFrontier 37 = .ok (.iload 4, 2) := by decide +kernel
theorem dGraph_findFrontier_39 : decode cGraph_findFrontier 39 = .ok (.iaload, 1) := by decide +kernel
theorem dGraph_findFrontier_40 : decode cGraph_findFrontier 40 = .ok (.iand, 1) := by decide +kernel
theorem dGraph_findFrontier_41 : decode cGraph_findFrontier 41 = .ok (.ifCond .eq 19, 3) := by decide +kernel
theorem dGraph_findFrontier_44 : decode cGraph_findFrontier 44 = .ok (.iload_n 3, 1) := by decide +kernel
theorem dGraph_findFrontier_45 : decode cGraph_findFrontier 45 = .ok (.iload 4, 2) := by decide +kernel
theorem dGraph_findFrontier_47 : decode cGraph_findFrontier 47 = .ok (.invokestatic 45, 3) := by decide +kernel
theorem dGraph_findFrontier_50 : decode cGraph_findFrontier 50 = .ok (.ifCond .ne 10, 3) := by decide +kernel
theorem dGraph_findFrontier_53 : decode cGraph_findFrontier 53 = .ok (.iload_n 2, 1) := by decide +kernel
theorem dGraph_findFrontier_54 : decode cGraph_findFrontier 54 = .ok (.iconst 1, 1) := by decide +kernel
theorem dGraph_findFrontier_55 : decode cGraph_findFrontier 55 = .ok (.iload 4, 2) := by decide +kernel
theorem dGraph_findFrontier_57 : decode cGraph_findFrontier 57 = .ok (.ishl, 1) := by decide +kernel
theorem dGraph_findFrontier_58 : decode cGraph_findFrontier 58 = .ok (.ior, 1) := by decide +kernel
theorem dGraph_findFrontier_59 : decode cGraph_findFrontier 59 = .ok (.istore_n 2, 1) := by decide +kernel
theorem dGraph_findFrontier_60 : decode cGraph_findFrontier 60 = .ok (.iinc 4 1, 3) := by decide +kernel
theorem dGraph_findFrontier_63 : decode cGraph_findFrontier 63 = .ok (.goto (-45), 3) := by decide +kernel
theorem dGraph_findFrontier_66 : decode cGraph_findFrontier 66 = .ok (.iload_n 2, 1) := by decide +kernel
theorem dGraph_findFrontier_67 : decode cGraph_findFrontier 67 = .ok (.ireturn, 1) := by decide +kernel
theorem dGraph_findOrder_0 : decode cGraph_findOrder 0 = .ok (.aload_n 0, 1) := by decide +kernel
theorem dGraph_findOrder_1 : decode cGraph_findOrder 1 = .ok (.iconst 0, 1) := by decide +kernel
theorem dGraph_findOrder_2 : decode cGraph_findOrder 2 = .ok (.putfield 75, 3) := by decide +kernel
theorem dGraph_findOrder_5 : decode cGraph_findOrder 5 = .ok (.aload_n 0, 1) := by decide +kernel
theorem dGraph_findOrder_6 : decode cGraph_findOrder 6 = .ok (.getfield 31, 3) := by decide +kernel
theorem dGraph_findOrder_9 : decode cGraph_findOrder 9 = .ok (.iconst 0, 1) := by decide +kernel
theorem dGraph_findOrder_10 : decode cGraph_findOrder 10 = .ok (.iconst 0, 1) := by decide +kernel
theorem dGraph_findOrder_11 : decode cGraph_findOrder 11 = .ok (.iastore, 1) := by decide +kernel
theorem dGraph_findOrder_12 : decode cGraph_findOrder 12 = .ok (.iconst 1, 1) := by decide +kernel
theorem dGraph_findOrder_13 : decode cGraph_findOrder 13 = .ok (.istore_n 1, 1) := by decide +kernel
theorem dGraph_findOrder_14 : decode cGraph_findOrder 14 = .ok (.iconst 0, 1) := by decide +kernel
theorem dGraph_findOrder_15 : decode cGraph_findOrder 15 = .ok (.istore_n 2, 1) := by decide +kernel
theorem dGraph_findOrder_16 : decode cGraph_findOrder 16 = .ok (.iload_n 2, 1) := by decide +kernel
theorem dGraph_findOrder_17 : decode cGraph_findOrder 17 = .ok (.aload_n 0, 1) := by decide +kernel
theorem dGraph_findOrder_18 : decode cGraph_findOrder 18 = .ok (.getfield 9, 3) := by decide +kernel
theorem dGraph_findOrder_21 : decode cGraph_findOrder 21 = .ok (.if_icmp .ge 84, 3) := by decide +kernel
theorem dGraph_findOrder_24 : decode cGraph_findOrder 24 = .ok (.iload_n 1, 1) := by decide +kernel
theorem dGraph_findOrder_25 : decode cGraph_findOrder 25 = .ok (.ifCond .le 80, 3) := by decide +kernel
theorem dGraph_findOrder_28 : decode cGraph_findOrder 28 = .ok (.iinc 1 (-1), 3) := by decide +kernel
theorem dGraph_findOrder_31 : decode cGraph_findOrder 31 = .ok (.aload_n 0, 1) := by decide +kernel
theorem dGraph_findOrder_32 : decode cGraph_findOrder 32 = .ok (.getfield 31, 3) := by decide +kernel
theorem dGraph_findOrder_35 : decode cGraph_findOrder 35 = .ok (.iload_n 1, 1) := by decide +kernel
theorem dGraph_findOrder_36 : decode cGraph_findOrder 36 = .ok (.iaload, 1) := by decide +kernel
theorem dGraph_findOrder_37 : decode cGraph_findOrder 37 = .ok (.istore_n 3, 1) := by decide +kernel
theorem dGraph_findOrder_38 : decode cGraph_findOrder 38 = .ok (.aload_n 0, 1) := by decide +kernel
theorem dGraph_findOrder_39 : decode cGraph_findOrder 39 = .ok (.getfield 28, 3) := by decide +kernel
theorem dGraph_findOrder_42 : decode cGraph_findOrder 42 = .ok (.aload_n 0, 1) := by decide +kernel
theorem dGraph_findOrder_43 : decode cGraph_findOrder 43 = .ok (.getfield 75, 3) := by decide +kernel
theorem dGraph_findOrder_46 : decode cGraph_findOrder 46 = .ok (.iload_n 3, 1) := by decide +kernel
theorem dGraph_findOrder_47 : decode cGraph_findOrder 47 = .ok (.iastore, 1) := by decide +kernel
theorem dGraph_findOrder_48 : decode cGraph_findOrder 48 = .ok (.aload_n 0, 1) := by decide +kernel
theorem dGraph_findOrder_49 : decode cGraph_findOrder 49 = .ok (.dup, 1) := by decide +kernel
theorem dGraph_findOrder_50 : decode cGraph_findOrder 50 = .ok (.getfield 75, 3) := by decide +kernel
theorem dGraph_findOrder_53 : decode cGraph_findOrder 53 = .ok (.iconst 1, 1) := by decide +kernel
theorem dGraph_findOrder_54 : decode cGraph_findOrder 54 = .ok (.iadd, 1) := by decide +kernel
theorem dGraph_findOrder_55 : decode cGraph_findOrder 55 = .ok (.putfield 75, 3) := by decide +kernel
theorem dGraph_findOrder_58 : decode cGraph_findOrder 58 = .ok (.aload_n 0, 1) := by decide +kernel
theorem dGraph_findOrder_59 : decode cGraph_findOrder 59 = .ok (.getfield 9, 3) := by decide +kernel
theorem dGraph_findOrder_62 : decode cGraph_findOrder 62 = .ok (.iconst 1, 1) := by decide +kernel
theorem dGraph_findOrder_63 : decode cGraph_findOrder 63 = .ok (.isub, 1) := by decide +kernel
theorem dGraph_findOrder_64 : decode cGraph_findOrder 64 = .ok (.istore 4, 2) := by decide +kernel
theorem dGraph_findOrder_66 : decode cGraph_findOrder 66 = .ok (.iload 4, 2) := by decide +kernel
theorem dGraph_findOrder_68 : decode cGraph_findOrder 68 = .ok (.ifCond .lt 31, 3) := by decide +kernel
theorem dGraph_findOrder_71 : decode cGraph_findOrder 71 = .ok (.aload_n 0, 1) := by decide +kernel
theorem dGraph_findOrder_72 : decode cGraph_findOrder 72 = .ok (.getfield 25, 3) := by decide +kernel
theorem dGraph_findOrder_75 : decode cGraph_findOrder 75 = .ok (.iload 4, 2) := by decide +kernel
theorem dGraph_findOrder_77 : decode cGraph_findOrder 77 = .ok (.iaload, 1) := by decide +kernel
theorem dGraph_findOrder_78 : decode cGraph_findOrder 78 = .ok (.iload_n 3, 1) := by decide +kernel
theorem dGraph_findOrder_79 : decode cGraph_findOrder 79 = .ok (.if_icmp .ne 14, 3) := by decide +kernel
theorem dGraph_findOrder_82 : decode cGraph_findOrder 82 = .ok (.aload_n 0, 1) := by decide +kernel
theorem dGraph_findOrder_83 : decode cGraph_findOrder 83 = .ok (.getfield 31, 3) := by decide +kernel
theorem dGraph_findOrder_86 : decode cGraph_findOrder 86 = .ok (.iload_n 1, 1) := by decide +kernel
theorem dGraph_findOrder_87 : decode cGraph_findOrder 87 = .ok (.iload 4, 2) := by decide +kernel
theorem dGraph_findOrder_89 : decode cGraph_findOrder 89 = .ok (.iastore, 1) := by decide +kernel
theorem dGraph_findOrder_90 : decode cGraph_findOrder 90 = .ok (.iinc 1 1, 3) := by decide +kernel
theorem dGraph_findOrder_93 : decode cGraph_findOrder 93 = .ok (.iinc 4 (-1), 3) := by decide +kernel
theorem dGraph_findOrder_96 : decode cGraph_findOrder 96 = .ok (.goto (-30), 3) := by decide +kernel
theorem dGraph_findOrder_99 : decode cGraph_findOrder 99 = .ok (.iinc 2 1, 3) := by decide +kernel
theorem dGraph_findOrder_102 : decode cGraph_findOrder 102 = .ok (.goto (-86), 3) := by decide +kernel
theorem dGraph_findOrder_105 : decode cGraph_findOrder 105 = .ok (.return_, 1) := by decide +kernel
theorem dGraph_parentOf_0 : decode cGraph_parentOf 0 = .ok (.aload_n 0, 1) := by decide +kernel
theorem dGraph_parentOf_1 : decode cGraph_parentOf 1 = .ok (.getfield 25, 3) := by decide +kernel
theorem dGraph_parentOf_4 : decode cGraph_parentOf 4 = .ok (.iload_n 1, 1) := by decide +kernel
theorem dGraph_parentOf_5 : decode cGraph_parentOf 5 = .ok (.iaload, 1) := by decide +kernel
theorem dGraph_parentOf_6 : decode cGraph_parentOf 6 = .ok (.ireturn, 1) := by decide +kernel
theorem dGraph_hasBelow_0 : decode cGraph_hasBelow 0 = .ok (.aload_n 0, 1) := by decide +kernel
theorem dGraph_hasBelow_1 : decode cGraph_hasBelow 1 = .ok (.getfield 19, 3) := by decide +kernel
theorem dGraph_hasBelow_4 : decode cGraph_hasBelow 4 = .ok (.iload_n 1, 1) := by decide +kernel
theorem dGraph_hasBelow_5 : decode cGraph_hasBelow 5 = .ok (.iaload, 1) := by decide +kernel
theorem dGraph_hasBelow_6 : decode cGraph_hasBelow 6 = .ok (.iload_n 2, 1) := by decide +kernel
theorem dGraph_hasBelow_7 : decode cGraph_hasBelow 7 = .ok (.invokestatic 45, 3) := by decide +kernel
theorem dGraph_hasBelow_10 : decode cGraph_hasBelow 10 = .ok (.ireturn, 1) := by decide +kernel
theorem dGraph_frontierOf_0 : decode cGraph_frontierOf 0 = .ok (.aload_n 0, 1) := by decide +kernel
theorem dGraph_frontierOf_1 : decode cGraph_frontierOf 1 = .ok (.getfield 22, 3) := by decide +kernel
theorem dGraph_frontierOf_4 : decode cGraph_frontierOf 4 = .ok (.iload_n 1, 1) := by decide +kernel
theorem dGraph_frontierOf_5 : decode cGraph_frontierOf 5 = .ok (.iaload, 1) := by decide +kernel
theorem dGraph_frontierOf_6 : decode cGraph_frontierOf 6 = .ok (.ireturn, 1) := by decide +kernel
theorem dGraph_frontierOfAll_0 : decode cGraph_frontierOfAll 0 = .ok (.iconst 0, 1) := by decide +kernel
theorem dGraph_frontierOfAll_1 : decode cGraph_frontierOfAll 1 = .ok (.istore_n 2, 1) := by decide +kernel
theorem dGraph_frontierOfAll_2 : decode cGraph_frontierOfAll 2 = .ok (.iconst 0, 1) := by decide +kernel
theorem dGraph_frontierOfAll_3 : decode cGraph_frontierOfAll 3 = .ok (.istore_n 3, 1) := by decide +kernel
theorem dGraph_frontierOfAll_4 : decode cGraph_frontierOfAll 4 = .ok (.iload_n 3, 1) := by decide +kernel
theorem dGraph_frontierOfAll_5 : decode cGraph_frontierOfAll 5 = .ok (.aload_n 0, 1) := by decide +kernel
theorem dGraph_frontierOfAll_6 : decode cGraph_frontierOfAll 6 = .ok (.getfield 9, 3) := by decide +kernel
theorem dGraph_frontierOfAll_9 : decode cGraph_frontierOfAll 9 = .ok (.if_icmp .ge 26, 3) := by decide +kernel
theorem dGraph_frontierOfAll_12 : decode cGraph_frontierOfAll 12 = .ok (.iload_n 1, 1) := by decide +kernel
theorem dGraph_frontierOfAll_13 : decode cGraph_frontierOfAll 13 = .ok (.iload_n 3, 1) := by decide +kernel
theorem dGraph_frontierOfAll_14 : decode cGraph_frontierOfAll 14 = .ok (.invokestatic 45, 3) := by decide +kernel
theorem dGraph_frontierOfAll_17 : decode cGraph_frontierOfAll 17 = .ok (.ifCond .eq 12, 3) := by decide +kernel
theorem dGraph_frontierOfAll_20 : decode cGraph_frontierOfAll 20 = .ok (.iload_n 2, 1) := by decide +kernel
theorem dGraph_frontierOfAll_21 : decode cGraph_frontierOfAll 21 = .ok (.aload_n 0, 1) := by decide +kernel
theorem dGraph_frontierOfAll_22 : decode cGraph_frontierOfAll 22 = .ok (.getfield 22, 3) := by decide +kernel
theorem dGraph_frontierOfAll_25 : decode cGraph_frontierOfAll 25 = .ok (.iload_n 3, 1) := by decide +kernel
theorem dGraph_frontierOfAll_26 : decode cGraph_frontierOfAll 26 = .ok (.iaload, 1) := by decide +kernel
theorem dGraph_frontierOfAll_27 : decode cGraph_frontierOfAll 27 = .ok (.ior, 1) := by decide +kernel
theorem dGraph_frontierOfAll_28 : decode cGraph_frontierOfAll 28 = .ok (.istore_n 2, 1) := by decide +kernel
theorem dGraph_frontierOfAll_29 : decode cGraph_frontierOfAll 29 = .ok (.iinc 3 1, 3) := by decide +kernel
theorem dGraph_frontierOfAll_32 : decode cGraph_frontierOfAll 32 = .ok (.goto (-28), 3) := by decide +kernel
theorem dGraph_frontierOfAll_35 : decode cGraph_frontierOfAll 35 = .ok (.iload_n 2, 1) := by decide +kernel
theorem dGraph_frontierOfAll_36 : decode cGraph_frontierOfAll 36 = .ok (.ireturn, 1) := by decide +kernel
theorem dGraph_leadsTo_0 : decode cGraph_leadsTo 0 = .ok (.aload_n 0, 1) := by decide +kernel
theorem dGraph_leadsTo_1 : decode cGraph_leadsTo 1 = .ok (.getfield 15, 3) := by decide +kernel
theorem dGraph_leadsTo_4 : decode cGraph_leadsTo 4 = .ok (.iload_n 2, 1) := by decide +kernel
theorem dGraph_leadsTo_5 : decode cGraph_leadsTo 5 = .ok (.iaload, 1) := by decide +kernel
theorem dGraph_leadsTo_6 : decode cGraph_leadsTo 6 = .ok (.iload_n 1, 1) := by decide +kernel
theorem dGraph_leadsTo_7 : decode cGraph_leadsTo 7 = .ok (.invokestatic 45, 3) := by decide +kernel
theorem dGraph_leadsTo_10 : decode cGraph_leadsTo 10 = .ok (.ireturn, 1) := by decide +kernel
theorem dGraph_reachedCount_0 : decode cGraph_reachedCount 0 = .ok (.aload_n 0, 1) := by decide +kernel
theorem dGraph_reachedCount_1 : decode cGraph_reachedCount 1 = .ok (.getfield 75, 3) := by decide +kernel
theorem dGraph_reachedCount_4 : decode cGraph_reachedCount 4 = .ok (.ireturn, 1) := by decide +kernel
theorem dGraph_inOrder_0 : decode cGraph_inOrder 0 = .ok (.aload_n 0, 1) := by decide +kernel
theorem dGraph_inOrder_1 : decode cGraph_inOrder 1 = .ok (.getfield 28, 3) := by decide +kernel
theorem dGraph_inOrder_4 : decode cGraph_inOrder 4 = .ok (.iload_n 1, 1) := by decide +kernel
theorem dGraph_inOrder_5 : decode cGraph_inOrder 5 = .ok (.iaload, 1) := by decide +kernel
theorem dGraph_inOrder_6 : decode cGraph_inOrder 6 = .ok (.ireturn, 1) := by decide +kernel
