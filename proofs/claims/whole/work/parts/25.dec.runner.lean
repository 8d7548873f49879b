theorem dRunner_perform_0 : decode cRunner_perform 0 = .ok (.aload_n 0, 1) := by decide +kernel
theorem dRunner_perform_1 : decode cRunner_perform 1 = .ok (.iload_n 1, 1) := by decide +kernel
theorem dRunner_perform_2 : decode cRunner_perform 2 = .ok (.putfield 32, 3) := by decide +kernel
theorem dRunner_perform_5 : decode cRunner_perform 5 = .ok (.aload_n 2, 1) := by decide +kernel
theorem dRunner_perform_6 : decode cRunner_perform 6 = .ok (.invokevirtual 36, 3) := by decide +kernel
theorem dRunner_perform_9 : decode cRunner_perform 9 = .ok (.aload_n 0, 1) := by decide +kernel
theorem dRunner_perform_10 : decode cRunner_perform 10 = .ok (.invokevirtual 41, 3) := by decide +kernel
theorem dRunner_perform_13 : decode cRunner_perform 13 = .ok (.aload_n 0, 1) := by decide +kernel
theorem dRunner_perform_14 : decode cRunner_perform 14 = .ok (.getfield 9, 3) := by decide +kernel
theorem dRunner_perform_17 : decode cRunner_perform 17 = .ok (.invokevirtual 44, 3) := by decide +kernel
theorem dRunner_perform_20 : decode cRunner_perform 20 = .ok (.istore_n 3, 1) := by decide +kernel
theorem dRunner_perform_21 : decode cRunner_perform 21 = .ok (.iconst 0, 1) := by decide +kernel
theorem dRunner_perform_22 : decode cRunner_perform 22 = .ok (.istore 4, 2) := by decide +kernel
theorem dRunner_perform_24 : decode cRunner_perform 24 = .ok (.iconst 0, 1) := by decide +kernel
theorem dRunner_perform_25 : decode cRunner_perform 25 = .ok (.istore 5, 2) := by decide +kernel
theorem dRunner_perform_27 : decode cRunner_perform 27 = .ok (.iload 5, 2) := by decide +kernel
theorem dRunner_perform_29 : decode cRunner_perform 29 = .ok (.bipush 100, 2) := by decide +kernel
theorem dRunner_perform_31 : decode cRunner_perform 31 = .ok (.if_icmp .ge 74, 3) := by decide +kernel
theorem dRunner_perform_34 : decode cRunner_perform 34 = .ok (.aload_n 0, 1) := by decide +kernel
theorem dRunner_perform_35 : decode cRunner_perform 35 = .ok (.getfield 32, 3) := by decide +kernel
theorem dRunner_perform_38 : decode cRunner_perform 38 = .ok (.iconst 1, 1) := by decide +kernel
theorem dRunner_perform_39 : decode cRunner_perform 39 = .ok (.if_icmp .ne 13, 3) := by decide +kernel
theorem dRunner_perform_42 : decode cRunner_perform 42 = .ok (.aload_n 0, 1) := by decide +kernel
theorem dRunner_perform_43 : decode cRunner_perform 43 = .ok (.iload 4, 2) := by decide +kernel
theorem dRunner_perform_45 : decode cRunner_perform 45 = .ok (.iload_n 3, 1) := by decide +kernel
theorem dRunner_perform_46 : decode cRunner_perform 46 = .ok (.invokevirtual 50, 3) := by decide +kernel
theorem dRunner_perform_49 : decode cRunner_perform 49 = .ok (.goto 18, 3) := by decide +kernel
theorem dRunner_perform_52 : decode cRunner_perform 52 = .ok (.aload_n 0, 1) := by decide +kernel
theorem dRunner_perform_53 : decode cRunner_perform 53 = .ok (.getfield 32, 3) := by decide +kernel
theorem dRunner_perform_56 : decode cRunner_perform 56 = .ok (.iconst 2, 1) := by decide +kernel
theorem dRunner_perform_57 : decode cRunner_perform 57 = .ok (.if_icmp .ne 10, 3) := by decide +kernel
theorem dRunner_perform_60 : decode cRunner_perform 60 = .ok (.aload_n 0, 1) := by decide +kernel
theorem dRunner_perform_61 : decode cRunner_perform 61 = .ok (.iload 4, 2) := by decide +kernel
theorem dRunner_perform_63 : decode cRunner_perform 63 = .ok (.iload_n 3, 1) := by decide +kernel
theorem dRunner_perform_64 : decode cRunner_perform 64 = .ok (.invokevirtual 54, 3) := by decide +kernel
theorem dRunner_perform_67 : decode cRunner_perform 67 = .ok (.aload_n 0, 1) := by decide +kernel
theorem dRunner_perform_68 : decode cRunner_perform 68 = .ok (.iload 4, 2) := by decide +kernel
theorem dRunner_perform_70 : decode cRunner_perform 70 = .ok (.aload_n 2, 1) := by decide +kernel
theorem dRunner_perform_71 : decode cRunner_perform 71 = .ok (.invokevirtual 57, 3) := by decide +kernel
theorem dRunner_perform_74 : decode cRunner_perform 74 = .ok (.aload_n 2, 1) := by decide +kernel
theorem dRunner_perform_75 : decode cRunner_perform 75 = .ok (.invokevirtual 61, 3) := by decide +kernel
theorem dRunner_perform_78 : decode cRunner_perform 78 = .ok (.ifCond .eq 4, 3) := by decide +kernel
theorem dRunner_perform_81 : decode cRunner_perform 81 = .ok (.return_, 1) := by decide +kernel
theorem dRunner_perform_82 : decode cRunner_perform 82 = .ok (.iload 4, 2) := by decide +kernel
theorem dRunner_perform_84 : decode cRunner_perform 84 = .ok (.istore_n 3, 1) := by decide +kernel
theorem dRunner_perform_85 : decode cRunner_perform 85 = .ok (.aload_n 0, 1) := by decide +kernel
theorem dRunner_perform_86 : decode cRunner_perform 86 = .ok (.iload_n 3, 1) := by decide +kernel
theorem dRunner_perform_87 : decode cRunner_perform 87 = .ok (.invokevirtual 64, 3) := by decide +kernel
theorem dRunner_perform_90 : decode cRunner_perform 90 = .ok (.istore 4, 2) := by decide +kernel
theorem dRunner_perform_92 : decode cRunner_perform 92 = .ok (.iload 4, 2) := by decide +kernel
theorem dRunner_perform_94 : decode cRunner_perform 94 = .ok (.iconst (-1), 1) := by decide +kernel
theorem dRunner_perform_95 : decode cRunner_perform 95 = .ok (.if_icmp .ne 4, 3) := by decide +kernel
theorem dRunner_perform_98 : decode cRunner_perform 98 = .ok (.return_, 1) := by decide +kernel
theorem dRunner_perform_99 : decode cRunner_perform 99 = .ok (.iinc 5 1, 3) := by decide +kernel
theorem dRunner_perform_102 : decode cRunner_perform 102 = .ok (.goto (-75), 3) := by decide +kernel
theorem dRunner_perform_105 : decode cRunner_perform 105 = .ok (.aload_n 2, 1) := by decide +kernel
theorem dRunner_perform_106 : decode cRunner_perform 106 = .ok (.iconst 2, 1) := by decide +kernel
theorem dRunner_perform_107 : decode cRunner_perform 107 = .ok (.invokevirtual 68, 3) := by decide +kernel
theorem dRunner_perform_110 : decode cRunner_perform 110 = .ok (.return_, 1) := by decide +kernel
theorem dRunner_enterProgram_0 : decode cRunner_enterProgram 0 = .ok (.aload_n 0, 1) := by decide +kernel
theorem dRunner_enterProgram_1 : decode cRunner_enterProgram 1 = .ok (.getfield 25, 3) := by decide +kernel
theorem dRunner_enterProgram_4 : decode cRunner_enterProgram 4 = .ok (.iconst 0, 1) := by decide +kernel
theorem dRunner_enterProgram_5 : decode cRunner_enterProgram 5 = .ok (.invokestatic 72, 3) := by decide +kernel
theorem dRunner_enterProgram_8 : decode cRunner_enterProgram 8 = .ok (.iconst 0, 1) := by decide +kernel
theorem dRunner_enterProgram_9 : decode cRunner_enterProgram 9 = .ok (.istore_n 1, 1) := by decide +kernel
theorem dRunner_enterProgram_10 : decode cRunner_enterProgram 10 = .ok (.iload_n 1, 1) := by decide +kernel
theorem dRunner_enterProgram_11 : decode cRunner_enterProgram 11 = .ok (.bipush 6, 2) := by decide +kernel
theorem dRunner_enterProgram_13 : decode cRunner_enterProgram 13 = .ok (.if_icmp .ge 30, 3) := by decide +kernel
theorem dRunner_enterProgram_16 : decode cRunner_enterProgram 16 = .ok (.aload_n 0, 1) := by decide +kernel
theorem dRunner_enterProgram_17 : decode cRunner_enterProgram 17 = .ok (.getfield 25, 3) := by decide +kernel
theorem dRunner_enterProgram_20 : decode cRunner_enterProgram 20 = .ok (.aload_n 0, 1) := by decide +kernel
theorem dRunner_enterProgram_21 : decode cRunner_enterProgram 21 = .ok (.getfield 15, 3) := by decide +kernel
theorem dRunner_enterProgram_24 : decode cRunner_enterProgram 24 = .ok (.iload_n 1, 1) := by decide +kernel
theorem dRunner_enterProgram_25 : decode cRunner_enterProgram 25 = .ok (.invokevirtual 78, 3) := by decide +kernel
theorem dRunner_enterProgram_28 : decode cRunner_enterProgram 28 = .ok (.aload_n 0, 1) := by decide +kernel
theorem dRunner_enterProgram_29 : decode cRunner_enterProgram 29 = .ok (.getfield 9, 3) := by decide +kernel
theorem dRunner_enterProgram_32 : decode cRunner_enterProgram 32 = .ok (.iload_n 1, 1) := by decide +kernel
theorem dRunner_enterProgram_33 : decode cRunner_enterProgram 33 = .ok (.invokevirtual 83, 3) := by decide +kernel
theorem dRunner_enterProgram_36 : decode cRunner_enterProgram 36 = .ok (.iastore, 1) := by decide +kernel
theorem dRunner_enterProgram_37 : decode cRunner_enterProgram 37 = .ok (.iinc 1 1, 3) := by decide +kernel
theorem dRunner_enterProgram_40 : decode cRunner_enterProgram 40 = .ok (.goto (-30), 3) := by decide +kernel
theorem dRunner_enterProgram_43 : decode cRunner_enterProgram 43 = .ok (.return_, 1) := by decide +kernel
theorem dRunner_setAtOnce_0 : decode cRunner_setAtOnce 0 = .ok (.iconst 0, 1) := by decide +kernel
theorem dRunner_setAtOnce_1 : decode cRunner_setAtOnce 1 = .ok (.istore_n 3, 1) := by decide +kernel
theorem dRunner_setAtOnce_2 : decode cRunner_setAtOnce 2 = .ok (.iload_n 3, 1) := by decide +kernel
theorem dRunner_setAtOnce_3 : decode cRunner_setAtOnce 3 = .ok (.bipush 6, 2) := by decide +kernel
theorem dRunner_setAtOnce_5 : decode cRunner_setAtOnce 5 = .ok (.if_icmp .ge 29, 3) := by decide +kernel
theorem dRunner_setAtOnce_8 : decode cRunner_setAtOnce 8 = .ok (.aload_n 0, 1) := by decide +kernel
theorem dRunner_setAtOnce_9 : decode cRunner_setAtOnce 9 = .ok (.getfield 29, 3) := by decide +kernel
theorem dRunner_setAtOnce_12 : decode cRunner_setAtOnce 12 = .ok (.iload_n 3, 1) := by decide +kernel
theorem dRunner_setAtOnce_13 : decode cRunner_setAtOnce 13 = .ok (.aload_n 0, 1) := by decide +kernel
theorem dRunner_setAtOnce_14 : decode cRunner_setAtOnce 14 = .ok (.aload_n 0, 1) := by decide +kernel
theorem dRunner_setAtOnce_15 : decode cRunner_setAtOnce 15 = .ok (.getfield 15, 3) := by decide +kernel
theorem dRunner_setAtOnce_18 : decode cRunner_setAtOnce 18 = .ok (.iload_n 1, 1) := by decide +kernel
theorem dRunner_setAtOnce_19 : decode cRunner_setAtOnce 19 = .ok (.iload_n 3, 1) := by decide +kernel
theorem dRunner_setAtOnce_20 : decode cRunner_setAtOnce 20 = .ok (.iload_n 2, 1) := by decide +kernel
theorem dRunner_setAtOnce_21 : decode cRunner_setAtOnce 21 = .ok (.invokevirtual 86, 3) := by decide +kernel
theorem dRunner_setAtOnce_24 : decode cRunner_setAtOnce 24 = .ok (.invokevirtual 90, 3) := by decide +kernel
theorem dRunner_setAtOnce_27 : decode cRunner_setAtOnce 27 = .ok (.iastore, 1) := by decide +kernel
theorem dRunner_setAtOnce_28 : decode cRunner_setAtOnce 28 = .ok (.iinc 3 1, 3) := by decide +kernel
theorem dRunner_setAtOnce_31 : decode cRunner_setAtOnce 31 = .ok (.goto (-29), 3) := by decide +kernel
theorem dRunner_setAtOnce_34 : decode cRunner_setAtOnce 34 = .ok (.iconst 0, 1) := by decide +kernel
theorem dRunner_setAtOnce_35 : decode cRunner_setAtOnce 35 = .ok (.istore_n 3, 1) := by decide +kernel
theorem dRunner_setAtOnce_36 : decode cRunner_setAtOnce 36 = .ok (.iload_n 3, 1) := by decide +kernel
theorem dRunner_setAtOnce_37 : decode cRunner_setAtOnce 37 = .ok (.bipush 6, 2) := by decide +kernel
theorem dRunner_setAtOnce_39 : decode cRunner_setAtOnce 39 = .ok (.if_icmp .ge 42, 3) := by decide +kernel
theorem dRunner_setAtOnce_42 : decode cRunner_setAtOnce 42 = .ok (.aload_n 0, 1) := by decide +kernel
theorem dRunner_setAtOnce_43 : decode cRunner_setAtOnce 43 = .ok (.getfield 15, 3) := by decide +kernel
theorem dRunner_setAtOnce_46 : decode cRunner_setAtOnce 46 = .ok (.iload_n 1, 1) := by decide +kernel
theorem dRunner_setAtOnce_47 : decode cRunner_setAtOnce 47 = .ok (.iload_n 3, 1) := by decide +kernel
theorem dRunner_setAtOnce_48 : decode cRunner_setAtOnce 48 = .ok (.invokevirtual 93, 3) := by decide +kernel
theorem dRunner_setAtOnce_51 : decode cRunner_setAtOnce 51 = .ok (.iconst (-1), 1) := by decide +kernel
theorem dRunner_setAtOnce_52 : decode cRunner_setAtOnce 52 = .ok (.if_icmp .eq 23, 3) := by decide +kernel
theorem dRunner_setAtOnce_55 : decode cRunner_setAtOnce 55 = .ok (.aload_n 0, 1) := by decide +kernel
theorem dRunner_setAtOnce_56 : decode cRunner_setAtOnce 56 = .ok (.getfield 25, 3) := by decide +kernel
theorem dRunner_setAtOnce_59 : decode cRunner_setAtOnce 59 = .ok (.aload_n 0, 1) := by decide +kernel
theorem dRunner_setAtOnce_60 : decode cRunner_setAtOnce 60 = .ok (.getfield 15, 3) := by decide +kernel
theorem dRunner_setAtOnce_63 : decode cRunner_setAtOnce 63 = .ok (.iload_n 1, 1) := by decide +kernel
theorem dRunner_setAtOnce_64 : decode cRunner_setAtOnce 64 = .ok (.iload_n 3, 1) := by decide +kernel
theorem dRunner_setAtOnce_65 : decode cRunner_setAtOnce 65 = .ok (.invokevirtual 93, 3) := by decide +kernel
theorem dRunner_setAtOnce_68 : decode cRunner_setAtOnce 68 = .ok (.aload_n 0, 1) := by decide +kernel
theorem dRunner_setAtOnce_69 : decode cRunner_setAtOnce 69 = .ok (.getfield 29, 3) := by decide +kernel
theorem dRunner_setAtOnce_72 : decode cRunner_setAtOnce 72 = .ok (.iload_n 3, 1) := by decide +kernel
theorem dRunner_setAtOnce_73 : decode cRunner_setAtOnce 73 = .ok (.iaload, 1) := by decide +kernel
theorem dRunner_setAtOnce_74 : decode cRunner_setAtOnce 74 = .ok (.iastore, 1) := by decide +kernel
theorem dRunner_setAtOnce_75 : decode cRunner_setAtOnce 75 = .ok (.iinc 3 1, 3) := by decide +kernel
theorem dRunner_setAtOnce_78 : decode cRunner_setAtOnce 78 = .ok (.goto (-42), 3) := by decide +kernel
theorem dRunner_setAtOnce_81 : decode cRunner_setAtOnce 81 = .ok (.return_, 1) := by decide +kernel
theorem dRunner_setByCopies_0 : decode cRunner_setByCopies 0 = .ok (.aload_n 0, 1) := by decide +kernel
theorem dRunner_setByCopies_1 : decode cRunner_setByCopies 1 = .ok (.getfield 19, 3) := by decide +kernel
theorem dRunner_setByCopies_4 : decode cRunner_setByCopies 4 = .ok (.aload_n 0, 1) := by decide +kernel
theorem dRunner_setByCopies_5 : decode cRunner_setByCopies 5 = .ok (.getfield 15, 3) := by decide +kernel
theorem dRunner_setByCopies_8 : decode cRunner_setByCopies 8 = .ok (.iload_n 1, 1) := by decide +kernel
theorem dRunner_setByCopies_9 : decode cRunner_setByCopies 9 = .ok (.iload_n 2, 1) := by decide +kernel
theorem dRunner_setByCopies_10 : decode cRunner_setByCopies 10 = .ok (.invokevirtual 97, 3) := by decide +kernel
theorem dRunner_setByCopies_13 : decode cRunner_setByCopies 13 = .ok (.iconst 0, 1) := by decide +kernel
theorem dRunner_setByCopies_14 : decode cRunner_setByCopies 14 = .ok (.istore_n 3, 1) := by decide +kernel
theorem dRunner_setByCopies_15 : decode cRunner_setByCopies 15 = .ok (.iload_n 3, 1) := by decide +kernel
theorem dRunner_setByCopies_16 : decode cRunner_setByCopies 16 = .ok (.aload_n 0, 1) := by decide +kernel
theorem dRunner_setByCopies_17 : decode cRunner_setByCopies 17 = .ok (.getfield 19, 3) := by decide +kernel
theorem dRunner_setByCopies_20 : decode cRunner_setByCopies 20 = .ok (.invokevirtual 101, 3) := by decide +kernel
theorem dRunner_setByCopies_23 : decode cRunner_setByCopies 23 = .ok (.if_icmp .ge 35, 3) := by decide +kernel
theorem dRunner_setByCopies_26 : decode cRunner_setByCopies 26 = .ok (.aload_n 0, 1) := by decide +kernel
theorem dRunner_setByCopies_27 : decode cRunner_setByCopies 27 = .ok (.getfield 25, 3) := by decide +kernel
theorem dRunner_setByCopies_30 : decode cRunner_setByCopies 30 = .ok (.aload_n 0, 1) := by decide +kernel
theorem dRunner_setByCopies_31 : decode cRunner_setByCopies 31 = .ok (.getfield 19, 3) := by decide +kernel
theorem dRunner_setByCopies_34 : decode cRunner_setByCopies 34 = .ok (.iload_n 3, 1) := by decide +kernel
theorem dRunner_setByCopies_35 : decode cRunner_setByCopies 35 = .ok (.invokevirtual 104, 3) := by decide +kernel
theorem dRunner_setByCopies_38 : decode cRunner_setByCopies 38 = .ok (.aload_n 0, 1) := by decide +kernel
theorem dRunner_setByCopies_39 : decode cRunner_setByCopies 39 = .ok (.getfield 25, 3) := by decide +kernel
theorem dRunner_setByCopies_42 : decode cRunner_setByCopies 42 = .ok (.aload_n 0, 1) := by decide +kernel
theorem dRunner_setByCopies_43 : decode cRunner_setByCopies 43 = .ok (.getfield 19, 3) := by decide +kernel
theorem dRunner_setByCopies_46 : decode cRunner_setByCopies 46 = .ok (.iload_n 3, 1) := by decide +kernel
theorem dRunner_setByCopies_47 : decode cRunner_setByCopies 47 = .ok (.invokevirtual 107, 3) := by decide +kernel
theorem dRunner_setByCopies_50 : decode cRunner_setByCopies 50 = .ok (.iaload, 1) := by decide +kernel
theorem dRunner_setByCopies_51 : decode cRunner_setByCopies 51 = .ok (.iastore, 1) := by decide +kernel
theorem dRunner_setByCopies_52 : decode cRunner_setByCopies 52 = .ok (.iinc 3 1, 3) := by decide +kernel
theorem dRunner_setByCopies_55 : decode cRunner_setByCopies 55 = .ok (.goto (-40), 3) := by decide +kernel
theorem dRunner_setByCopies_58 : decode cRunner_setByCopies 58 = .ok (.return_, 1) := by decide +kernel
theorem dRunner_valueOf_0 : decode cRunner_valueOf 0 = .ok (.iload_n 1, 1) := by decide +kernel
theorem dRunner_valueOf_1 : decode cRunner_valueOf 1 = .ok (.iconst (-1), 1) := by decide +kernel
theorem dRunner_valueOf_2 : decode cRunner_valueOf 2 = .ok (.if_icmp .ne 7, 3) := by decide +kernel
theorem dRunner_valueOf_5 : decode cRunner_valueOf 5 = .ok (.iconst 0, 1) := by decide +kernel
theorem dRunner_valueOf_6 : decode cRunner_valueOf 6 = .ok (.goto 9, 3) := by decide +kernel
theorem dRunner_valueOf_9 : decode cRunner_valueOf 9 = .ok (.aload_n 0, 1) := by decide +kernel
theorem dRunner_valueOf_10 : decode cRunner_valueOf 10 = .ok (.getfield 25, 3) := by decide +kernel
theorem dRunner_valueOf_13 : decode cRunner_valueOf 13 = .ok (.iload_n 1, 1) := by decide +kernel
theorem dRunner_valueOf_14 : decode cRunner_valueOf 14 = .ok (.iaload, 1) := by decide +kernel
theorem dRunner_valueOf_15 : decode cRunner_valueOf 15 = .ok (.ireturn, 1) := by decide +kernel
theorem dRunner_placeOf_0 : decode cRunner_placeOf 0 = .ok (.iload_n 1, 1) := by decide +kernel
theorem dRunner_placeOf_1 : decode cRunner_placeOf 1 = .ok (.iconst (-1), 1) := by decide +kernel
theorem dRunner_placeOf_2 : decode cRunner_placeOf 2 = .ok (.if_icmp .ne 7, 3) := by decide +kernel
theorem dRunner_placeOf_5 : decode cRunner_placeOf 5 = .ok (.iconst (-1), 1) := by decide +kernel
theorem dRunner_placeOf_6 : decode cRunner_placeOf 6 = .ok (.goto 11, 3) := by decide +kernel
theorem dRunner_placeOf_9 : decode cRunner_placeOf 9 = .ok (.aload_n 0, 1) := by decide +kernel
theorem dRunner_placeOf_10 : decode cRunner_placeOf 10 = .ok (.getfield 15, 3) := by decide +kernel
theorem dRunner_placeOf_13 : decode cRunner_placeOf 13 = .ok (.iload_n 1, 1) := by decide +kernel
theorem dRunner_placeOf_14 : decode cRunner_placeOf 14 = .ok (.invokevirtual 78, 3) := by decide +kernel
theorem dRunner_placeOf_17 : decode cRunner_placeOf 17 = .ok (.ireturn, 1) := by decide +kernel
theorem dRunner_doSteps_0 : decode cRunner_doSteps 0 = .ok (.iconst 0, 1) := by decide +kernel
theorem dRunner_doSteps_1 : decode cRunner_doSteps 1 = .ok (.istore_n 3, 1) := by decide +kernel
theorem dRunner_doSteps_2 : decode cRunner_doSteps 2 = .ok (.iload_n 3, 1) := by decide +kernel
theorem dRunner_doSteps_3 : decode cRunner_doSteps 3 = .ok (.aload_n 0, 1) := by decide +kernel
theorem dRunner_doSteps_4 : decode cRunner_doSteps 4 = .ok (.getfield 9, 3) := by decide +kernel
theorem dRunner_doSteps_7 : decode cRunner_doSteps 7 = .ok (.iload_n 1, 1) := by decide +kernel
theorem dRunner_doSteps_8 : decode cRunner_doSteps 8 = .ok (.invokevirtual 110, 3) := by decide +kernel
theorem dRunner_doSteps_11 : decode cRunner_doSteps 11 = .ok (.if_icmp .ge 124, 3) := by decide +kernel
theorem dRunner_doSteps_14 : decode cRunner_doSteps 14 = .ok (.aload_n 2, 1) := by decide +kernel
theorem dRunner_doSteps_15 : decode cRunner_doSteps 15 = .ok (.invokevirtual 61, 3) := by decide +kernel
theorem dRunner_doSteps_18 : decode cRunner_doSteps 18 = .ok (.ifCond .ne 117, 3) := by decide +kernel
theorem dRunner_doSteps_21 : decode cRunner_doSteps 21 = .ok (.aload_n 0, 1) := by decide +kernel
theorem dRunner_doSteps_22 : decode cRunner_doSteps 22 = .ok (.getfield 32, 3) := by decide +kernel
theorem dRunner_doSteps_25 : decode cRunner_doSteps 25 = .ok (.ifCond .ne 60, 3) := by decide +kernel
theorem dRunner_doSteps_28 : decode cRunner_doSteps 28 = .ok (.aload_n 0, 1) := by decide +kernel
theorem dRunner_doSteps_29 : decode cRunner_doSteps 29 = .ok (.aload_n 0, 1) := by decide +kernel
theorem dRunner_doSteps_30 : decode cRunner_doSteps 30 = .ok (.getfield 9, 3) := by decide +kernel
theorem dRunner_doSteps_33 : decode cRunner_doSteps 33 = .ok (.iload_n 1, 1) := by decide +kernel
theorem dRunner_doSteps_34 : decode cRunner_doSteps 34 = .ok (.iload_n 3, 1) := by decide +kernel
theorem dRunner_doSteps_35 : decode cRunner_doSteps 35 = .ok (.invokevirtual 113, 3) := by decide +kernel
theorem dRunner_doSteps_38 : decode cRunner_doSteps 38 = .ok (.invokevirtual 116, 3) := by decide +kernel
theorem dRunner_doSteps_41 : decode cRunner_doSteps 41 = .ok (.istore 4, 2) := by decide +kernel
theorem dRunner_doSteps_43 : decode cRunner_doSteps 43 = .ok (.aload_n 0, 1) := by decide +kernel
theorem dRunner_doSteps_44 : decode cRunner_doSteps 44 = .ok (.aload_n 0, 1) := by decide +kernel
theorem dRunner_doSteps_45 : decode cRunner_doSteps 45 = .ok (.getfield 9, 3) := by decide +kernel
theorem dRunner_doSteps_48 : decode cRunner_doSteps 48 = .ok (.iload_n 1, 1) := by decide +kernel
theorem dRunner_doSteps_49 : decode cRunner_doSteps 49 = .ok (.iload_n 3, 1) := by decide +kernel
theorem dRunner_doSteps_50 : decode cRunner_doSteps 50 = .ok (.invokevirtual 119, 3) := by decide +kernel
theorem dRunner_doSteps_53 : decode cRunner_doSteps 53 = .ok (.invokevirtual 116, 3) := by decide +kernel
theorem dRunner_doSteps_56 : decode cRunner_doSteps 56 = .ok (.istore 5, 2) := by decide +kernel
theorem dRunner_doSteps_58 : decode cRunner_doSteps 58 = .ok (.aload_n 0, 1) := by decide +kernel
theorem dRunner_doSteps_59 : decode cRunner_doSteps 59 = .ok (.iload_n 1, 1) := by decide +kernel
theorem dRunner_doSteps_60 : decode cRunner_doSteps 60 = .ok (.iload_n 3, 1) := by decide +kernel
theorem dRunner_doSteps_61 : decode cRunner_doSteps 61 = .ok (.aload_n 0, 1) := by decide +kernel
theorem dRunner_doSteps_62 : decode cRunner_doSteps 62 = .ok (.aload_n 0, 1) := by decide +kernel
theorem dRunner_doSteps_63 : decode cRunner_doSteps 63 = .ok (.getfield 9, 3) := by decide +kernel
theorem dRunner_doSteps_66 : decode cRunner_doSteps 66 = .ok (.iload_n 1, 1) := by decide +kernel
theorem dRunner_doSteps_67 : decode cRunner_doSteps 67 = .ok (.iload_n 3, 1) := by decide +kernel
theorem dRunner_doSteps_68 : decode cRunner_doSteps 68 = .ok (.invokevirtual 122, 3) := by decide +kernel
theorem dRunner_doSteps_71 : decode cRunner_doSteps 71 = .ok (.invokevirtual 116, 3) := by decide +kernel
theorem dRunner_doSteps_74 : decode cRunner_doSteps 74 = .ok (.iload 4, 2) := by decide +kernel
theorem dRunner_doSteps_76 : decode cRunner_doSteps 76 = .ok (.iload 5, 2) := by decide +kernel
theorem dRunner_doSteps_78 : decode cRunner_doSteps 78 = .ok (.aload_n 2, 1) := by decide +kernel
theorem dRunner_doSteps_79 : decode cRunner_doSteps 79 = .ok (.invokevirtual 125, 3) := by decide +kernel
theorem dRunner_doSteps_82 : decode cRunner_doSteps 82 = .ok (.goto 47, 3) := by decide +kernel
theorem dRunner_doSteps_85 : decode cRunner_doSteps 85 = .ok (.aload_n 0, 1) := by decide +kernel
theorem dRunner_doSteps_86 : decode cRunner_doSteps 86 = .ok (.getfield 15, 3) := by decide +kernel
theorem dRunner_doSteps_89 : decode cRunner_doSteps 89 = .ok (.iload_n 1, 1) := by decide +kernel
theorem dRunner_doSteps_90 : decode cRunner_doSteps 90 = .ok (.iload_n 3, 1) := by decide +kernel
theorem dRunner_doSteps_91 : decode cRunner_doSteps 91 = .ok (.iconst 0, 1) := by decide +kernel
theorem dRunner_doSteps_92 : decode cRunner_doSteps 92 = .ok (.invokevirtual 129, 3) := by decide +kernel
theorem dRunner_doSteps_95 : decode cRunner_doSteps 95 = .ok (.istore 4, 2) := by decide +kernel
theorem dRunner_doSteps_97 : decode cRunner_doSteps 97 = .ok (.aload_n 0, 1) := by decide +kernel
theorem dRunner_doSteps_98 : decode cRunner_doSteps 98 = .ok (.getfield 15, 3) := by decide +kernel
theorem dRunner_doSteps_101 : decode cRunner_doSteps 101 = .ok (.iload_n 1, 1) := by decide +kernel
theorem dRunner_doSteps_102 : decode cRunner_doSteps 102 = .ok (.iload_n 3, 1) := by decide +kernel
theorem dRunner_doSteps_103 : decode cRunner_doSteps 103 = .ok (.iconst 1, 1) := by decide +kernel
theorem dRunner_doSteps_104 : decode cRunner_doSteps 104 = .ok (.invokevirtual 129, 3) := by decide +kernel
theorem dRunner_doSteps_107 : decode cRunner_doSteps 107 = .ok (.istore 5, 2) := by decide +kernel
theorem dRunner_doSteps_109 : decode cRunner_doSteps 109 = .ok (.aload_n 0, 1) := by decide +kernel
theorem dRunner_doSteps_110 : decode cRunner_doSteps 110 = .ok (.iload_n 1, 1) := by decide +kernel
theorem dRunner_doSteps_111 : decode cRunner_doSteps 111 = .ok (.iload_n 3, 1) := by decide +kernel
theorem dRunner_doSteps_112 : decode cRunner_doSteps 112 = .ok (.aload_n 0, 1) := by decide +kernel
theorem dRunner_doSteps_113 : decode cRunner_doSteps 113 = .ok (.getfield 15, 3) := by decide +kernel
theorem dRunner_doSteps_116 : decode cRunner_doSteps 116 = .ok (.iload_n 1, 1) := by decide +kernel
theorem dRunner_doSteps_117 : decode cRunner_doSteps 117 = .ok (.iload_n 3, 1) := by decide +kernel
theorem dRunner_doSteps_118 : decode cRunner_doSteps 118 = .ok (.invokevirtual 132, 3) := by decide +kernel
theorem dRunner_doSteps_121 : decode cRunner_doSteps 121 = .ok (.iload 4, 2) := by decide +kernel
theorem dRunner_doSteps_123 : decode cRunner_doSteps 123 = .ok (.iload 5, 2) := by decide +kernel
theorem dRunner_doSteps_125 : decode cRunner_doSteps 125 = .ok (.aload_n 2, 1) := by decide +kernel
theorem dRunner_doSteps_126 : decode cRunner_doSteps 126 = .ok (.invokevirtual 125, 3) := by decide +kernel
theorem dRunner_doSteps_129 : decode cRunner_doSteps 129 = .ok (.iinc 3 1, 3) := by decide +kernel
theorem dRunner_doSteps_132 : decode cRunner_doSteps 132 = .ok (.goto (-130), 3) := by decide +kernel
theorem dRunner_doSteps_135 : decode cRunner_doSteps 135 = .ok (.return_, 1) := by decide +kernel
theorem dRunner_doStep_0 : decode cRunner_doStep 0 = .ok (.aload_n 0, 1) := by decide +kernel
theorem dRunner_doStep_1 : decode cRunner_doStep 1 = .ok (.getfield 9, 3) := by decide +kernel
theorem dRunner_doStep_4 : decode cRunner_doStep 4 = .ok (.iload_n 1, 1) := by decide +kernel
theorem dRunner_doStep_5 : decode cRunner_doStep 5 = .ok (.iload_n 2, 1) := by decide +kernel
theorem dRunner_doStep_6 : decode cRunner_doStep 6 = .ok (.invokevirtual 135, 3) := by decide +kernel
theorem dRunner_doStep_9 : decode cRunner_doStep 9 = .ok (.istore 7, 2) := by decide +kernel
theorem dRunner_doStep_11 : decode cRunner_doStep 11 = .ok (.aload_n 0, 1) := by decide +kernel
theorem dRunner_doStep_12 : decode cRunner_doStep 12 = .ok (.iload 4, 2) := by decide +kernel
theorem dRunner_doStep_14 : decode cRunner_doStep 14 = .ok (.invokevirtual 90, 3) := by decide +kernel
theorem dRunner_doStep_17 : decode cRunner_doStep 17 = .ok (.istore 8, 2) := by decide +kernel
theorem dRunner_doStep_19 : decode cRunner_doStep 19 = .ok (.aload_n 0, 1) := by decide +kernel
theorem dRunner_doStep_20 : decode cRunner_doStep 20 = .ok (.iload 5, 2) := by decide +kernel
theorem dRunner_doStep_22 : decode cRunner_doStep 22 = .ok (.invokevirtual 90, 3) := by decide +kernel
theorem dRunner_doStep_25 : decode cRunner_doStep 25 = .ok (.istore 9, 2) := by decide +kernel
theorem dRunner_doStep_27 : decode cRunner_doStep 27 = .ok (.iload 7, 2) := by decide +kernel
theorem dRunner_doStep_29 : decode cRunner_doStep 29 = .ok (.bipush 7, 2) := by decide +kernel
theorem dRunner_doStep_31 : decode cRunner_doStep 31 = .ok (.if_icmp .ne 11, 3) := by decide +kernel
theorem dRunner_doStep_34 : decode cRunner_doStep 34 = .ok (.aload 6, 2) := by decide +kernel
theorem dRunner_doStep_36 : decode cRunner_doStep 36 = .ok (.iload 8, 2) := by decide +kernel
theorem dRunner_doStep_38 : decode cRunner_doStep 38 = .ok (.invokevirtual 138, 3) := by decide +kernel
theorem dRunner_doStep_41 : decode cRunner_doStep 41 = .ok (.return_, 1) := by decide +kernel
theorem dRunner_doStep_42 : decode cRunner_doStep 42 = .ok (.iload 7, 2) := by decide +kernel
theorem dRunner_doStep_44 : decode cRunner_doStep 44 = .ok (.iconst 5, 1) := by decide +kernel
theorem dRunner_doStep_45 : decode cRunner_doStep 45 = .ok (.if_icmp .ne 15, 3) := by decide +kernel
theorem dRunner_doStep_48 : decode cRunner_doStep 48 = .ok (.iload 9, 2) := by decide +kernel
theorem dRunner_doStep_50 : decode cRunner_doStep 50 = .ok (.ifCond .ne 10, 3) := by decide +kernel
theorem dRunner_doStep_53 : decode cRunner_doStep 53 = .ok (.aload 6, 2) := by decide +kernel
theorem dRunner_doStep_55 : decode cRunner_doStep 55 = .ok (.iconst 1, 1) := by decide +kernel
theorem dRunner_doStep_56 : decode cRunner_doStep 56 = .ok (.invokevirtual 68, 3) := by decide +kernel
theorem dRunner_doStep_59 : decode cRunner_doStep 59 = .ok (.return_, 1) := by decide +kernel
theorem dRunner_doStep_60 : decode cRunner_doStep 60 = .ok (.iload_n 3, 1) := by decide +kernel
theorem dRunner_doStep_61 : decode cRunner_doStep 61 = .ok (.iconst (-1), 1) := by decide +kernel
theorem dRunner_doStep_62 : decode cRunner_doStep 62 = .ok (.if_icmp .eq 35, 3) := by decide +kernel
theorem dRunner_doStep_65 : decode cRunner_doStep 65 = .ok (.aload_n 0, 1) := by decide +kernel
theorem dRunner_doStep_66 : decode cRunner_doStep 66 = .ok (.getfield 25, 3) := by decide +kernel
theorem dRunner_doStep_69 : decode cRunner_doStep 69 = .ok (.iload_n 3, 1) := by decide +kernel
theorem dRunner_doStep_70 : decode cRunner_doStep 70 = .ok (.iload 7, 2) := by decide +kernel
theorem dRunner_doStep_72 : decode cRunner_doStep 72 = .ok (.ifCond .ne 15, 3) := by decide +kernel
theorem dRunner_doStep_75 : decode cRunner_doStep 75 = .ok (.aload_n 0, 1) := by decide +kernel
theorem dRunner_doStep_76 : decode cRunner_doStep 76 = .ok (.getfield 9, 3) := by decide +kernel
theorem dRunner_doStep_79 : decode cRunner_doStep 79 = .ok (.iload_n 1, 1) := by decide +kernel
theorem dRunner_doStep_80 : decode cRunner_doStep 80 = .ok (.iload_n 2, 1) := by decide +kernel
theorem dRunner_doStep_81 : decode cRunner_doStep 81 = .ok (.invokevirtual 141, 3) := by decide +kernel
theorem dRunner_doStep_84 : decode cRunner_doStep 84 = .ok (.goto 12, 3) := by decide +kernel
theorem dRunner_doStep_87 : decode cRunner_doStep 87 = .ok (.iload 7, 2) := by decide +kernel
theorem dRunner_doStep_89 : decode cRunner_doStep 89 = .ok (.iload 8, 2) := by decide +kernel
theorem dRunner_doStep_91 : decode cRunner_doStep 91 = .ok (.iload 9, 2) := by decide +kernel
theorem dRunner_doStep_93 : decode cRunner_doStep 93 = .ok (.invokestatic 144, 3) := by decide +kernel
theorem dRunner_doStep_96 : decode cRunner_doStep 96 = .ok (.iastore, 1) := by decide +kernel
theorem dRunner_doStep_97 : decode cRunner_doStep 97 = .ok (.return_, 1) := by decide +kernel
theorem dRunner_reckon_0 : decode cRunner_reckon 0 = .ok (.iload_n 0, 1) := by decide +kernel
theorem dRunner_reckon_1 : decode cRunner_reckon 1 = .ok (.tableswitch 70 2 6 #[35, 39, 43, 47, 59], 35) := by decide +kernel
theorem dRunner_reckon_36 : decode cRunner_reckon 36 = .ok (.iload_n 1, 1) := by decide +kernel
theorem dRunner_reckon_37 : decode cRunner_reckon 37 = .ok (.iload_n 2, 1) := by decide +kernel
theorem dRunner_reckon_38 : decode cRunner_reckon 38 = .ok (.iadd, 1) := by decide +kernel
theorem dRunner_reckon_39 : decode cRunner_reckon 39 = .ok (.ireturn, 1) := by decide +kernel
theorem dRunner_reckon_40 : decode cRunner_reckon 40 = .ok (.iload_n 1, 1) := by decide +kernel
theorem dRunner_reckon_41 : decode cRunner_reckon 41 = .ok (.iload_n 2, 1) := by decide +kernel
theorem dRunner_reckon_42 : decode cRunner_reckon 42 = .ok (.isub, 1) := by decide +kernel
theorem dRunner_reckon_43 : decode cRunner_reckon 43 = .ok (.ireturn, 1) := by decide +kernel
theorem dRunner_reckon_44 : decode cRunner_reckon 44 = .ok (.iload_n 1, 1) := by decide +kernel
theorem dRunner_reckon_45 : decode cRunner_reckon 45 = .ok (.iload_n 2, 1) := by decide +kernel
theorem dRunner_reckon_46 : decode cRunner_reckon 46 = .ok (.imul, 1) := by decide +kernel
theorem dRunner_reckon_47 : decode cRunner_reckon 47 = .ok (.ireturn, 1) := by decide +kernel
theorem dRunner_reckon_48 : decode cRunner_reckon 48 = .ok (.iload_n 2, 1) := by decide +kernel
theorem dRunner_reckon_49 : decode cRunner_reckon 49 = .ok (.ifCond .ne 7, 3) := by decide +kernel
theorem dRunner_reckon_52 : decode cRunner_reckon 52 = .ok (.iconst 0, 1) := by decide +kernel
theorem dRunner_reckon_53 : decode cRunner_reckon 53 = .ok (.goto 6, 3) := by decide +kernel
theorem dRunner_reckon_56 : decode cRunner_reckon 56 = .ok (.iload_n 1, 1) := by decide +kernel
theorem dRunner_reckon_57 : decode cRunner_reckon 57 = .ok (.iload_n 2, 1) := by decide +kernel
theorem dRunner_reckon_58 : decode cRunner_reckon 58 = .ok (.idiv, 1) := by decide +kernel
theorem dRunner_reckon_59 : decode cRunner_reckon 59 = .ok (.ireturn, 1) := by decide +kernel
theorem dRunner_reckon_60 : decode cRunner_reckon 60 = .ok (.iload_n 1, 1) := by decide +kernel
theorem dRunner_reckon_61 : decode cRunner_reckon 61 = .ok (.iload_n 2, 1) := by decide +kernel
theorem dRunner_reckon_62 : decode cRunner_reckon 62 = .ok (.if_icmp .ge 7, 3) := by decide +kernel
theorem dRunner_reckon_65 : decode cRunner_reckon 65 = .ok (.iconst 1, 1) := by decide +kernel
theorem dRunner_reckon_66 : decode cRunner_reckon 66 = .ok (.goto 4, 3) := by decide +kernel
theorem dRunner_reckon_69 : decode cRunner_reckon 69 = .ok (.iconst 0, 1) := by decide +kernel
theorem dRunner_reckon_70 : decode cRunner_reckon 70 = .ok (.ireturn, 1) := by decide +kernel
theorem dRunner_reckon_71 : decode cRunner_reckon 71 = .ok (.iload_n 1, 1) := by decide +kernel
theorem dRunner_reckon_72 : decode cRunner_reckon 72 = .ok (.ireturn, 1) := by decide +kernel
theorem dRunner_nextBlock_0 : decode cRunner_nextBlock 0 = .ok (.aload_n 0, 1) := by decide +kernel
theorem dRunner_nextBlock_1 : decode cRunner_nextBlock 1 = .ok (.getfield 32, 3) := by decide +kernel
theorem dRunner_nextBlock_4 : decode cRunner_nextBlock 4 = .ok (.ifCond .ne 18, 3) := by decide +kernel
theorem dRunner_nextBlock_7 : decode cRunner_nextBlock 7 = .ok (.aload_n 0, 1) := by decide +kernel
theorem dRunner_nextBlock_8 : decode cRunner_nextBlock 8 = .ok (.aload_n 0, 1) := by decide +kernel
theorem dRunner_nextBlock_9 : decode cRunner_nextBlock 9 = .ok (.getfield 9, 3) := by decide +kernel
theorem dRunner_nextBlock_12 : decode cRunner_nextBlock 12 = .ok (.iload_n 1, 1) := by decide +kernel
theorem dRunner_nextBlock_13 : decode cRunner_nextBlock 13 = .ok (.invokevirtual 147, 3) := by decide +kernel
theorem dRunner_nextBlock_16 : decode cRunner_nextBlock 16 = .ok (.invokevirtual 116, 3) := by decide +kernel
theorem dRunner_nextBlock_19 : decode cRunner_nextBlock 19 = .ok (.goto 11, 3) := by decide +kernel
theorem dRunner_nextBlock_22 : decode cRunner_nextBlock 22 = .ok (.aload_n 0, 1) := by decide +kernel
theorem dRunner_nextBlock_23 : decode cRunner_nextBlock 23 = .ok (.getfield 15, 3) := by decide +kernel
theorem dRunner_nextBlock_26 : decode cRunner_nextBlock 26 = .ok (.iload_n 1, 1) := by decide +kernel
theorem dRunner_nextBlock_27 : decode cRunner_nextBlock 27 = .ok (.invokevirtual 150, 3) := by decide +kernel
theorem dRunner_nextBlock_30 : decode cRunner_nextBlock 30 = .ok (.istore_n 2, 1) := by decide +kernel
theorem dRunner_nextBlock_31 : decode cRunner_nextBlock 31 = .ok (.aload_n 0, 1) := by decide +kernel
theorem dRunner_nextBlock_32 : decode cRunner_nextBlock 32 = .ok (.getfield 9, 3) := by decide +kernel
theorem dRunner_nextBlock_35 : decode cRunner_nextBlock 35 = .ok (.iload_n 1, 1) := by decide +kernel
theorem dRunner_nextBlock_36 : decode cRunner_nextBlock 36 = .ok (.aload_n 0, 1) := by decide +kernel
theorem dRunner_nextBlock_37 : decode cRunner_nextBlock 37 = .ok (.iload_n 2, 1) := by decide +kernel
theorem dRunner_nextBlock_38 : decode cRunner_nextBlock 38 = .ok (.invokevirtual 90, 3) := by decide +kernel
theorem dRunner_nextBlock_41 : decode cRunner_nextBlock 41 = .ok (.ifCond .ne 7, 3) := by decide +kernel
theorem dRunner_nextBlock_44 : decode cRunner_nextBlock 44 = .ok (.iconst 1, 1) := by decide +kernel
theorem dRunner_nextBlock_45 : decode cRunner_nextBlock 45 = .ok (.goto 4, 3) := by decide +kernel
theorem dRunner_nextBlock_48 : decode cRunner_nextBlock 48 = .ok (.iconst 0, 1) := by decide +kernel
theorem dRunner_nextBlock_49 : decode cRunner_nextBlock 49 = .ok (.invokevirtual 153, 3) := by decide +kernel
theorem dRunner_nextBlock_52 : decode cRunner_nextBlock 52 = .ok (.ireturn, 1) := by decide +kernel
