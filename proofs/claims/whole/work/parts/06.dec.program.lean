theorem dProgram_setsVariable_0 : decode cProgram_setsVariable 0 = .ok (.iload_n 0, 1) := by decide +kernel
theorem dProgram_setsVariable_1 : decode cProgram_setsVariable 1 = .ok (.bipush 7, 2) := by decide +kernel
theorem dProgram_setsVariable_3 : decode cProgram_setsVariable 3 = .ok (.if_icmp .eq 7, 3) := by decide +kernel
theorem dProgram_setsVariable_6 : decode cProgram_setsVariable 6 = .ok (.iconst 1, 1) := by decide +kernel
theorem dProgram_setsVariable_7 : decode cProgram_setsVariable 7 = .ok (.goto 4, 3) := by decide +kernel
theorem dProgram_setsVariable_10 : decode cProgram_setsVariable 10 = .ok (.iconst 0, 1) := by decide +kernel
theorem dProgram_setsVariable_11 : decode cProgram_setsVariable 11 = .ok (.ireturn, 1) := by decide +kernel
theorem dProgram_usesFirst_0 : decode cProgram_usesFirst 0 = .ok (.iload_n 0, 1) := by decide +kernel
theorem dProgram_usesFirst_1 : decode cProgram_usesFirst 1 = .ok (.ifCond .eq 7, 3) := by decide +kernel
theorem dProgram_usesFirst_4 : decode cProgram_usesFirst 4 = .ok (.iconst 1, 1) := by decide +kernel
theorem dProgram_usesFirst_5 : decode cProgram_usesFirst 5 = .ok (.goto 4, 3) := by decide +kernel
theorem dProgram_usesFirst_8 : decode cProgram_usesFirst 8 = .ok (.iconst 0, 1) := by decide +kernel
theorem dProgram_usesFirst_9 : decode cProgram_usesFirst 9 = .ok (.ireturn, 1) := by decide +kernel
theorem dProgram_usesSecond_0 : decode cProgram_usesSecond 0 = .ok (.iload_n 0, 1) := by decide +kernel
theorem dProgram_usesSecond_1 : decode cProgram_usesSecond 1 = .ok (.iconst 2, 1) := by decide +kernel
theorem dProgram_usesSecond_2 : decode cProgram_usesSecond 2 = .ok (.if_icmp .lt 13, 3) := by decide +kernel
theorem dProgram_usesSecond_5 : decode cProgram_usesSecond 5 = .ok (.iload_n 0, 1) := by decide +kernel
theorem dProgram_usesSecond_6 : decode cProgram_usesSecond 6 = .ok (.bipush 6, 2) := by decide +kernel
theorem dProgram_usesSecond_8 : decode cProgram_usesSecond 8 = .ok (.if_icmp .gt 7, 3) := by decide +kernel
theorem dProgram_usesSecond_11 : decode cProgram_usesSecond 11 = .ok (.iconst 1, 1) := by decide +kernel
theorem dProgram_usesSecond_12 : decode cProgram_usesSecond 12 = .ok (.goto 4, 3) := by decide +kernel
theorem dProgram_usesSecond_15 : decode cProgram_usesSecond 15 = .ok (.iconst 0, 1) := by decide +kernel
theorem dProgram_usesSecond_16 : decode cProgram_usesSecond 16 = .ok (.ireturn, 1) := by decide +kernel
theorem dProgram_blockCount_0 : decode cProgram_blockCount 0 = .ok (.aload_n 0, 1) := by decide +kernel
theorem dProgram_blockCount_1 : decode cProgram_blockCount 1 = .ok (.getfield 9, 3) := by decide +kernel
theorem dProgram_blockCount_4 : decode cProgram_blockCount 4 = .ok (.ireturn, 1) := by decide +kernel
theorem dProgram_stepsOf_0 : decode cProgram_stepsOf 0 = .ok (.aload_n 0, 1) := by decide +kernel
theorem dProgram_stepsOf_1 : decode cProgram_stepsOf 1 = .ok (.getfield 15, 3) := by decide +kernel
theorem dProgram_stepsOf_4 : decode cProgram_stepsOf 4 = .ok (.iload_n 1, 1) := by decide +kernel
theorem dProgram_stepsOf_5 : decode cProgram_stepsOf 5 = .ok (.iaload, 1) := by decide +kernel
theorem dProgram_stepsOf_6 : decode cProgram_stepsOf 6 = .ok (.ireturn, 1) := by decide +kernel
theorem dProgram_addStep_0 : decode cProgram_addStep 0 = .ok (.iload_n 1, 1) := by decide +kernel
theorem dProgram_addStep_1 : decode cProgram_addStep 1 = .ok (.bipush 6, 2) := by decide +kernel
theorem dProgram_addStep_3 : decode cProgram_addStep 3 = .ok (.imul, 1) := by decide +kernel
theorem dProgram_addStep_4 : decode cProgram_addStep 4 = .ok (.aload_n 0, 1) := by decide +kernel
theorem dProgram_addStep_5 : decode cProgram_addStep 5 = .ok (.getfield 15, 3) := by decide +kernel
theorem dProgram_addStep_8 : decode cProgram_addStep 8 = .ok (.iload_n 1, 1) := by decide +kernel
theorem dProgram_addStep_9 : decode cProgram_addStep 9 = .ok (.iaload, 1) := by decide +kernel
theorem dProgram_addStep_10 : decode cProgram_addStep 10 = .ok (.iadd, 1) := by decide +kernel
theorem dProgram_addStep_11 : decode cProgram_addStep 11 = .ok (.istore 6, 2) := by decide +kernel
theorem dProgram_addStep_13 : decode cProgram_addStep 13 = .ok (.aload_n 0, 1) := by decide +kernel
theorem dProgram_addStep_14 : decode cProgram_addStep 14 = .ok (.getfield 19, 3) := by decide +kernel
theorem dProgram_addStep_17 : decode cProgram_addStep 17 = .ok (.iload 6, 2) := by decide +kernel
theorem dProgram_addStep_19 : decode cProgram_addStep 19 = .ok (.iload_n 2, 1) := by decide +kernel
theorem dProgram_addStep_20 : decode cProgram_addStep 20 = .ok (.iastore, 1) := by decide +kernel
theorem dProgram_addStep_21 : decode cProgram_addStep 21 = .ok (.aload_n 0, 1) := by decide +kernel
theorem dProgram_addStep_22 : decode cProgram_addStep 22 = .ok (.getfield 22, 3) := by decide +kernel
theorem dProgram_addStep_25 : decode cProgram_addStep 25 = .ok (.iload 6, 2) := by decide +kernel
theorem dProgram_addStep_27 : decode cProgram_addStep 27 = .ok (.iload_n 3, 1) := by decide +kernel
theorem dProgram_addStep_28 : decode cProgram_addStep 28 = .ok (.iastore, 1) := by decide +kernel
theorem dProgram_addStep_29 : decode cProgram_addStep 29 = .ok (.aload_n 0, 1) := by decide +kernel
theorem dProgram_addStep_30 : decode cProgram_addStep 30 = .ok (.getfield 25, 3) := by decide +kernel
theorem dProgram_addStep_33 : decode cProgram_addStep 33 = .ok (.iload 6, 2) := by decide +kernel
theorem dProgram_addStep_35 : decode cProgram_addStep 35 = .ok (.iload 4, 2) := by decide +kernel
theorem dProgram_addStep_37 : decode cProgram_addStep 37 = .ok (.iastore, 1) := by decide +kernel
theorem dProgram_addStep_38 : decode cProgram_addStep 38 = .ok (.aload_n 0, 1) := by decide +kernel
theorem dProgram_addStep_39 : decode cProgram_addStep 39 = .ok (.getfield 28, 3) := by decide +kernel
theorem dProgram_addStep_42 : decode cProgram_addStep 42 = .ok (.iload 6, 2) := by decide +kernel
theorem dProgram_addStep_44 : decode cProgram_addStep 44 = .ok (.iload 5, 2) := by decide +kernel
theorem dProgram_addStep_46 : decode cProgram_addStep 46 = .ok (.iastore, 1) := by decide +kernel
theorem dProgram_addStep_47 : decode cProgram_addStep 47 = .ok (.aload_n 0, 1) := by decide +kernel
theorem dProgram_addStep_48 : decode cProgram_addStep 48 = .ok (.getfield 15, 3) := by decide +kernel
theorem dProgram_addStep_51 : decode cProgram_addStep 51 = .ok (.iload_n 1, 1) := by decide +kernel
theorem dProgram_addStep_52 : decode cProgram_addStep 52 = .ok (.dup2, 1) := by decide +kernel
theorem dProgram_addStep_53 : decode cProgram_addStep 53 = .ok (.iaload, 1) := by decide +kernel
theorem dProgram_addStep_54 : decode cProgram_addStep 54 = .ok (.iconst 1, 1) := by decide +kernel
theorem dProgram_addStep_55 : decode cProgram_addStep 55 = .ok (.iadd, 1) := by decide +kernel
theorem dProgram_addStep_56 : decode cProgram_addStep 56 = .ok (.iastore, 1) := by decide +kernel
theorem dProgram_addStep_57 : decode cProgram_addStep 57 = .ok (.return_, 1) := by decide +kernel
theorem dProgram_changeEnd_0 : decode cProgram_changeEnd 0 = .ok (.aload_n 0, 1) := by decide +kernel
theorem dProgram_changeEnd_1 : decode cProgram_changeEnd 1 = .ok (.getfield 31, 3) := by decide +kernel
theorem dProgram_changeEnd_4 : decode cProgram_changeEnd 4 = .ok (.iload_n 1, 1) := by decide +kernel
theorem dProgram_changeEnd_5 : decode cProgram_changeEnd 5 = .ok (.iload_n 2, 1) := by decide +kernel
theorem dProgram_changeEnd_6 : decode cProgram_changeEnd 6 = .ok (.iastore, 1) := by decide +kernel
theorem dProgram_changeEnd_7 : decode cProgram_changeEnd 7 = .ok (.aload_n 0, 1) := by decide +kernel
theorem dProgram_changeEnd_8 : decode cProgram_changeEnd 8 = .ok (.getfield 34, 3) := by decide +kernel
theorem dProgram_changeEnd_11 : decode cProgram_changeEnd 11 = .ok (.iload_n 1, 1) := by decide +kernel
theorem dProgram_changeEnd_12 : decode cProgram_changeEnd 12 = .ok (.iload_n 3, 1) := by decide +kernel
theorem dProgram_changeEnd_13 : decode cProgram_changeEnd 13 = .ok (.iastore, 1) := by decide +kernel
theorem dProgram_changeEnd_14 : decode cProgram_changeEnd 14 = .ok (.aload_n 0, 1) := by decide +kernel
theorem dProgram_changeEnd_15 : decode cProgram_changeEnd 15 = .ok (.getfield 37, 3) := by decide +kernel
theorem dProgram_changeEnd_18 : decode cProgram_changeEnd 18 = .ok (.iload_n 1, 1) := by decide +kernel
theorem dProgram_changeEnd_19 : decode cProgram_changeEnd 19 = .ok (.iload 4, 2) := by decide +kernel
theorem dProgram_changeEnd_21 : decode cProgram_changeEnd 21 = .ok (.iastore, 1) := by decide +kernel
theorem dProgram_changeEnd_22 : decode cProgram_changeEnd 22 = .ok (.return_, 1) := by decide +kernel
theorem dProgram_changeStart_0 : decode cProgram_changeStart 0 = .ok (.aload_n 0, 1) := by decide +kernel
theorem dProgram_changeStart_1 : decode cProgram_changeStart 1 = .ok (.getfield 40, 3) := by decide +kernel
theorem dProgram_changeStart_4 : decode cProgram_changeStart 4 = .ok (.iload_n 1, 1) := by decide +kernel
theorem dProgram_changeStart_5 : decode cProgram_changeStart 5 = .ok (.iload_n 2, 1) := by decide +kernel
theorem dProgram_changeStart_6 : decode cProgram_changeStart 6 = .ok (.iastore, 1) := by decide +kernel
theorem dProgram_changeStart_7 : decode cProgram_changeStart 7 = .ok (.return_, 1) := by decide +kernel
theorem dProgram_startOf_0 : decode cProgram_startOf 0 = .ok (.aload_n 0, 1) := by decide +kernel
theorem dProgram_startOf_1 : decode cProgram_startOf 1 = .ok (.getfield 40, 3) := by decide +kernel
theorem dProgram_startOf_4 : decode cProgram_startOf 4 = .ok (.iload_n 1, 1) := by decide +kernel
theorem dProgram_startOf_5 : decode cProgram_startOf 5 = .ok (.iaload, 1) := by decide +kernel
theorem dProgram_startOf_6 : decode cProgram_startOf 6 = .ok (.ireturn, 1) := by decide +kernel
theorem dProgram_kindOf_0 : decode cProgram_kindOf 0 = .ok (.aload_n 0, 1) := by decide +kernel
theorem dProgram_kindOf_1 : decode cProgram_kindOf 1 = .ok (.getfield 19, 3) := by decide +kernel
theorem dProgram_kindOf_4 : decode cProgram_kindOf 4 = .ok (.iload_n 1, 1) := by decide +kernel
theorem dProgram_kindOf_5 : decode cProgram_kindOf 5 = .ok (.bipush 6, 2) := by decide +kernel
theorem dProgram_kindOf_7 : decode cProgram_kindOf 7 = .ok (.imul, 1) := by decide +kernel
theorem dProgram_kindOf_8 : decode cProgram_kindOf 8 = .ok (.iload_n 2, 1) := by decide +kernel
theorem dProgram_kindOf_9 : decode cProgram_kindOf 9 = .ok (.iadd, 1) := by decide +kernel
theorem dProgram_kindOf_10 : decode cProgram_kindOf 10 = .ok (.iaload, 1) := by decide +kernel
theorem dProgram_kindOf_11 : decode cProgram_kindOf 11 = .ok (.ireturn, 1) := by decide +kernel
theorem dProgram_numberPut_0 : decode cProgram_numberPut 0 = .ok (.aload_n 0, 1) := by decide +kernel
theorem dProgram_numberPut_1 : decode cProgram_numberPut 1 = .ok (.getfield 25, 3) := by decide +kernel
theorem dProgram_numberPut_4 : decode cProgram_numberPut 4 = .ok (.iload_n 1, 1) := by decide +kernel
theorem dProgram_numberPut_5 : decode cProgram_numberPut 5 = .ok (.bipush 6, 2) := by decide +kernel
theorem dProgram_numberPut_7 : decode cProgram_numberPut 7 = .ok (.imul, 1) := by decide +kernel
theorem dProgram_numberPut_8 : decode cProgram_numberPut 8 = .ok (.iload_n 2, 1) := by decide +kernel
theorem dProgram_numberPut_9 : decode cProgram_numberPut 9 = .ok (.iadd, 1) := by decide +kernel
theorem dProgram_numberPut_10 : decode cProgram_numberPut 10 = .ok (.iaload, 1) := by decide +kernel
theorem dProgram_numberPut_11 : decode cProgram_numberPut 11 = .ok (.ireturn, 1) := by decide +kernel
theorem dProgram_variableSet_0 : decode cProgram_variableSet 0 = .ok (.iload_n 1, 1) := by decide +kernel
theorem dProgram_variableSet_1 : decode cProgram_variableSet 1 = .ok (.bipush 6, 2) := by decide +kernel
theorem dProgram_variableSet_3 : decode cProgram_variableSet 3 = .ok (.imul, 1) := by decide +kernel
theorem dProgram_variableSet_4 : decode cProgram_variableSet 4 = .ok (.iload_n 2, 1) := by decide +kernel
theorem dProgram_variableSet_5 : decode cProgram_variableSet 5 = .ok (.iadd, 1) := by decide +kernel
theorem dProgram_variableSet_6 : decode cProgram_variableSet 6 = .ok (.istore_n 3, 1) := by decide +kernel
theorem dProgram_variableSet_7 : decode cProgram_variableSet 7 = .ok (.aload_n 0, 1) := by decide +kernel
theorem dProgram_variableSet_8 : decode cProgram_variableSet 8 = .ok (.getfield 19, 3) := by decide +kernel
theorem dProgram_variableSet_11 : decode cProgram_variableSet 11 = .ok (.iload_n 3, 1) := by decide +kernel
theorem dProgram_variableSet_12 : decode cProgram_variableSet 12 = .ok (.iaload, 1) := by decide +kernel
theorem dProgram_variableSet_13 : decode cProgram_variableSet 13 = .ok (.invokestatic 49, 3) := by decide +kernel
theorem dProgram_variableSet_16 : decode cProgram_variableSet 16 = .ok (.ifCond .eq 12, 3) := by decide +kernel
theorem dProgram_variableSet_19 : decode cProgram_variableSet 19 = .ok (.aload_n 0, 1) := by decide +kernel
theorem dProgram_variableSet_20 : decode cProgram_variableSet 20 = .ok (.getfield 22, 3) := by decide +kernel
theorem dProgram_variableSet_23 : decode cProgram_variableSet 23 = .ok (.iload_n 3, 1) := by decide +kernel
theorem dProgram_variableSet_24 : decode cProgram_variableSet 24 = .ok (.iaload, 1) := by decide +kernel
theorem dProgram_variableSet_25 : decode cProgram_variableSet 25 = .ok (.goto 4, 3) := by decide +kernel
theorem dProgram_variableSet_28 : decode cProgram_variableSet 28 = .ok (.iconst (-1), 1) := by decide +kernel
theorem dProgram_variableSet_29 : decode cProgram_variableSet 29 = .ok (.ireturn, 1) := by decide +kernel
theorem dProgram_firstVariable_0 : decode cProgram_firstVariable 0 = .ok (.iload_n 1, 1) := by decide +kernel
theorem dProgram_firstVariable_1 : decode cProgram_firstVariable 1 = .ok (.bipush 6, 2) := by decide +kernel
theorem dProgram_firstVariable_3 : decode cProgram_firstVariable 3 = .ok (.imul, 1) := by decide +kernel
theorem dProgram_firstVariable_4 : decode cProgram_firstVariable 4 = .ok (.iload_n 2, 1) := by decide +kernel
theorem dProgram_firstVariable_5 : decode cProgram_firstVariable 5 = .ok (.iadd, 1) := by decide +kernel
theorem dProgram_firstVariable_6 : decode cProgram_firstVariable 6 = .ok (.istore_n 3, 1) := by decide +kernel
theorem dProgram_firstVariable_7 : decode cProgram_firstVariable 7 = .ok (.aload_n 0, 1) := by decide +kernel
theorem dProgram_firstVariable_8 : decode cProgram_firstVariable 8 = .ok (.getfield 19, 3) := by decide +kernel
theorem dProgram_firstVariable_11 : decode cProgram_firstVariable 11 = .ok (.iload_n 3, 1) := by decide +kernel
theorem dProgram_firstVariable_12 : decode cProgram_firstVariable 12 = .ok (.iaload, 1) := by decide +kernel
theorem dProgram_firstVariable_13 : decode cProgram_firstVariable 13 = .ok (.invokestatic 53, 3) := by decide +kernel
theorem dProgram_firstVariable_16 : decode cProgram_firstVariable 16 = .ok (.ifCond .eq 12, 3) := by decide +kernel
theorem dProgram_firstVariable_19 : decode cProgram_firstVariable 19 = .ok (.aload_n 0, 1) := by decide +kernel
theorem dProgram_firstVariable_20 : decode cProgram_firstVariable 20 = .ok (.getfield 25, 3) := by decide +kernel
theorem dProgram_firstVariable_23 : decode cProgram_firstVariable 23 = .ok (.iload_n 3, 1) := by decide +kernel
theorem dProgram_firstVariable_24 : decode cProgram_firstVariable 24 = .ok (.iaload, 1) := by decide +kernel
theorem dProgram_firstVariable_25 : decode cProgram_firstVariable 25 = .ok (.goto 4, 3) := by decide +kernel
theorem dProgram_firstVariable_28 : decode cProgram_firstVariable 28 = .ok (.iconst (-1), 1) := by decide +kernel
theorem dProgram_firstVariable_29 : decode cProgram_firstVariable 29 = .ok (.ireturn, 1) := by decide +kernel
theorem dProgram_secondVariable_0 : decode cProgram_secondVariable 0 = .ok (.iload_n 1, 1) := by decide +kernel
theorem dProgram_secondVariable_1 : decode cProgram_secondVariable 1 = .ok (.bipush 6, 2) := by decide +kernel
theorem dProgram_secondVariable_3 : decode cProgram_secondVariable 3 = .ok (.imul, 1) := by decide +kernel
theorem dProgram_secondVariable_4 : decode cProgram_secondVariable 4 = .ok (.iload_n 2, 1) := by decide +kernel
theorem dProgram_secondVariable_5 : decode cProgram_secondVariable 5 = .ok (.iadd, 1) := by decide +kernel
theorem dProgram_secondVariable_6 : decode cProgram_secondVariable 6 = .ok (.istore_n 3, 1) := by decide +kernel
theorem dProgram_secondVariable_7 : decode cProgram_secondVariable 7 = .ok (.aload_n 0, 1) := by decide +kernel
theorem dProgram_secondVariable_8 : decode cProgram_secondVariable 8 = .ok (.getfield 19, 3) := by decide +kernel
theorem dProgram_secondVariable_11 : decode cProgram_secondVariable 11 = .ok (.iload_n 3, 1) := by decide +kernel
theorem dProgram_secondVariable_12 : decode cProgram_secondVariable 12 = .ok (.iaload, 1) := by decide +kernel
theorem dProgram_secondVariable_13 : decode cProgram_secondVariable 13 = .ok (.invokestatic 56, 3) := by decide +kernel
theorem dProgram_secondVariable_16 : decode cProgram_secondVariable 16 = .ok (.ifCond .eq 12, 3) := by decide +kernel
theorem dProgram_secondVariable_19 : decode cProgram_secondVariable 19 = .ok (.aload_n 0, 1) := by decide +kernel
theorem dProgram_secondVariable_20 : decode cProgram_secondVariable 20 = .ok (.getfield 28, 3) := by decide +kernel
theorem dProgram_secondVariable_23 : decode cProgram_secondVariable 23 = .ok (.iload_n 3, 1) := by decide +kernel
theorem dProgram_secondVariable_24 : decode cProgram_secondVariable 24 = .ok (.iaload, 1) := by decide +kernel
theorem dProgram_secondVariable_25 : decode cProgram_secondVariable 25 = .ok (.goto 4, 3) := by decide +kernel
theorem dProgram_secondVariable_28 : decode cProgram_secondVariable 28 = .ok (.iconst (-1), 1) := by decide +kernel
theorem dProgram_secondVariable_29 : decode cProgram_secondVariable 29 = .ok (.ireturn, 1) := by decide +kernel
theorem dProgram_variableOfFork_0 : decode cProgram_variableOfFork 0 = .ok (.aload_n 0, 1) := by decide +kernel
theorem dProgram_variableOfFork_1 : decode cProgram_variableOfFork 1 = .ok (.getfield 31, 3) := by decide +kernel
theorem dProgram_variableOfFork_4 : decode cProgram_variableOfFork 4 = .ok (.iload_n 1, 1) := by decide +kernel
theorem dProgram_variableOfFork_5 : decode cProgram_variableOfFork 5 = .ok (.iaload, 1) := by decide +kernel
theorem dProgram_variableOfFork_6 : decode cProgram_variableOfFork 6 = .ok (.ireturn, 1) := by decide +kernel
theorem dProgram_blockAfter_0 : decode cProgram_blockAfter 0 = .ok (.iload_n 2, 1) := by decide +kernel
theorem dProgram_blockAfter_1 : decode cProgram_blockAfter 1 = .ok (.ifCond .eq 12, 3) := by decide +kernel
theorem dProgram_blockAfter_4 : decode cProgram_blockAfter 4 = .ok (.aload_n 0, 1) := by decide +kernel
theorem dProgram_blockAfter_5 : decode cProgram_blockAfter 5 = .ok (.getfield 37, 3) := by decide +kernel
theorem dProgram_blockAfter_8 : decode cProgram_blockAfter 8 = .ok (.iload_n 1, 1) := by decide +kernel
theorem dProgram_blockAfter_9 : decode cProgram_blockAfter 9 = .ok (.iaload, 1) := by decide +kernel
theorem dProgram_blockAfter_10 : decode cProgram_blockAfter 10 = .ok (.goto 9, 3) := by decide +kernel
theorem dProgram_blockAfter_13 : decode cProgram_blockAfter 13 = .ok (.aload_n 0, 1) := by decide +kernel
theorem dProgram_blockAfter_14 : decode cProgram_blockAfter 14 = .ok (.getfield 34, 3) := by decide +kernel
theorem dProgram_blockAfter_17 : decode cProgram_blockAfter 17 = .ok (.iload_n 1, 1) := by decide +kernel
theorem dProgram_blockAfter_18 : decode cProgram_blockAfter 18 = .ok (.iaload, 1) := by decide +kernel
theorem dProgram_blockAfter_19 : decode cProgram_blockAfter 19 = .ok (.ireturn, 1) := by decide +kernel
theorem dProgram_followers_0 : decode cProgram_followers 0 = .ok (.aload_n 0, 1) := by decide +kernel
theorem dProgram_followers_1 : decode cProgram_followers 1 = .ok (.getfield 34, 3) := by decide +kernel
theorem dProgram_followers_4 : decode cProgram_followers 4 = .ok (.iload_n 1, 1) := by decide +kernel
theorem dProgram_followers_5 : decode cProgram_followers 5 = .ok (.iaload, 1) := by decide +kernel
theorem dProgram_followers_6 : decode cProgram_followers 6 = .ok (.iconst (-1), 1) := by decide +kernel
theorem dProgram_followers_7 : decode cProgram_followers 7 = .ok (.if_icmp .ne 7, 3) := by decide +kernel
theorem dProgram_followers_10 : decode cProgram_followers 10 = .ok (.iconst 0, 1) := by decide +kernel
theorem dProgram_followers_11 : decode cProgram_followers 11 = .ok (.goto 20, 3) := by decide +kernel
theorem dProgram_followers_14 : decode cProgram_followers 14 = .ok (.iconst 1, 1) := by decide +kernel
theorem dProgram_followers_15 : decode cProgram_followers 15 = .ok (.aload_n 0, 1) := by decide +kernel
theorem dProgram_followers_16 : decode cProgram_followers 16 = .ok (.getfield 34, 3) := by decide +kernel
theorem dProgram_followers_19 : decode cProgram_followers 19 = .ok (.iload_n 1, 1) := by decide +kernel
theorem dProgram_followers_20 : decode cProgram_followers 20 = .ok (.iaload, 1) := by decide +kernel
theorem dProgram_followers_21 : decode cProgram_followers 21 = .ok (.ishl, 1) := by decide +kernel
theorem dProgram_followers_22 : decode cProgram_followers 22 = .ok (.iconst 1, 1) := by decide +kernel
theorem dProgram_followers_23 : decode cProgram_followers 23 = .ok (.aload_n 0, 1) := by decide +kernel
theorem dProgram_followers_24 : decode cProgram_followers 24 = .ok (.getfield 37, 3) := by decide +kernel
theorem dProgram_followers_27 : decode cProgram_followers 27 = .ok (.iload_n 1, 1) := by decide +kernel
theorem dProgram_followers_28 : decode cProgram_followers 28 = .ok (.iaload, 1) := by decide +kernel
theorem dProgram_followers_29 : decode cProgram_followers 29 = .ok (.ishl, 1) := by decide +kernel
theorem dProgram_followers_30 : decode cProgram_followers 30 = .ok (.ior, 1) := by decide +kernel
theorem dProgram_followers_31 : decode cProgram_followers 31 = .ok (.ireturn, 1) := by decide +kernel
theorem dProgram_setsInBlock_0 : decode cProgram_setsInBlock 0 = .ok (.iconst 0, 1) := by decide +kernel
theorem dProgram_setsInBlock_1 : decode cProgram_setsInBlock 1 = .ok (.istore_n 3, 1) := by decide +kernel
theorem dProgram_setsInBlock_2 : decode cProgram_setsInBlock 2 = .ok (.iload_n 3, 1) := by decide +kernel
theorem dProgram_setsInBlock_3 : decode cProgram_setsInBlock 3 = .ok (.aload_n 0, 1) := by decide +kernel
theorem dProgram_setsInBlock_4 : decode cProgram_setsInBlock 4 = .ok (.getfield 15, 3) := by decide +kernel
theorem dProgram_setsInBlock_7 : decode cProgram_setsInBlock 7 = .ok (.iload_n 1, 1) := by decide +kernel
theorem dProgram_setsInBlock_8 : decode cProgram_setsInBlock 8 = .ok (.iaload, 1) := by decide +kernel
theorem dProgram_setsInBlock_9 : decode cProgram_setsInBlock 9 = .ok (.if_icmp .ge 21, 3) := by decide +kernel
theorem dProgram_setsInBlock_12 : decode cProgram_setsInBlock 12 = .ok (.aload_n 0, 1) := by decide +kernel
theorem dProgram_setsInBlock_13 : decode cProgram_setsInBlock 13 = .ok (.iload_n 1, 1) := by decide +kernel
theorem dProgram_setsInBlock_14 : decode cProgram_setsInBlock 14 = .ok (.iload_n 3, 1) := by decide +kernel
theorem dProgram_setsInBlock_15 : decode cProgram_setsInBlock 15 = .ok (.invokevirtual 59, 3) := by decide +kernel
theorem dProgram_setsInBlock_18 : decode cProgram_setsInBlock 18 = .ok (.iload_n 2, 1) := by decide +kernel
theorem dProgram_setsInBlock_19 : decode cProgram_setsInBlock 19 = .ok (.if_icmp .ne 5, 3) := by decide +kernel
theorem dProgram_setsInBlock_22 : decode cProgram_setsInBlock 22 = .ok (.iconst 1, 1) := by decide +kernel
theorem dProgram_setsInBlock_23 : decode cProgram_setsInBlock 23 = .ok (.ireturn, 1) := by decide +kernel
theorem dProgram_setsInBlock_24 : decode cProgram_setsInBlock 24 = .ok (.iinc 3 1, 3) := by decide +kernel
theorem dProgram_setsInBlock_27 : decode cProgram_setsInBlock 27 = .ok (.goto (-25), 3) := by decide +kernel
theorem dProgram_setsInBlock_30 : decode cProgram_setsInBlock 30 = .ok (.iconst 0, 1) := by decide +kernel
theorem dProgram_setsInBlock_31 : decode cProgram_setsInBlock 31 = .ok (.ireturn, 1) := by decide +kernel
