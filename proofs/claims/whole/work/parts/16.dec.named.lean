theorem dNamedForm_assemble_0 : decode cNamedForm_assemble 0 = .ok (.aload_n 0, 1) := by decide +kernel
theorem dNamedForm_assemble_1 : decode cNamedForm_assemble 1 = .ok (.invokevirtual 63, 3) := by decide +kernel
theorem dNamedForm_assemble_4 : decode cNamedForm_assemble 4 = .ok (.iconst 0, 1) := by decide +kernel
theorem dNamedForm_assemble_5 : decode cNamedForm_assemble 5 = .ok (.istore_n 1, 1) := by decide +kernel
theorem dNamedForm_assemble_6 : decode cNamedForm_assemble 6 = .ok (.iload_n 1, 1) := by decide +kernel
theorem dNamedForm_assemble_7 : decode cNamedForm_assemble 7 = .ok (.bipush 6, 2) := by decide +kernel
theorem dNamedForm_assemble_9 : decode cNamedForm_assemble 9 = .ok (.if_icmp .ge 20, 3) := by decide +kernel
theorem dNamedForm_assemble_12 : decode cNamedForm_assemble 12 = .ok (.aload_n 0, 1) := by decide +kernel
theorem dNamedForm_assemble_13 : decode cNamedForm_assemble 13 = .ok (.iload_n 1, 1) := by decide +kernel
theorem dNamedForm_assemble_14 : decode cNamedForm_assemble 14 = .ok (.aload_n 0, 1) := by decide +kernel
theorem dNamedForm_assemble_15 : decode cNamedForm_assemble 15 = .ok (.getfield 25, 3) := by decide +kernel
theorem dNamedForm_assemble_18 : decode cNamedForm_assemble 18 = .ok (.iconst (-1), 1) := by decide +kernel
theorem dNamedForm_assemble_19 : decode cNamedForm_assemble 19 = .ok (.invokevirtual 66, 3) := by decide +kernel
theorem dNamedForm_assemble_22 : decode cNamedForm_assemble 22 = .ok (.pop, 1) := by decide +kernel
theorem dNamedForm_assemble_23 : decode cNamedForm_assemble 23 = .ok (.iinc 1 1, 3) := by decide +kernel
theorem dNamedForm_assemble_26 : decode cNamedForm_assemble 26 = .ok (.goto (-20), 3) := by decide +kernel
theorem dNamedForm_assemble_29 : decode cNamedForm_assemble 29 = .ok (.iconst 0, 1) := by decide +kernel
theorem dNamedForm_assemble_30 : decode cNamedForm_assemble 30 = .ok (.istore_n 1, 1) := by decide +kernel
theorem dNamedForm_assemble_31 : decode cNamedForm_assemble 31 = .ok (.iload_n 1, 1) := by decide +kernel
theorem dNamedForm_assemble_32 : decode cNamedForm_assemble 32 = .ok (.aload_n 0, 1) := by decide +kernel
theorem dNamedForm_assemble_33 : decode cNamedForm_assemble 33 = .ok (.getfield 15, 3) := by decide +kernel
theorem dNamedForm_assemble_36 : decode cNamedForm_assemble 36 = .ok (.invokevirtual 70, 3) := by decide +kernel
theorem dNamedForm_assemble_39 : decode cNamedForm_assemble 39 = .ok (.if_icmp .ge 21, 3) := by decide +kernel
theorem dNamedForm_assemble_42 : decode cNamedForm_assemble 42 = .ok (.aload_n 0, 1) := by decide +kernel
theorem dNamedForm_assemble_43 : decode cNamedForm_assemble 43 = .ok (.aload_n 0, 1) := by decide +kernel
theorem dNamedForm_assemble_44 : decode cNamedForm_assemble 44 = .ok (.getfield 15, 3) := by decide +kernel
theorem dNamedForm_assemble_47 : decode cNamedForm_assemble 47 = .ok (.iload_n 1, 1) := by decide +kernel
theorem dNamedForm_assemble_48 : decode cNamedForm_assemble 48 = .ok (.invokevirtual 75, 3) := by decide +kernel
theorem dNamedForm_assemble_51 : decode cNamedForm_assemble 51 = .ok (.invokevirtual 79, 3) := by decide +kernel
theorem dNamedForm_assemble_54 : decode cNamedForm_assemble 54 = .ok (.iinc 1 1, 3) := by decide +kernel
theorem dNamedForm_assemble_57 : decode cNamedForm_assemble 57 = .ok (.goto (-26), 3) := by decide +kernel
theorem dNamedForm_assemble_60 : decode cNamedForm_assemble 60 = .ok (.aload_n 0, 1) := by decide +kernel
theorem dNamedForm_assemble_61 : decode cNamedForm_assemble 61 = .ok (.invokevirtual 83, 3) := by decide +kernel
theorem dNamedForm_assemble_64 : decode cNamedForm_assemble 64 = .ok (.iconst 0, 1) := by decide +kernel
theorem dNamedForm_assemble_65 : decode cNamedForm_assemble 65 = .ok (.istore_n 1, 1) := by decide +kernel
theorem dNamedForm_assemble_66 : decode cNamedForm_assemble 66 = .ok (.iconst 0, 1) := by decide +kernel
theorem dNamedForm_assemble_67 : decode cNamedForm_assemble 67 = .ok (.istore_n 2, 1) := by decide +kernel
theorem dNamedForm_assemble_68 : decode cNamedForm_assemble 68 = .ok (.iload_n 2, 1) := by decide +kernel
theorem dNamedForm_assemble_69 : decode cNamedForm_assemble 69 = .ok (.bipush 6, 2) := by decide +kernel
theorem dNamedForm_assemble_71 : decode cNamedForm_assemble 71 = .ok (.if_icmp .ge 18, 3) := by decide +kernel
theorem dNamedForm_assemble_74 : decode cNamedForm_assemble 74 = .ok (.iload_n 1, 1) := by decide +kernel
theorem dNamedForm_assemble_75 : decode cNamedForm_assemble 75 = .ok (.aload_n 0, 1) := by decide +kernel
theorem dNamedForm_assemble_76 : decode cNamedForm_assemble 76 = .ok (.getfield 51, 3) := by decide +kernel
theorem dNamedForm_assemble_79 : decode cNamedForm_assemble 79 = .ok (.iload_n 2, 1) := by decide +kernel
theorem dNamedForm_assemble_80 : decode cNamedForm_assemble 80 = .ok (.iaload, 1) := by decide +kernel
theorem dNamedForm_assemble_81 : decode cNamedForm_assemble 81 = .ok (.iadd, 1) := by decide +kernel
theorem dNamedForm_assemble_82 : decode cNamedForm_assemble 82 = .ok (.istore_n 1, 1) := by decide +kernel
theorem dNamedForm_assemble_83 : decode cNamedForm_assemble 83 = .ok (.iinc 2 1, 3) := by decide +kernel
theorem dNamedForm_assemble_86 : decode cNamedForm_assemble 86 = .ok (.goto (-18), 3) := by decide +kernel
theorem dNamedForm_assemble_89 : decode cNamedForm_assemble 89 = .ok (.iload_n 1, 1) := by decide +kernel
theorem dNamedForm_assemble_90 : decode cNamedForm_assemble 90 = .ok (.ireturn, 1) := by decide +kernel
theorem dNamedForm_forgetAll_0 : decode cNamedForm_forgetAll 0 = .ok (.aload_n 0, 1) := by decide +kernel
theorem dNamedForm_forgetAll_1 : decode cNamedForm_forgetAll 1 = .ok (.getfield 29, 3) := by decide +kernel
theorem dNamedForm_forgetAll_4 : decode cNamedForm_forgetAll 4 = .ok (.iconst (-1), 1) := by decide +kernel
theorem dNamedForm_forgetAll_5 : decode cNamedForm_forgetAll 5 = .ok (.invokestatic 86, 3) := by decide +kernel
theorem dNamedForm_forgetAll_8 : decode cNamedForm_forgetAll 8 = .ok (.aload_n 0, 1) := by decide +kernel
theorem dNamedForm_forgetAll_9 : decode cNamedForm_forgetAll 9 = .ok (.getfield 33, 3) := by decide +kernel
theorem dNamedForm_forgetAll_12 : decode cNamedForm_forgetAll 12 = .ok (.iconst (-1), 1) := by decide +kernel
theorem dNamedForm_forgetAll_13 : decode cNamedForm_forgetAll 13 = .ok (.invokestatic 86, 3) := by decide +kernel
theorem dNamedForm_forgetAll_16 : decode cNamedForm_forgetAll 16 = .ok (.aload_n 0, 1) := by decide +kernel
theorem dNamedForm_forgetAll_17 : decode cNamedForm_forgetAll 17 = .ok (.getfield 36, 3) := by decide +kernel
theorem dNamedForm_forgetAll_20 : decode cNamedForm_forgetAll 20 = .ok (.iconst (-1), 1) := by decide +kernel
theorem dNamedForm_forgetAll_21 : decode cNamedForm_forgetAll 21 = .ok (.invokestatic 86, 3) := by decide +kernel
theorem dNamedForm_forgetAll_24 : decode cNamedForm_forgetAll 24 = .ok (.aload_n 0, 1) := by decide +kernel
theorem dNamedForm_forgetAll_25 : decode cNamedForm_forgetAll 25 = .ok (.getfield 39, 3) := by decide +kernel
theorem dNamedForm_forgetAll_28 : decode cNamedForm_forgetAll 28 = .ok (.iconst (-1), 1) := by decide +kernel
theorem dNamedForm_forgetAll_29 : decode cNamedForm_forgetAll 29 = .ok (.invokestatic 86, 3) := by decide +kernel
theorem dNamedForm_forgetAll_32 : decode cNamedForm_forgetAll 32 = .ok (.aload_n 0, 1) := by decide +kernel
theorem dNamedForm_forgetAll_33 : decode cNamedForm_forgetAll 33 = .ok (.getfield 42, 3) := by decide +kernel
theorem dNamedForm_forgetAll_36 : decode cNamedForm_forgetAll 36 = .ok (.iconst (-1), 1) := by decide +kernel
theorem dNamedForm_forgetAll_37 : decode cNamedForm_forgetAll 37 = .ok (.invokestatic 86, 3) := by decide +kernel
theorem dNamedForm_forgetAll_40 : decode cNamedForm_forgetAll 40 = .ok (.aload_n 0, 1) := by decide +kernel
theorem dNamedForm_forgetAll_41 : decode cNamedForm_forgetAll 41 = .ok (.getfield 45, 3) := by decide +kernel
theorem dNamedForm_forgetAll_44 : decode cNamedForm_forgetAll 44 = .ok (.iconst (-1), 1) := by decide +kernel
theorem dNamedForm_forgetAll_45 : decode cNamedForm_forgetAll 45 = .ok (.invokestatic 86, 3) := by decide +kernel
theorem dNamedForm_forgetAll_48 : decode cNamedForm_forgetAll 48 = .ok (.aload_n 0, 1) := by decide +kernel
theorem dNamedForm_forgetAll_49 : decode cNamedForm_forgetAll 49 = .ok (.getfield 51, 3) := by decide +kernel
theorem dNamedForm_forgetAll_52 : decode cNamedForm_forgetAll 52 = .ok (.iconst 0, 1) := by decide +kernel
theorem dNamedForm_forgetAll_53 : decode cNamedForm_forgetAll 53 = .ok (.invokestatic 86, 3) := by decide +kernel
theorem dNamedForm_forgetAll_56 : decode cNamedForm_forgetAll 56 = .ok (.aload_n 0, 1) := by decide +kernel
theorem dNamedForm_forgetAll_57 : decode cNamedForm_forgetAll 57 = .ok (.getfield 54, 3) := by decide +kernel
theorem dNamedForm_forgetAll_60 : decode cNamedForm_forgetAll 60 = .ok (.iconst (-1), 1) := by decide +kernel
theorem dNamedForm_forgetAll_61 : decode cNamedForm_forgetAll 61 = .ok (.invokestatic 86, 3) := by decide +kernel
theorem dNamedForm_forgetAll_64 : decode cNamedForm_forgetAll 64 = .ok (.iconst 0, 1) := by decide +kernel
theorem dNamedForm_forgetAll_65 : decode cNamedForm_forgetAll 65 = .ok (.istore_n 1, 1) := by decide +kernel
theorem dNamedForm_forgetAll_66 : decode cNamedForm_forgetAll 66 = .ok (.iload_n 1, 1) := by decide +kernel
theorem dNamedForm_forgetAll_67 : decode cNamedForm_forgetAll 67 = .ok (.bipush 6, 2) := by decide +kernel
theorem dNamedForm_forgetAll_69 : decode cNamedForm_forgetAll 69 = .ok (.if_icmp .ge 14, 3) := by decide +kernel
theorem dNamedForm_forgetAll_72 : decode cNamedForm_forgetAll 72 = .ok (.aload_n 0, 1) := by decide +kernel
theorem dNamedForm_forgetAll_73 : decode cNamedForm_forgetAll 73 = .ok (.iload_n 1, 1) := by decide +kernel
theorem dNamedForm_forgetAll_74 : decode cNamedForm_forgetAll 74 = .ok (.invokevirtual 92, 3) := by decide +kernel
theorem dNamedForm_forgetAll_77 : decode cNamedForm_forgetAll 77 = .ok (.iinc 1 1, 3) := by decide +kernel
theorem dNamedForm_forgetAll_80 : decode cNamedForm_forgetAll 80 = .ok (.goto (-14), 3) := by decide +kernel
theorem dNamedForm_forgetAll_83 : decode cNamedForm_forgetAll 83 = .ok (.return_, 1) := by decide +kernel
theorem dNamedForm_markMeetings_0 : decode cNamedForm_markMeetings 0 = .ok (.iconst 0, 1) := by decide +kernel
theorem dNamedForm_markMeetings_1 : decode cNamedForm_markMeetings 1 = .ok (.istore_n 2, 1) := by decide +kernel
theorem dNamedForm_markMeetings_2 : decode cNamedForm_markMeetings 2 = .ok (.iconst 0, 1) := by decide +kernel
theorem dNamedForm_markMeetings_3 : decode cNamedForm_markMeetings 3 = .ok (.istore_n 3, 1) := by decide +kernel
theorem dNamedForm_markMeetings_4 : decode cNamedForm_markMeetings 4 = .ok (.iload_n 3, 1) := by decide +kernel
theorem dNamedForm_markMeetings_5 : decode cNamedForm_markMeetings 5 = .ok (.aload_n 0, 1) := by decide +kernel
theorem dNamedForm_markMeetings_6 : decode cNamedForm_markMeetings 6 = .ok (.getfield 15, 3) := by decide +kernel
theorem dNamedForm_markMeetings_9 : decode cNamedForm_markMeetings 9 = .ok (.invokevirtual 70, 3) := by decide +kernel
theorem dNamedForm_markMeetings_12 : decode cNamedForm_markMeetings 12 = .ok (.if_icmp .ge 39, 3) := by decide +kernel
theorem dNamedForm_markMeetings_15 : decode cNamedForm_markMeetings 15 = .ok (.aload_n 0, 1) := by decide +kernel
theorem dNamedForm_markMeetings_16 : decode cNamedForm_markMeetings 16 = .ok (.getfield 15, 3) := by decide +kernel
theorem dNamedForm_markMeetings_19 : decode cNamedForm_markMeetings 19 = .ok (.iload_n 3, 1) := by decide +kernel
theorem dNamedForm_markMeetings_20 : decode cNamedForm_markMeetings 20 = .ok (.invokevirtual 75, 3) := by decide +kernel
theorem dNamedForm_markMeetings_23 : decode cNamedForm_markMeetings 23 = .ok (.istore 4, 2) := by decide +kernel
theorem dNamedForm_markMeetings_25 : decode cNamedForm_markMeetings 25 = .ok (.aload_n 0, 1) := by decide +kernel
theorem dNamedForm_markMeetings_26 : decode cNamedForm_markMeetings 26 = .ok (.getfield 11, 3) := by decide +kernel
theorem dNamedForm_markMeetings_29 : decode cNamedForm_markMeetings 29 = .ok (.iload 4, 2) := by decide +kernel
theorem dNamedForm_markMeetings_31 : decode cNamedForm_markMeetings 31 = .ok (.iload_n 1, 1) := by decide +kernel
theorem dNamedForm_markMeetings_32 : decode cNamedForm_markMeetings 32 = .ok (.invokevirtual 95, 3) := by decide +kernel
theorem dNamedForm_markMeetings_35 : decode cNamedForm_markMeetings 35 = .ok (.ifCond .eq 10, 3) := by decide +kernel
theorem dNamedForm_markMeetings_38 : decode cNamedForm_markMeetings 38 = .ok (.iload_n 2, 1) := by decide +kernel
theorem dNamedForm_markMeetings_39 : decode cNamedForm_markMeetings 39 = .ok (.iconst 1, 1) := by decide +kernel
theorem dNamedForm_markMeetings_40 : decode cNamedForm_markMeetings 40 = .ok (.iload 4, 2) := by decide +kernel
theorem dNamedForm_markMeetings_42 : decode cNamedForm_markMeetings 42 = .ok (.ishl, 1) := by decide +kernel
theorem dNamedForm_markMeetings_43 : decode cNamedForm_markMeetings 43 = .ok (.ior, 1) := by decide +kernel
theorem dNamedForm_markMeetings_44 : decode cNamedForm_markMeetings 44 = .ok (.istore_n 2, 1) := by decide +kernel
theorem dNamedForm_markMeetings_45 : decode cNamedForm_markMeetings 45 = .ok (.iinc 3 1, 3) := by decide +kernel
theorem dNamedForm_markMeetings_48 : decode cNamedForm_markMeetings 48 = .ok (.goto (-44), 3) := by decide +kernel
theorem dNamedForm_markMeetings_51 : decode cNamedForm_markMeetings 51 = .ok (.iconst 0, 1) := by decide +kernel
theorem dNamedForm_markMeetings_52 : decode cNamedForm_markMeetings 52 = .ok (.istore_n 3, 1) := by decide +kernel
theorem dNamedForm_markMeetings_53 : decode cNamedForm_markMeetings 53 = .ok (.iconst 0, 1) := by decide +kernel
theorem dNamedForm_markMeetings_54 : decode cNamedForm_markMeetings 54 = .ok (.istore 4, 2) := by decide +kernel
theorem dNamedForm_markMeetings_56 : decode cNamedForm_markMeetings 56 = .ok (.iload 4, 2) := by decide +kernel
theorem dNamedForm_markMeetings_58 : decode cNamedForm_markMeetings 58 = .ok (.aload_n 0, 1) := by decide +kernel
theorem dNamedForm_markMeetings_59 : decode cNamedForm_markMeetings 59 = .ok (.getfield 25, 3) := by decide +kernel
theorem dNamedForm_markMeetings_62 : decode cNamedForm_markMeetings 62 = .ok (.if_icmp .ge 20, 3) := by decide +kernel
theorem dNamedForm_markMeetings_65 : decode cNamedForm_markMeetings 65 = .ok (.aload_n 0, 1) := by decide +kernel
theorem dNamedForm_markMeetings_66 : decode cNamedForm_markMeetings 66 = .ok (.getfield 15, 3) := by decide +kernel
theorem dNamedForm_markMeetings_69 : decode cNamedForm_markMeetings 69 = .ok (.iload_n 2, 1) := by decide +kernel
theorem dNamedForm_markMeetings_70 : decode cNamedForm_markMeetings 70 = .ok (.iload_n 3, 1) := by decide +kernel
theorem dNamedForm_markMeetings_71 : decode cNamedForm_markMeetings 71 = .ok (.ior, 1) := by decide +kernel
theorem dNamedForm_markMeetings_72 : decode cNamedForm_markMeetings 72 = .ok (.invokevirtual 99, 3) := by decide +kernel
theorem dNamedForm_markMeetings_75 : decode cNamedForm_markMeetings 75 = .ok (.istore_n 3, 1) := by decide +kernel
theorem dNamedForm_markMeetings_76 : decode cNamedForm_markMeetings 76 = .ok (.iinc 4 1, 3) := by decide +kernel
theorem dNamedForm_markMeetings_79 : decode cNamedForm_markMeetings 79 = .ok (.goto (-23), 3) := by decide +kernel
theorem dNamedForm_markMeetings_82 : decode cNamedForm_markMeetings 82 = .ok (.iconst 0, 1) := by decide +kernel
theorem dNamedForm_markMeetings_83 : decode cNamedForm_markMeetings 83 = .ok (.istore 4, 2) := by decide +kernel
theorem dNamedForm_markMeetings_85 : decode cNamedForm_markMeetings 85 = .ok (.iload 4, 2) := by decide +kernel
theorem dNamedForm_markMeetings_87 : decode cNamedForm_markMeetings 87 = .ok (.aload_n 0, 1) := by decide +kernel
theorem dNamedForm_markMeetings_88 : decode cNamedForm_markMeetings 88 = .ok (.getfield 25, 3) := by decide +kernel
theorem dNamedForm_markMeetings_91 : decode cNamedForm_markMeetings 91 = .ok (.if_icmp .ge 31, 3) := by decide +kernel
theorem dNamedForm_markMeetings_94 : decode cNamedForm_markMeetings 94 = .ok (.iload_n 3, 1) := by decide +kernel
theorem dNamedForm_markMeetings_95 : decode cNamedForm_markMeetings 95 = .ok (.iload 4, 2) := by decide +kernel
theorem dNamedForm_markMeetings_97 : decode cNamedForm_markMeetings 97 = .ok (.invokestatic 102, 3) := by decide +kernel
theorem dNamedForm_markMeetings_100 : decode cNamedForm_markMeetings 100 = .ok (.ifCond .eq 16, 3) := by decide +kernel
theorem dNamedForm_markMeetings_103 : decode cNamedForm_markMeetings 103 = .ok (.aload_n 0, 1) := by decide +kernel
theorem dNamedForm_markMeetings_104 : decode cNamedForm_markMeetings 104 = .ok (.getfield 29, 3) := by decide +kernel
theorem dNamedForm_markMeetings_107 : decode cNamedForm_markMeetings 107 = .ok (.iload 4, 2) := by decide +kernel
theorem dNamedForm_markMeetings_109 : decode cNamedForm_markMeetings 109 = .ok (.bipush 6, 2) := by decide +kernel
theorem dNamedForm_markMeetings_111 : decode cNamedForm_markMeetings 111 = .ok (.imul, 1) := by decide +kernel
theorem dNamedForm_markMeetings_112 : decode cNamedForm_markMeetings 112 = .ok (.iload_n 1, 1) := by decide +kernel
theorem dNamedForm_markMeetings_113 : decode cNamedForm_markMeetings 113 = .ok (.iadd, 1) := by decide +kernel
theorem dNamedForm_markMeetings_114 : decode cNamedForm_markMeetings 114 = .ok (.iconst 0, 1) := by decide +kernel
theorem dNamedForm_markMeetings_115 : decode cNamedForm_markMeetings 115 = .ok (.iastore, 1) := by decide +kernel
theorem dNamedForm_markMeetings_116 : decode cNamedForm_markMeetings 116 = .ok (.iinc 4 1, 3) := by decide +kernel
theorem dNamedForm_markMeetings_119 : decode cNamedForm_markMeetings 119 = .ok (.goto (-34), 3) := by decide +kernel
theorem dNamedForm_markMeetings_122 : decode cNamedForm_markMeetings 122 = .ok (.return_, 1) := by decide +kernel
theorem dNamedForm_newName_0 : decode cNamedForm_newName 0 = .ok (.bipush 100, 2) := by decide +kernel
theorem dNamedForm_newName_2 : decode cNamedForm_newName 2 = .ok (.iload_n 1, 1) := by decide +kernel
theorem dNamedForm_newName_3 : decode cNamedForm_newName 3 = .ok (.imul, 1) := by decide +kernel
theorem dNamedForm_newName_4 : decode cNamedForm_newName 4 = .ok (.aload_n 0, 1) := by decide +kernel
theorem dNamedForm_newName_5 : decode cNamedForm_newName 5 = .ok (.getfield 51, 3) := by decide +kernel
theorem dNamedForm_newName_8 : decode cNamedForm_newName 8 = .ok (.iload_n 1, 1) := by decide +kernel
theorem dNamedForm_newName_9 : decode cNamedForm_newName 9 = .ok (.iaload, 1) := by decide +kernel
theorem dNamedForm_newName_10 : decode cNamedForm_newName 10 = .ok (.iadd, 1) := by decide +kernel
theorem dNamedForm_newName_11 : decode cNamedForm_newName 11 = .ok (.istore 4, 2) := by decide +kernel
theorem dNamedForm_newName_13 : decode cNamedForm_newName 13 = .ok (.aload_n 0, 1) := by decide +kernel
theorem dNamedForm_newName_14 : decode cNamedForm_newName 14 = .ok (.getfield 51, 3) := by decide +kernel
theorem dNamedForm_newName_17 : decode cNamedForm_newName 17 = .ok (.iload_n 1, 1) := by decide +kernel
theorem dNamedForm_newName_18 : decode cNamedForm_newName 18 = .ok (.dup2, 1) := by decide +kernel
theorem dNamedForm_newName_19 : decode cNamedForm_newName 19 = .ok (.iaload, 1) := by decide +kernel
theorem dNamedForm_newName_20 : decode cNamedForm_newName 20 = .ok (.iconst 1, 1) := by decide +kernel
theorem dNamedForm_newName_21 : decode cNamedForm_newName 21 = .ok (.iadd, 1) := by decide +kernel
theorem dNamedForm_newName_22 : decode cNamedForm_newName 22 = .ok (.iastore, 1) := by decide +kernel
theorem dNamedForm_newName_23 : decode cNamedForm_newName 23 = .ok (.aload_n 0, 1) := by decide +kernel
theorem dNamedForm_newName_24 : decode cNamedForm_newName 24 = .ok (.getfield 54, 3) := by decide +kernel
theorem dNamedForm_newName_27 : decode cNamedForm_newName 27 = .ok (.iload 4, 2) := by decide +kernel
theorem dNamedForm_newName_29 : decode cNamedForm_newName 29 = .ok (.iload_n 2, 1) := by decide +kernel
theorem dNamedForm_newName_30 : decode cNamedForm_newName 30 = .ok (.iastore, 1) := by decide +kernel
theorem dNamedForm_newName_31 : decode cNamedForm_newName 31 = .ok (.aload_n 0, 1) := by decide +kernel
theorem dNamedForm_newName_32 : decode cNamedForm_newName 32 = .ok (.getfield 57, 3) := by decide +kernel
theorem dNamedForm_newName_35 : decode cNamedForm_newName 35 = .ok (.iload 4, 2) := by decide +kernel
theorem dNamedForm_newName_37 : decode cNamedForm_newName 37 = .ok (.iload_n 3, 1) := by decide +kernel
theorem dNamedForm_newName_38 : decode cNamedForm_newName 38 = .ok (.iastore, 1) := by decide +kernel
theorem dNamedForm_newName_39 : decode cNamedForm_newName 39 = .ok (.aload_n 0, 1) := by decide +kernel
theorem dNamedForm_newName_40 : decode cNamedForm_newName 40 = .ok (.getfield 48, 3) := by decide +kernel
theorem dNamedForm_newName_43 : decode cNamedForm_newName 43 = .ok (.iload_n 2, 1) := by decide +kernel
theorem dNamedForm_newName_44 : decode cNamedForm_newName 44 = .ok (.bipush 6, 2) := by decide +kernel
theorem dNamedForm_newName_46 : decode cNamedForm_newName 46 = .ok (.imul, 1) := by decide +kernel
theorem dNamedForm_newName_47 : decode cNamedForm_newName 47 = .ok (.iload_n 1, 1) := by decide +kernel
theorem dNamedForm_newName_48 : decode cNamedForm_newName 48 = .ok (.iadd, 1) := by decide +kernel
theorem dNamedForm_newName_49 : decode cNamedForm_newName 49 = .ok (.iload 4, 2) := by decide +kernel
theorem dNamedForm_newName_51 : decode cNamedForm_newName 51 = .ok (.iastore, 1) := by decide +kernel
theorem dNamedForm_newName_52 : decode cNamedForm_newName 52 = .ok (.iload 4, 2) := by decide +kernel
theorem dNamedForm_newName_54 : decode cNamedForm_newName 54 = .ok (.ireturn, 1) := by decide +kernel
theorem dNamedForm_lastName_0 : decode cNamedForm_lastName 0 = .ok (.iload_n 2, 1) := by decide +kernel
theorem dNamedForm_lastName_1 : decode cNamedForm_lastName 1 = .ok (.iconst (-1), 1) := by decide +kernel
theorem dNamedForm_lastName_2 : decode cNamedForm_lastName 2 = .ok (.if_icmp .ne 7, 3) := by decide +kernel
theorem dNamedForm_lastName_5 : decode cNamedForm_lastName 5 = .ok (.iconst (-1), 1) := by decide +kernel
theorem dNamedForm_lastName_6 : decode cNamedForm_lastName 6 = .ok (.goto 14, 3) := by decide +kernel
theorem dNamedForm_lastName_9 : decode cNamedForm_lastName 9 = .ok (.aload_n 0, 1) := by decide +kernel
theorem dNamedForm_lastName_10 : decode cNamedForm_lastName 10 = .ok (.getfield 48, 3) := by decide +kernel
theorem dNamedForm_lastName_13 : decode cNamedForm_lastName 13 = .ok (.iload_n 1, 1) := by decide +kernel
theorem dNamedForm_lastName_14 : decode cNamedForm_lastName 14 = .ok (.bipush 6, 2) := by decide +kernel
theorem dNamedForm_lastName_16 : decode cNamedForm_lastName 16 = .ok (.imul, 1) := by decide +kernel
theorem dNamedForm_lastName_17 : decode cNamedForm_lastName 17 = .ok (.iload_n 2, 1) := by decide +kernel
theorem dNamedForm_lastName_18 : decode cNamedForm_lastName 18 = .ok (.iadd, 1) := by decide +kernel
theorem dNamedForm_lastName_19 : decode cNamedForm_lastName 19 = .ok (.iaload, 1) := by decide +kernel
theorem dNamedForm_lastName_20 : decode cNamedForm_lastName 20 = .ok (.ireturn, 1) := by decide +kernel
theorem dNamedForm_nameBlock_0 : decode cNamedForm_nameBlock 0 = .ok (.aload_n 0, 1) := by decide +kernel
theorem dNamedForm_nameBlock_1 : decode cNamedForm_nameBlock 1 = .ok (.getfield 15, 3) := by decide +kernel
theorem dNamedForm_nameBlock_4 : decode cNamedForm_nameBlock 4 = .ok (.iload_n 1, 1) := by decide +kernel
theorem dNamedForm_nameBlock_5 : decode cNamedForm_nameBlock 5 = .ok (.invokevirtual 105, 3) := by decide +kernel
theorem dNamedForm_nameBlock_8 : decode cNamedForm_nameBlock 8 = .ok (.istore_n 2, 1) := by decide +kernel
theorem dNamedForm_nameBlock_9 : decode cNamedForm_nameBlock 9 = .ok (.aload_n 0, 1) := by decide +kernel
theorem dNamedForm_nameBlock_10 : decode cNamedForm_nameBlock 10 = .ok (.getfield 48, 3) := by decide +kernel
theorem dNamedForm_nameBlock_13 : decode cNamedForm_nameBlock 13 = .ok (.iload_n 2, 1) := by decide +kernel
theorem dNamedForm_nameBlock_14 : decode cNamedForm_nameBlock 14 = .ok (.bipush 6, 2) := by decide +kernel
theorem dNamedForm_nameBlock_16 : decode cNamedForm_nameBlock 16 = .ok (.imul, 1) := by decide +kernel
theorem dNamedForm_nameBlock_17 : decode cNamedForm_nameBlock 17 = .ok (.aload_n 0, 1) := by decide +kernel
theorem dNamedForm_nameBlock_18 : decode cNamedForm_nameBlock 18 = .ok (.getfield 48, 3) := by decide +kernel
theorem dNamedForm_nameBlock_21 : decode cNamedForm_nameBlock 21 = .ok (.iload_n 1, 1) := by decide +kernel
theorem dNamedForm_nameBlock_22 : decode cNamedForm_nameBlock 22 = .ok (.bipush 6, 2) := by decide +kernel
theorem dNamedForm_nameBlock_24 : decode cNamedForm_nameBlock 24 = .ok (.imul, 1) := by decide +kernel
theorem dNamedForm_nameBlock_25 : decode cNamedForm_nameBlock 25 = .ok (.bipush 6, 2) := by decide +kernel
theorem dNamedForm_nameBlock_27 : decode cNamedForm_nameBlock 27 = .ok (.invokestatic 108, 3) := by decide +kernel
theorem dNamedForm_nameBlock_30 : decode cNamedForm_nameBlock 30 = .ok (.iconst 0, 1) := by decide +kernel
theorem dNamedForm_nameBlock_31 : decode cNamedForm_nameBlock 31 = .ok (.istore_n 3, 1) := by decide +kernel
theorem dNamedForm_nameBlock_32 : decode cNamedForm_nameBlock 32 = .ok (.iload_n 3, 1) := by decide +kernel
theorem dNamedForm_nameBlock_33 : decode cNamedForm_nameBlock 33 = .ok (.bipush 6, 2) := by decide +kernel
theorem dNamedForm_nameBlock_35 : decode cNamedForm_nameBlock 35 = .ok (.if_icmp .ge 42, 3) := by decide +kernel
theorem dNamedForm_nameBlock_38 : decode cNamedForm_nameBlock 38 = .ok (.aload_n 0, 1) := by decide +kernel
theorem dNamedForm_nameBlock_39 : decode cNamedForm_nameBlock 39 = .ok (.getfield 29, 3) := by decide +kernel
theorem dNamedForm_nameBlock_42 : decode cNamedForm_nameBlock 42 = .ok (.iload_n 1, 1) := by decide +kernel
theorem dNamedForm_nameBlock_43 : decode cNamedForm_nameBlock 43 = .ok (.bipush 6, 2) := by decide +kernel
theorem dNamedForm_nameBlock_45 : decode cNamedForm_nameBlock 45 = .ok (.imul, 1) := by decide +kernel
theorem dNamedForm_nameBlock_46 : decode cNamedForm_nameBlock 46 = .ok (.iload_n 3, 1) := by decide +kernel
theorem dNamedForm_nameBlock_47 : decode cNamedForm_nameBlock 47 = .ok (.iadd, 1) := by decide +kernel
theorem dNamedForm_nameBlock_48 : decode cNamedForm_nameBlock 48 = .ok (.iaload, 1) := by decide +kernel
theorem dNamedForm_nameBlock_49 : decode cNamedForm_nameBlock 49 = .ok (.iconst (-1), 1) := by decide +kernel
theorem dNamedForm_nameBlock_50 : decode cNamedForm_nameBlock 50 = .ok (.if_icmp .eq 21, 3) := by decide +kernel
theorem dNamedForm_nameBlock_53 : decode cNamedForm_nameBlock 53 = .ok (.aload_n 0, 1) := by decide +kernel
theorem dNamedForm_nameBlock_54 : decode cNamedForm_nameBlock 54 = .ok (.getfield 29, 3) := by decide +kernel
theorem dNamedForm_nameBlock_57 : decode cNamedForm_nameBlock 57 = .ok (.iload_n 1, 1) := by decide +kernel
theorem dNamedForm_nameBlock_58 : decode cNamedForm_nameBlock 58 = .ok (.bipush 6, 2) := by decide +kernel
theorem dNamedForm_nameBlock_60 : decode cNamedForm_nameBlock 60 = .ok (.imul, 1) := by decide +kernel
theorem dNamedForm_nameBlock_61 : decode cNamedForm_nameBlock 61 = .ok (.iload_n 3, 1) := by decide +kernel
theorem dNamedForm_nameBlock_62 : decode cNamedForm_nameBlock 62 = .ok (.iadd, 1) := by decide +kernel
theorem dNamedForm_nameBlock_63 : decode cNamedForm_nameBlock 63 = .ok (.aload_n 0, 1) := by decide +kernel
theorem dNamedForm_nameBlock_64 : decode cNamedForm_nameBlock 64 = .ok (.iload_n 3, 1) := by decide +kernel
theorem dNamedForm_nameBlock_65 : decode cNamedForm_nameBlock 65 = .ok (.iload_n 1, 1) := by decide +kernel
theorem dNamedForm_nameBlock_66 : decode cNamedForm_nameBlock 66 = .ok (.iconst (-1), 1) := by decide +kernel
theorem dNamedForm_nameBlock_67 : decode cNamedForm_nameBlock 67 = .ok (.invokevirtual 66, 3) := by decide +kernel
theorem dNamedForm_nameBlock_70 : decode cNamedForm_nameBlock 70 = .ok (.iastore, 1) := by decide +kernel
theorem dNamedForm_nameBlock_71 : decode cNamedForm_nameBlock 71 = .ok (.iinc 3 1, 3) := by decide +kernel
theorem dNamedForm_nameBlock_74 : decode cNamedForm_nameBlock 74 = .ok (.goto (-42), 3) := by decide +kernel
theorem dNamedForm_nameBlock_77 : decode cNamedForm_nameBlock 77 = .ok (.iconst 0, 1) := by decide +kernel
theorem dNamedForm_nameBlock_78 : decode cNamedForm_nameBlock 78 = .ok (.istore_n 3, 1) := by decide +kernel
theorem dNamedForm_nameBlock_79 : decode cNamedForm_nameBlock 79 = .ok (.iload_n 3, 1) := by decide +kernel
theorem dNamedForm_nameBlock_80 : decode cNamedForm_nameBlock 80 = .ok (.aload_n 0, 1) := by decide +kernel
theorem dNamedForm_nameBlock_81 : decode cNamedForm_nameBlock 81 = .ok (.getfield 11, 3) := by decide +kernel
theorem dNamedForm_nameBlock_84 : decode cNamedForm_nameBlock 84 = .ok (.iload_n 1, 1) := by decide +kernel
theorem dNamedForm_nameBlock_85 : decode cNamedForm_nameBlock 85 = .ok (.invokevirtual 114, 3) := by decide +kernel
theorem dNamedForm_nameBlock_88 : decode cNamedForm_nameBlock 88 = .ok (.if_icmp .ge 15, 3) := by decide +kernel
theorem dNamedForm_nameBlock_91 : decode cNamedForm_nameBlock 91 = .ok (.aload_n 0, 1) := by decide +kernel
theorem dNamedForm_nameBlock_92 : decode cNamedForm_nameBlock 92 = .ok (.iload_n 1, 1) := by decide +kernel
theorem dNamedForm_nameBlock_93 : decode cNamedForm_nameBlock 93 = .ok (.iload_n 3, 1) := by decide +kernel
theorem dNamedForm_nameBlock_94 : decode cNamedForm_nameBlock 94 = .ok (.invokevirtual 117, 3) := by decide +kernel
theorem dNamedForm_nameBlock_97 : decode cNamedForm_nameBlock 97 = .ok (.iinc 3 1, 3) := by decide +kernel
theorem dNamedForm_nameBlock_100 : decode cNamedForm_nameBlock 100 = .ok (.goto (-21), 3) := by decide +kernel
theorem dNamedForm_nameBlock_103 : decode cNamedForm_nameBlock 103 = .ok (.aload_n 0, 1) := by decide +kernel
theorem dNamedForm_nameBlock_104 : decode cNamedForm_nameBlock 104 = .ok (.getfield 45, 3) := by decide +kernel
theorem dNamedForm_nameBlock_107 : decode cNamedForm_nameBlock 107 = .ok (.iload_n 1, 1) := by decide +kernel
theorem dNamedForm_nameBlock_108 : decode cNamedForm_nameBlock 108 = .ok (.aload_n 0, 1) := by decide +kernel
theorem dNamedForm_nameBlock_109 : decode cNamedForm_nameBlock 109 = .ok (.iload_n 1, 1) := by decide +kernel
theorem dNamedForm_nameBlock_110 : decode cNamedForm_nameBlock 110 = .ok (.aload_n 0, 1) := by decide +kernel
theorem dNamedForm_nameBlock_111 : decode cNamedForm_nameBlock 111 = .ok (.getfield 11, 3) := by decide +kernel
theorem dNamedForm_nameBlock_114 : decode cNamedForm_nameBlock 114 = .ok (.iload_n 1, 1) := by decide +kernel
theorem dNamedForm_nameBlock_115 : decode cNamedForm_nameBlock 115 = .ok (.invokevirtual 121, 3) := by decide +kernel
theorem dNamedForm_nameBlock_118 : decode cNamedForm_nameBlock 118 = .ok (.invokevirtual 124, 3) := by decide +kernel
theorem dNamedForm_nameBlock_121 : decode cNamedForm_nameBlock 121 = .ok (.iastore, 1) := by decide +kernel
theorem dNamedForm_nameBlock_122 : decode cNamedForm_nameBlock 122 = .ok (.return_, 1) := by decide +kernel
theorem dNamedForm_nameStep_0 : decode cNamedForm_nameStep 0 = .ok (.iload_n 1, 1) := by decide +kernel
theorem dNamedForm_nameStep_1 : decode cNamedForm_nameStep 1 = .ok (.bipush 6, 2) := by decide +kernel
theorem dNamedForm_nameStep_3 : decode cNamedForm_nameStep 3 = .ok (.imul, 1) := by decide +kernel
theorem dNamedForm_nameStep_4 : decode cNamedForm_nameStep 4 = .ok (.iload_n 2, 1) := by decide +kernel
theorem dNamedForm_nameStep_5 : decode cNamedForm_nameStep 5 = .ok (.iadd, 1) := by decide +kernel
theorem dNamedForm_nameStep_6 : decode cNamedForm_nameStep 6 = .ok (.istore_n 3, 1) := by decide +kernel
theorem dNamedForm_nameStep_7 : decode cNamedForm_nameStep 7 = .ok (.aload_n 0, 1) := by decide +kernel
theorem dNamedForm_nameStep_8 : decode cNamedForm_nameStep 8 = .ok (.getfield 39, 3) := by decide +kernel
theorem dNamedForm_nameStep_11 : decode cNamedForm_nameStep 11 = .ok (.iload_n 3, 1) := by decide +kernel
theorem dNamedForm_nameStep_12 : decode cNamedForm_nameStep 12 = .ok (.aload_n 0, 1) := by decide +kernel
theorem dNamedForm_nameStep_13 : decode cNamedForm_nameStep 13 = .ok (.iload_n 1, 1) := by decide +kernel
theorem dNamedForm_nameStep_14 : decode cNamedForm_nameStep 14 = .ok (.aload_n 0, 1) := by decide +kernel
theorem dNamedForm_nameStep_15 : decode cNamedForm_nameStep 15 = .ok (.getfield 11, 3) := by decide +kernel
theorem dNamedForm_nameStep_18 : decode cNamedForm_nameStep 18 = .ok (.iload_n 1, 1) := by decide +kernel
theorem dNamedForm_nameStep_19 : decode cNamedForm_nameStep 19 = .ok (.iload_n 2, 1) := by decide +kernel
theorem dNamedForm_nameStep_20 : decode cNamedForm_nameStep 20 = .ok (.invokevirtual 128, 3) := by decide +kernel
theorem dNamedForm_nameStep_23 : decode cNamedForm_nameStep 23 = .ok (.invokevirtual 124, 3) := by decide +kernel
theorem dNamedForm_nameStep_26 : decode cNamedForm_nameStep 26 = .ok (.iastore, 1) := by decide +kernel
theorem dNamedForm_nameStep_27 : decode cNamedForm_nameStep 27 = .ok (.aload_n 0, 1) := by decide +kernel
theorem dNamedForm_nameStep_28 : decode cNamedForm_nameStep 28 = .ok (.getfield 42, 3) := by decide +kernel
theorem dNamedForm_nameStep_31 : decode cNamedForm_nameStep 31 = .ok (.iload_n 3, 1) := by decide +kernel
theorem dNamedForm_nameStep_32 : decode cNamedForm_nameStep 32 = .ok (.aload_n 0, 1) := by decide +kernel
theorem dNamedForm_nameStep_33 : decode cNamedForm_nameStep 33 = .ok (.iload_n 1, 1) := by decide +kernel
theorem dNamedForm_nameStep_34 : decode cNamedForm_nameStep 34 = .ok (.aload_n 0, 1) := by decide +kernel
theorem dNamedForm_nameStep_35 : decode cNamedForm_nameStep 35 = .ok (.getfield 11, 3) := by decide +kernel
theorem dNamedForm_nameStep_38 : decode cNamedForm_nameStep 38 = .ok (.iload_n 1, 1) := by decide +kernel
theorem dNamedForm_nameStep_39 : decode cNamedForm_nameStep 39 = .ok (.iload_n 2, 1) := by decide +kernel
theorem dNamedForm_nameStep_40 : decode cNamedForm_nameStep 40 = .ok (.invokevirtual 131, 3) := by decide +kernel
theorem dNamedForm_nameStep_43 : decode cNamedForm_nameStep 43 = .ok (.invokevirtual 124, 3) := by decide +kernel
theorem dNamedForm_nameStep_46 : decode cNamedForm_nameStep 46 = .ok (.iastore, 1) := by decide +kernel
theorem dNamedForm_nameStep_47 : decode cNamedForm_nameStep 47 = .ok (.aload_n 0, 1) := by decide +kernel
theorem dNamedForm_nameStep_48 : decode cNamedForm_nameStep 48 = .ok (.getfield 11, 3) := by decide +kernel
theorem dNamedForm_nameStep_51 : decode cNamedForm_nameStep 51 = .ok (.iload_n 1, 1) := by decide +kernel
theorem dNamedForm_nameStep_52 : decode cNamedForm_nameStep 52 = .ok (.iload_n 2, 1) := by decide +kernel
theorem dNamedForm_nameStep_53 : decode cNamedForm_nameStep 53 = .ok (.invokevirtual 134, 3) := by decide +kernel
theorem dNamedForm_nameStep_56 : decode cNamedForm_nameStep 56 = .ok (.istore 4, 2) := by decide +kernel
theorem dNamedForm_nameStep_58 : decode cNamedForm_nameStep 58 = .ok (.iload 4, 2) := by decide +kernel
theorem dNamedForm_nameStep_60 : decode cNamedForm_nameStep 60 = .ok (.iconst (-1), 1) := by decide +kernel
theorem dNamedForm_nameStep_61 : decode cNamedForm_nameStep 61 = .ok (.if_icmp .eq 17, 3) := by decide +kernel
theorem dNamedForm_nameStep_64 : decode cNamedForm_nameStep 64 = .ok (.aload_n 0, 1) := by decide +kernel
theorem dNamedForm_nameStep_65 : decode cNamedForm_nameStep 65 = .ok (.getfield 36, 3) := by decide +kernel
theorem dNamedForm_nameStep_68 : decode cNamedForm_nameStep 68 = .ok (.iload_n 3, 1) := by decide +kernel
theorem dNamedForm_nameStep_69 : decode cNamedForm_nameStep 69 = .ok (.aload_n 0, 1) := by decide +kernel
theorem dNamedForm_nameStep_70 : decode cNamedForm_nameStep 70 = .ok (.iload 4, 2) := by decide +kernel
theorem dNamedForm_nameStep_72 : decode cNamedForm_nameStep 72 = .ok (.iload_n 1, 1) := by decide +kernel
theorem dNamedForm_nameStep_73 : decode cNamedForm_nameStep 73 = .ok (.iload_n 2, 1) := by decide +kernel
theorem dNamedForm_nameStep_74 : decode cNamedForm_nameStep 74 = .ok (.invokevirtual 66, 3) := by decide +kernel
theorem dNamedForm_nameStep_77 : decode cNamedForm_nameStep 77 = .ok (.iastore, 1) := by decide +kernel
theorem dNamedForm_nameStep_78 : decode cNamedForm_nameStep 78 = .ok (.return_, 1) := by decide +kernel
theorem dNamedForm_findMeetingUses_0 : decode cNamedForm_findMeetingUses 0 = .ok (.iconst 0, 1) := by decide +kernel
theorem dNamedForm_findMeetingUses_1 : decode cNamedForm_findMeetingUses 1 = .ok (.istore_n 1, 1) := by decide +kernel
theorem dNamedForm_findMeetingUses_2 : decode cNamedForm_findMeetingUses 2 = .ok (.iload_n 1, 1) := by decide +kernel
theorem dNamedForm_findMeetingUses_3 : decode cNamedForm_findMeetingUses 3 = .ok (.aload_n 0, 1) := by decide +kernel
theorem dNamedForm_findMeetingUses_4 : decode cNamedForm_findMeetingUses 4 = .ok (.getfield 25, 3) := by decide +kernel
theorem dNamedForm_findMeetingUses_7 : decode cNamedForm_findMeetingUses 7 = .ok (.if_icmp .ge 44, 3) := by decide +kernel
theorem dNamedForm_findMeetingUses_10 : decode cNamedForm_findMeetingUses 10 = .ok (.iconst 0, 1) := by decide +kernel
theorem dNamedForm_findMeetingUses_11 : decode cNamedForm_findMeetingUses 11 = .ok (.istore_n 2, 1) := by decide +kernel
theorem dNamedForm_findMeetingUses_12 : decode cNamedForm_findMeetingUses 12 = .ok (.iload_n 2, 1) := by decide +kernel
theorem dNamedForm_findMeetingUses_13 : decode cNamedForm_findMeetingUses 13 = .ok (.bipush 6, 2) := by decide +kernel
theorem dNamedForm_findMeetingUses_15 : decode cNamedForm_findMeetingUses 15 = .ok (.if_icmp .ge 30, 3) := by decide +kernel
theorem dNamedForm_findMeetingUses_18 : decode cNamedForm_findMeetingUses 18 = .ok (.aload_n 0, 1) := by decide +kernel
theorem dNamedForm_findMeetingUses_19 : decode cNamedForm_findMeetingUses 19 = .ok (.getfield 29, 3) := by decide +kernel
theorem dNamedForm_findMeetingUses_22 : decode cNamedForm_findMeetingUses 22 = .ok (.iload_n 1, 1) := by decide +kernel
theorem dNamedForm_findMeetingUses_23 : decode cNamedForm_findMeetingUses 23 = .ok (.bipush 6, 2) := by decide +kernel
theorem dNamedForm_findMeetingUses_25 : decode cNamedForm_findMeetingUses 25 = .ok (.imul, 1) := by decide +kernel
theorem dNamedForm_findMeetingUses_26 : decode cNamedForm_findMeetingUses 26 = .ok (.iload_n 2, 1) := by decide +kernel
theorem dNamedForm_findMeetingUses_27 : decode cNamedForm_findMeetingUses 27 = .ok (.iadd, 1) := by decide +kernel
theorem dNamedForm_findMeetingUses_28 : decode cNamedForm_findMeetingUses 28 = .ok (.iaload, 1) := by decide +kernel
theorem dNamedForm_findMeetingUses_29 : decode cNamedForm_findMeetingUses 29 = .ok (.iconst (-1), 1) := by decide +kernel
theorem dNamedForm_findMeetingUses_30 : decode cNamedForm_findMeetingUses 30 = .ok (.if_icmp .eq 9, 3) := by decide +kernel
theorem dNamedForm_findMeetingUses_33 : decode cNamedForm_findMeetingUses 33 = .ok (.aload_n 0, 1) := by decide +kernel
theorem dNamedForm_findMeetingUses_34 : decode cNamedForm_findMeetingUses 34 = .ok (.iload_n 1, 1) := by decide +kernel
theorem dNamedForm_findMeetingUses_35 : decode cNamedForm_findMeetingUses 35 = .ok (.iload_n 2, 1) := by decide +kernel
theorem dNamedForm_findMeetingUses_36 : decode cNamedForm_findMeetingUses 36 = .ok (.invokevirtual 137, 3) := by decide +kernel
theorem dNamedForm_findMeetingUses_39 : decode cNamedForm_findMeetingUses 39 = .ok (.iinc 2 1, 3) := by decide +kernel
theorem dNamedForm_findMeetingUses_42 : decode cNamedForm_findMeetingUses 42 = .ok (.goto (-30), 3) := by decide +kernel
theorem dNamedForm_findMeetingUses_45 : decode cNamedForm_findMeetingUses 45 = .ok (.iinc 1 1, 3) := by decide +kernel
theorem dNamedForm_findMeetingUses_48 : decode cNamedForm_findMeetingUses 48 = .ok (.goto (-46), 3) := by decide +kernel
theorem dNamedForm_findMeetingUses_51 : decode cNamedForm_findMeetingUses 51 = .ok (.return_, 1) := by decide +kernel
theorem dNamedForm_findUsesOfMeeting_0 : decode cNamedForm_findUsesOfMeeting 0 = .ok (.iconst 0, 1) := by decide +kernel
theorem dNamedForm_findUsesOfMeeting_1 : decode cNamedForm_findUsesOfMeeting 1 = .ok (.istore_n 3, 1) := by decide +kernel
theorem dNamedForm_findUsesOfMeeting_2 : decode cNamedForm_findUsesOfMeeting 2 = .ok (.iload_n 3, 1) := by decide +kernel
theorem dNamedForm_findUsesOfMeeting_3 : decode cNamedForm_findUsesOfMeeting 3 = .ok (.aload_n 0, 1) := by decide +kernel
theorem dNamedForm_findUsesOfMeeting_4 : decode cNamedForm_findUsesOfMeeting 4 = .ok (.getfield 25, 3) := by decide +kernel
theorem dNamedForm_findUsesOfMeeting_7 : decode cNamedForm_findUsesOfMeeting 7 = .ok (.if_icmp .gt 39, 3) := by decide +kernel
theorem dNamedForm_findUsesOfMeeting_10 : decode cNamedForm_findUsesOfMeeting 10 = .ok (.aload_n 0, 1) := by decide +kernel
theorem dNamedForm_findUsesOfMeeting_11 : decode cNamedForm_findUsesOfMeeting 11 = .ok (.getfield 15, 3) := by decide +kernel
theorem dNamedForm_findUsesOfMeeting_14 : decode cNamedForm_findUsesOfMeeting 14 = .ok (.iload_n 3, 1) := by decide +kernel
theorem dNamedForm_findUsesOfMeeting_15 : decode cNamedForm_findUsesOfMeeting 15 = .ok (.iload_n 1, 1) := by decide +kernel
theorem dNamedForm_findUsesOfMeeting_16 : decode cNamedForm_findUsesOfMeeting 16 = .ok (.invokevirtual 140, 3) := by decide +kernel
theorem dNamedForm_findUsesOfMeeting_19 : decode cNamedForm_findUsesOfMeeting 19 = .ok (.ifCond .eq 21, 3) := by decide +kernel
theorem dNamedForm_findUsesOfMeeting_22 : decode cNamedForm_findUsesOfMeeting 22 = .ok (.aload_n 0, 1) := by decide +kernel
theorem dNamedForm_findUsesOfMeeting_23 : decode cNamedForm_findUsesOfMeeting 23 = .ok (.getfield 33, 3) := by decide +kernel
theorem dNamedForm_findUsesOfMeeting_26 : decode cNamedForm_findUsesOfMeeting 26 = .ok (.aload_n 0, 1) := by decide +kernel
theorem dNamedForm_findUsesOfMeeting_27 : decode cNamedForm_findUsesOfMeeting 27 = .ok (.iload_n 1, 1) := by decide +kernel
theorem dNamedForm_findUsesOfMeeting_28 : decode cNamedForm_findUsesOfMeeting 28 = .ok (.iload_n 2, 1) := by decide +kernel
theorem dNamedForm_findUsesOfMeeting_29 : decode cNamedForm_findUsesOfMeeting 29 = .ok (.iload_n 3, 1) := by decide +kernel
theorem dNamedForm_findUsesOfMeeting_30 : decode cNamedForm_findUsesOfMeeting 30 = .ok (.invokevirtual 143, 3) := by decide +kernel
theorem dNamedForm_findUsesOfMeeting_33 : decode cNamedForm_findUsesOfMeeting 33 = .ok (.aload_n 0, 1) := by decide +kernel
theorem dNamedForm_findUsesOfMeeting_34 : decode cNamedForm_findUsesOfMeeting 34 = .ok (.iload_n 3, 1) := by decide +kernel
theorem dNamedForm_findUsesOfMeeting_35 : decode cNamedForm_findUsesOfMeeting 35 = .ok (.iload_n 2, 1) := by decide +kernel
theorem dNamedForm_findUsesOfMeeting_36 : decode cNamedForm_findUsesOfMeeting 36 = .ok (.invokevirtual 124, 3) := by decide +kernel
theorem dNamedForm_findUsesOfMeeting_39 : decode cNamedForm_findUsesOfMeeting 39 = .ok (.iastore, 1) := by decide +kernel
theorem dNamedForm_findUsesOfMeeting_40 : decode cNamedForm_findUsesOfMeeting 40 = .ok (.iinc 3 1, 3) := by decide +kernel
theorem dNamedForm_findUsesOfMeeting_43 : decode cNamedForm_findUsesOfMeeting 43 = .ok (.goto (-41), 3) := by decide +kernel
theorem dNamedForm_findUsesOfMeeting_46 : decode cNamedForm_findUsesOfMeeting 46 = .ok (.return_, 1) := by decide +kernel
theorem dNamedForm_useOfMeeting_0 : decode cNamedForm_useOfMeeting 0 = .ok (.iload_n 1, 1) := by decide +kernel
theorem dNamedForm_useOfMeeting_1 : decode cNamedForm_useOfMeeting 1 = .ok (.bipush 6, 2) := by decide +kernel
theorem dNamedForm_useOfMeeting_3 : decode cNamedForm_useOfMeeting 3 = .ok (.imul, 1) := by decide +kernel
theorem dNamedForm_useOfMeeting_4 : decode cNamedForm_useOfMeeting 4 = .ok (.iload_n 2, 1) := by decide +kernel
theorem dNamedForm_useOfMeeting_5 : decode cNamedForm_useOfMeeting 5 = .ok (.iadd, 1) := by decide +kernel
theorem dNamedForm_useOfMeeting_6 : decode cNamedForm_useOfMeeting 6 = .ok (.aload_n 0, 1) := by decide +kernel
theorem dNamedForm_useOfMeeting_7 : decode cNamedForm_useOfMeeting 7 = .ok (.getfield 25, 3) := by decide +kernel
theorem dNamedForm_useOfMeeting_10 : decode cNamedForm_useOfMeeting 10 = .ok (.iconst 1, 1) := by decide +kernel
theorem dNamedForm_useOfMeeting_11 : decode cNamedForm_useOfMeeting 11 = .ok (.iadd, 1) := by decide +kernel
theorem dNamedForm_useOfMeeting_12 : decode cNamedForm_useOfMeeting 12 = .ok (.imul, 1) := by decide +kernel
theorem dNamedForm_useOfMeeting_13 : decode cNamedForm_useOfMeeting 13 = .ok (.iload_n 3, 1) := by decide +kernel
theorem dNamedForm_useOfMeeting_14 : decode cNamedForm_useOfMeeting 14 = .ok (.iadd, 1) := by decide +kernel
theorem dNamedForm_useOfMeeting_15 : decode cNamedForm_useOfMeeting 15 = .ok (.ireturn, 1) := by decide +kernel
theorem dNamedForm_isSound_0 : decode cNamedForm_isSound 0 = .ok (.iconst 0, 1) := by decide +kernel
theorem dNamedForm_isSound_1 : decode cNamedForm_isSound 1 = .ok (.istore_n 1, 1) := by decide +kernel
theorem dNamedForm_isSound_2 : decode cNamedForm_isSound 2 = .ok (.iload_n 1, 1) := by decide +kernel
theorem dNamedForm_isSound_3 : decode cNamedForm_isSound 3 = .ok (.aload_n 0, 1) := by decide +kernel
theorem dNamedForm_isSound_4 : decode cNamedForm_isSound 4 = .ok (.getfield 15, 3) := by decide +kernel
theorem dNamedForm_isSound_7 : decode cNamedForm_isSound 7 = .ok (.invokevirtual 70, 3) := by decide +kernel
theorem dNamedForm_isSound_10 : decode cNamedForm_isSound 10 = .ok (.if_icmp .ge 36, 3) := by decide +kernel
theorem dNamedForm_isSound_13 : decode cNamedForm_isSound 13 = .ok (.aload_n 0, 1) := by decide +kernel
theorem dNamedForm_isSound_14 : decode cNamedForm_isSound 14 = .ok (.getfield 15, 3) := by decide +kernel
theorem dNamedForm_isSound_17 : decode cNamedForm_isSound 17 = .ok (.iload_n 1, 1) := by decide +kernel
theorem dNamedForm_isSound_18 : decode cNamedForm_isSound 18 = .ok (.invokevirtual 75, 3) := by decide +kernel
theorem dNamedForm_isSound_21 : decode cNamedForm_isSound 21 = .ok (.istore_n 2, 1) := by decide +kernel
theorem dNamedForm_isSound_22 : decode cNamedForm_isSound 22 = .ok (.aload_n 0, 1) := by decide +kernel
theorem dNamedForm_isSound_23 : decode cNamedForm_isSound 23 = .ok (.iload_n 2, 1) := by decide +kernel
theorem dNamedForm_isSound_24 : decode cNamedForm_isSound 24 = .ok (.invokevirtual 146, 3) := by decide +kernel
theorem dNamedForm_isSound_27 : decode cNamedForm_isSound 27 = .ok (.ifCond .eq 11, 3) := by decide +kernel
theorem dNamedForm_isSound_30 : decode cNamedForm_isSound 30 = .ok (.aload_n 0, 1) := by decide +kernel
theorem dNamedForm_isSound_31 : decode cNamedForm_isSound 31 = .ok (.iload_n 2, 1) := by decide +kernel
theorem dNamedForm_isSound_32 : decode cNamedForm_isSound 32 = .ok (.invokevirtual 150, 3) := by decide +kernel
theorem dNamedForm_isSound_35 : decode cNamedForm_isSound 35 = .ok (.ifCond .ne 5, 3) := by decide +kernel
theorem dNamedForm_isSound_38 : decode cNamedForm_isSound 38 = .ok (.iconst 0, 1) := by decide +kernel
theorem dNamedForm_isSound_39 : decode cNamedForm_isSound 39 = .ok (.ireturn, 1) := by decide +kernel
theorem dNamedForm_isSound_40 : decode cNamedForm_isSound 40 = .ok (.iinc 1 1, 3) := by decide +kernel
theorem dNamedForm_isSound_43 : decode cNamedForm_isSound 43 = .ok (.goto (-41), 3) := by decide +kernel
theorem dNamedForm_isSound_46 : decode cNamedForm_isSound 46 = .ok (.iconst 1, 1) := by decide +kernel
theorem dNamedForm_isSound_47 : decode cNamedForm_isSound 47 = .ok (.ireturn, 1) := by decide +kernel
theorem dNamedForm_isBlockSound_0 : decode cNamedForm_isBlockSound 0 = .ok (.iconst 0, 1) := by decide +kernel
theorem dNamedForm_isBlockSound_1 : decode cNamedForm_isBlockSound 1 = .ok (.istore_n 2, 1) := by decide +kernel
theorem dNamedForm_isBlockSound_2 : decode cNamedForm_isBlockSound 2 = .ok (.iload_n 2, 1) := by decide +kernel
theorem dNamedForm_isBlockSound_3 : decode cNamedForm_isBlockSound 3 = .ok (.aload_n 0, 1) := by decide +kernel
theorem dNamedForm_isBlockSound_4 : decode cNamedForm_isBlockSound 4 = .ok (.getfield 11, 3) := by decide +kernel
theorem dNamedForm_isBlockSound_7 : decode cNamedForm_isBlockSound 7 = .ok (.iload_n 1, 1) := by decide +kernel
theorem dNamedForm_isBlockSound_8 : decode cNamedForm_isBlockSound 8 = .ok (.invokevirtual 114, 3) := by decide +kernel
theorem dNamedForm_isBlockSound_11 : decode cNamedForm_isBlockSound 11 = .ok (.if_icmp .ge 48, 3) := by decide +kernel
theorem dNamedForm_isBlockSound_14 : decode cNamedForm_isBlockSound 14 = .ok (.iload_n 1, 1) := by decide +kernel
theorem dNamedForm_isBlockSound_15 : decode cNamedForm_isBlockSound 15 = .ok (.bipush 6, 2) := by decide +kernel
theorem dNamedForm_isBlockSound_17 : decode cNamedForm_isBlockSound 17 = .ok (.imul, 1) := by decide +kernel
theorem dNamedForm_isBlockSound_18 : decode cNamedForm_isBlockSound 18 = .ok (.iload_n 2, 1) := by decide +kernel
theorem dNamedForm_isBlockSound_19 : decode cNamedForm_isBlockSound 19 = .ok (.iadd, 1) := by decide +kernel
theorem dNamedForm_isBlockSound_20 : decode cNamedForm_isBlockSound 20 = .ok (.istore_n 3, 1) := by decide +kernel
theorem dNamedForm_isBlockSound_21 : decode cNamedForm_isBlockSound 21 = .ok (.aload_n 0, 1) := by decide +kernel
theorem dNamedForm_isBlockSound_22 : decode cNamedForm_isBlockSound 22 = .ok (.aload_n 0, 1) := by decide +kernel
theorem dNamedForm_isBlockSound_23 : decode cNamedForm_isBlockSound 23 = .ok (.getfield 39, 3) := by decide +kernel
theorem dNamedForm_isBlockSound_26 : decode cNamedForm_isBlockSound 26 = .ok (.iload_n 3, 1) := by decide +kernel
theorem dNamedForm_isBlockSound_27 : decode cNamedForm_isBlockSound 27 = .ok (.iaload, 1) := by decide +kernel
theorem dNamedForm_isBlockSound_28 : decode cNamedForm_isBlockSound 28 = .ok (.iload_n 1, 1) := by decide +kernel
theorem dNamedForm_isBlockSound_29 : decode cNamedForm_isBlockSound 29 = .ok (.iload_n 2, 1) := by decide +kernel
theorem dNamedForm_isBlockSound_30 : decode cNamedForm_isBlockSound 30 = .ok (.invokevirtual 153, 3) := by decide +kernel
theorem dNamedForm_isBlockSound_33 : decode cNamedForm_isBlockSound 33 = .ok (.ifCond .eq 18, 3) := by decide +kernel
theorem dNamedForm_isBlockSound_36 : decode cNamedForm_isBlockSound 36 = .ok (.aload_n 0, 1) := by decide +kernel
theorem dNamedForm_isBlockSound_37 : decode cNamedForm_isBlockSound 37 = .ok (.aload_n 0, 1) := by decide +kernel
theorem dNamedForm_isBlockSound_38 : decode cNamedForm_isBlockSound 38 = .ok (.getfield 42, 3) := by decide +kernel
theorem dNamedForm_isBlockSound_41 : decode cNamedForm_isBlockSound 41 = .ok (.iload_n 3, 1) := by decide +kernel
theorem dNamedForm_isBlockSound_42 : decode cNamedForm_isBlockSound 42 = .ok (.iaload, 1) := by decide +kernel
theorem dNamedForm_isBlockSound_43 : decode cNamedForm_isBlockSound 43 = .ok (.iload_n 1, 1) := by decide +kernel
theorem dNamedForm_isBlockSound_44 : decode cNamedForm_isBlockSound 44 = .ok (.iload_n 2, 1) := by decide +kernel
theorem dNamedForm_isBlockSound_45 : decode cNamedForm_isBlockSound 45 = .ok (.invokevirtual 153, 3) := by decide +kernel
theorem dNamedForm_isBlockSound_48 : decode cNamedForm_isBlockSound 48 = .ok (.ifCond .ne 5, 3) := by decide +kernel
theorem dNamedForm_isBlockSound_51 : decode cNamedForm_isBlockSound 51 = .ok (.iconst 0, 1) := by decide +kernel
theorem dNamedForm_isBlockSound_52 : decode cNamedForm_isBlockSound 52 = .ok (.ireturn, 1) := by decide +kernel
theorem dNamedForm_isBlockSound_53 : decode cNamedForm_isBlockSound 53 = .ok (.iinc 2 1, 3) := by decide +kernel
theorem dNamedForm_isBlockSound_56 : decode cNamedForm_isBlockSound 56 = .ok (.goto (-54), 3) := by decide +kernel
theorem dNamedForm_isBlockSound_59 : decode cNamedForm_isBlockSound 59 = .ok (.aload_n 0, 1) := by decide +kernel
theorem dNamedForm_isBlockSound_60 : decode cNamedForm_isBlockSound 60 = .ok (.aload_n 0, 1) := by decide +kernel
theorem dNamedForm_isBlockSound_61 : decode cNamedForm_isBlockSound 61 = .ok (.getfield 45, 3) := by decide +kernel
theorem dNamedForm_isBlockSound_64 : decode cNamedForm_isBlockSound 64 = .ok (.iload_n 1, 1) := by decide +kernel
theorem dNamedForm_isBlockSound_65 : decode cNamedForm_isBlockSound 65 = .ok (.iaload, 1) := by decide +kernel
theorem dNamedForm_isBlockSound_66 : decode cNamedForm_isBlockSound 66 = .ok (.iload_n 1, 1) := by decide +kernel
theorem dNamedForm_isBlockSound_67 : decode cNamedForm_isBlockSound 67 = .ok (.bipush 6, 2) := by decide +kernel
theorem dNamedForm_isBlockSound_69 : decode cNamedForm_isBlockSound 69 = .ok (.invokevirtual 153, 3) := by decide +kernel
theorem dNamedForm_isBlockSound_72 : decode cNamedForm_isBlockSound 72 = .ok (.ireturn, 1) := by decide +kernel
theorem dNamedForm_areMeetingsSound_0 : decode cNamedForm_areMeetingsSound 0 = .ok (.iconst 0, 1) := by decide +kernel
theorem dNamedForm_areMeetingsSound_1 : decode cNamedForm_areMeetingsSound 1 = .ok (.istore_n 2, 1) := by decide +kernel
theorem dNamedForm_areMeetingsSound_2 : decode cNamedForm_areMeetingsSound 2 = .ok (.iload_n 2, 1) := by decide +kernel
theorem dNamedForm_areMeetingsSound_3 : decode cNamedForm_areMeetingsSound 3 = .ok (.bipush 6, 2) := by decide +kernel
theorem dNamedForm_areMeetingsSound_5 : decode cNamedForm_areMeetingsSound 5 = .ok (.if_icmp .ge 49, 3) := by decide +kernel
theorem dNamedForm_areMeetingsSound_8 : decode cNamedForm_areMeetingsSound 8 = .ok (.iconst 0, 1) := by decide +kernel
theorem dNamedForm_areMeetingsSound_9 : decode cNamedForm_areMeetingsSound 9 = .ok (.istore_n 3, 1) := by decide +kernel
theorem dNamedForm_areMeetingsSound_10 : decode cNamedForm_areMeetingsSound 10 = .ok (.iload_n 3, 1) := by decide +kernel
theorem dNamedForm_areMeetingsSound_11 : decode cNamedForm_areMeetingsSound 11 = .ok (.aload_n 0, 1) := by decide +kernel
theorem dNamedForm_areMeetingsSound_12 : decode cNamedForm_areMeetingsSound 12 = .ok (.getfield 25, 3) := by decide +kernel
theorem dNamedForm_areMeetingsSound_15 : decode cNamedForm_areMeetingsSound 15 = .ok (.if_icmp .gt 33, 3) := by decide +kernel
theorem dNamedForm_areMeetingsSound_18 : decode cNamedForm_areMeetingsSound 18 = .ok (.aload_n 0, 1) := by decide +kernel
theorem dNamedForm_areMeetingsSound_19 : decode cNamedForm_areMeetingsSound 19 = .ok (.aload_n 0, 1) := by decide +kernel
theorem dNamedForm_areMeetingsSound_20 : decode cNamedForm_areMeetingsSound 20 = .ok (.getfield 33, 3) := by decide +kernel
theorem dNamedForm_areMeetingsSound_23 : decode cNamedForm_areMeetingsSound 23 = .ok (.aload_n 0, 1) := by decide +kernel
theorem dNamedForm_areMeetingsSound_24 : decode cNamedForm_areMeetingsSound 24 = .ok (.iload_n 1, 1) := by decide +kernel
theorem dNamedForm_areMeetingsSound_25 : decode cNamedForm_areMeetingsSound 25 = .ok (.iload_n 2, 1) := by decide +kernel
theorem dNamedForm_areMeetingsSound_26 : decode cNamedForm_areMeetingsSound 26 = .ok (.iload_n 3, 1) := by decide +kernel
theorem dNamedForm_areMeetingsSound_27 : decode cNamedForm_areMeetingsSound 27 = .ok (.invokevirtual 143, 3) := by decide +kernel
theorem dNamedForm_areMeetingsSound_30 : decode cNamedForm_areMeetingsSound 30 = .ok (.iaload, 1) := by decide +kernel
theorem dNamedForm_areMeetingsSound_31 : decode cNamedForm_areMeetingsSound 31 = .ok (.iload_n 3, 1) := by decide +kernel
theorem dNamedForm_areMeetingsSound_32 : decode cNamedForm_areMeetingsSound 32 = .ok (.bipush 6, 2) := by decide +kernel
theorem dNamedForm_areMeetingsSound_34 : decode cNamedForm_areMeetingsSound 34 = .ok (.invokevirtual 153, 3) := by decide +kernel
theorem dNamedForm_areMeetingsSound_37 : decode cNamedForm_areMeetingsSound 37 = .ok (.ifCond .ne 5, 3) := by decide +kernel
theorem dNamedForm_areMeetingsSound_40 : decode cNamedForm_areMeetingsSound 40 = .ok (.iconst 0, 1) := by decide +kernel
theorem dNamedForm_areMeetingsSound_41 : decode cNamedForm_areMeetingsSound 41 = .ok (.ireturn, 1) := by decide +kernel
theorem dNamedForm_areMeetingsSound_42 : decode cNamedForm_areMeetingsSound 42 = .ok (.iinc 3 1, 3) := by decide +kernel
theorem dNamedForm_areMeetingsSound_45 : decode cNamedForm_areMeetingsSound 45 = .ok (.goto (-35), 3) := by decide +kernel
theorem dNamedForm_areMeetingsSound_48 : decode cNamedForm_areMeetingsSound 48 = .ok (.iinc 2 1, 3) := by decide +kernel
theorem dNamedForm_areMeetingsSound_51 : decode cNamedForm_areMeetingsSound 51 = .ok (.goto (-49), 3) := by decide +kernel
theorem dNamedForm_areMeetingsSound_54 : decode cNamedForm_areMeetingsSound 54 = .ok (.iconst 1, 1) := by decide +kernel
theorem dNamedForm_areMeetingsSound_55 : decode cNamedForm_areMeetingsSound 55 = .ok (.ireturn, 1) := by decide +kernel
theorem dNamedForm_isUseSound_0 : decode cNamedForm_isUseSound 0 = .ok (.iload_n 1, 1) := by decide +kernel
theorem dNamedForm_isUseSound_1 : decode cNamedForm_isUseSound 1 = .ok (.iconst (-1), 1) := by decide +kernel
theorem dNamedForm_isUseSound_2 : decode cNamedForm_isUseSound 2 = .ok (.if_icmp .ne 5, 3) := by decide +kernel
theorem dNamedForm_isUseSound_5 : decode cNamedForm_isUseSound 5 = .ok (.iconst 1, 1) := by decide +kernel
theorem dNamedForm_isUseSound_6 : decode cNamedForm_isUseSound 6 = .ok (.ireturn, 1) := by decide +kernel
theorem dNamedForm_isUseSound_7 : decode cNamedForm_isUseSound 7 = .ok (.aload_n 0, 1) := by decide +kernel
theorem dNamedForm_isUseSound_8 : decode cNamedForm_isUseSound 8 = .ok (.getfield 54, 3) := by decide +kernel
theorem dNamedForm_isUseSound_11 : decode cNamedForm_isUseSound 11 = .ok (.iload_n 1, 1) := by decide +kernel
theorem dNamedForm_isUseSound_12 : decode cNamedForm_isUseSound 12 = .ok (.iaload, 1) := by decide +kernel
theorem dNamedForm_isUseSound_13 : decode cNamedForm_isUseSound 13 = .ok (.istore 4, 2) := by decide +kernel
theorem dNamedForm_isUseSound_15 : decode cNamedForm_isUseSound 15 = .ok (.iload 4, 2) := by decide +kernel
theorem dNamedForm_isUseSound_17 : decode cNamedForm_isUseSound 17 = .ok (.aload_n 0, 1) := by decide +kernel
theorem dNamedForm_isUseSound_18 : decode cNamedForm_isUseSound 18 = .ok (.getfield 25, 3) := by decide +kernel
theorem dNamedForm_isUseSound_21 : decode cNamedForm_isUseSound 21 = .ok (.if_icmp .ne 5, 3) := by decide +kernel
theorem dNamedForm_isUseSound_24 : decode cNamedForm_isUseSound 24 = .ok (.iconst 1, 1) := by decide +kernel
theorem dNamedForm_isUseSound_25 : decode cNamedForm_isUseSound 25 = .ok (.ireturn, 1) := by decide +kernel
theorem dNamedForm_isUseSound_26 : decode cNamedForm_isUseSound 26 = .ok (.iload 4, 2) := by decide +kernel
theorem dNamedForm_isUseSound_28 : decode cNamedForm_isUseSound 28 = .ok (.iload_n 2, 1) := by decide +kernel
theorem dNamedForm_isUseSound_29 : decode cNamedForm_isUseSound 29 = .ok (.if_icmp .ne 21, 3) := by decide +kernel
theorem dNamedForm_isUseSound_32 : decode cNamedForm_isUseSound 32 = .ok (.aload_n 0, 1) := by decide +kernel
theorem dNamedForm_isUseSound_33 : decode cNamedForm_isUseSound 33 = .ok (.getfield 57, 3) := by decide +kernel
theorem dNamedForm_isUseSound_36 : decode cNamedForm_isUseSound 36 = .ok (.iload_n 1, 1) := by decide +kernel
theorem dNamedForm_isUseSound_37 : decode cNamedForm_isUseSound 37 = .ok (.iaload, 1) := by decide +kernel
theorem dNamedForm_isUseSound_38 : decode cNamedForm_isUseSound 38 = .ok (.iload_n 3, 1) := by decide +kernel
theorem dNamedForm_isUseSound_39 : decode cNamedForm_isUseSound 39 = .ok (.if_icmp .ge 7, 3) := by decide +kernel
theorem dNamedForm_isUseSound_42 : decode cNamedForm_isUseSound 42 = .ok (.iconst 1, 1) := by decide +kernel
theorem dNamedForm_isUseSound_43 : decode cNamedForm_isUseSound 43 = .ok (.goto 17, 3) := by decide +kernel
theorem dNamedForm_isUseSound_46 : decode cNamedForm_isUseSound 46 = .ok (.iconst 0, 1) := by decide +kernel
theorem dNamedForm_isUseSound_47 : decode cNamedForm_isUseSound 47 = .ok (.goto 13, 3) := by decide +kernel
theorem dNamedForm_isUseSound_50 : decode cNamedForm_isUseSound 50 = .ok (.aload_n 0, 1) := by decide +kernel
theorem dNamedForm_isUseSound_51 : decode cNamedForm_isUseSound 51 = .ok (.getfield 15, 3) := by decide +kernel
theorem dNamedForm_isUseSound_54 : decode cNamedForm_isUseSound 54 = .ok (.iload 4, 2) := by decide +kernel
theorem dNamedForm_isUseSound_56 : decode cNamedForm_isUseSound 56 = .ok (.iload_n 2, 1) := by decide +kernel
theorem dNamedForm_isUseSound_57 : decode cNamedForm_isUseSound 57 = .ok (.invokevirtual 157, 3) := by decide +kernel
theorem dNamedForm_isUseSound_60 : decode cNamedForm_isUseSound 60 = .ok (.ireturn, 1) := by decide +kernel
theorem dNamedForm_dropCopies_0 : decode cNamedForm_dropCopies 0 = .ok (.iconst 0, 1) := by decide +kernel
theorem dNamedForm_dropCopies_1 : decode cNamedForm_dropCopies 1 = .ok (.istore_n 1, 1) := by decide +kernel
theorem dNamedForm_dropCopies_2 : decode cNamedForm_dropCopies 2 = .ok (.iload_n 1, 1) := by decide +kernel
theorem dNamedForm_dropCopies_3 : decode cNamedForm_dropCopies 3 = .ok (.sipush 600, 3) := by decide +kernel
theorem dNamedForm_dropCopies_6 : decode cNamedForm_dropCopies 6 = .ok (.if_icmp .ge 16, 3) := by decide +kernel
theorem dNamedForm_dropCopies_9 : decode cNamedForm_dropCopies 9 = .ok (.aload_n 0, 1) := by decide +kernel
theorem dNamedForm_dropCopies_10 : decode cNamedForm_dropCopies 10 = .ok (.getfield 60, 3) := by decide +kernel
theorem dNamedForm_dropCopies_13 : decode cNamedForm_dropCopies 13 = .ok (.iload_n 1, 1) := by decide +kernel
theorem dNamedForm_dropCopies_14 : decode cNamedForm_dropCopies 14 = .ok (.iload_n 1, 1) := by decide +kernel
theorem dNamedForm_dropCopies_15 : decode cNamedForm_dropCopies 15 = .ok (.iastore, 1) := by decide +kernel
theorem dNamedForm_dropCopies_16 : decode cNamedForm_dropCopies 16 = .ok (.iinc 1 1, 3) := by decide +kernel
theorem dNamedForm_dropCopies_19 : decode cNamedForm_dropCopies 19 = .ok (.goto (-17), 3) := by decide +kernel
theorem dNamedForm_dropCopies_22 : decode cNamedForm_dropCopies 22 = .ok (.iconst 0, 1) := by decide +kernel
theorem dNamedForm_dropCopies_23 : decode cNamedForm_dropCopies 23 = .ok (.istore_n 1, 1) := by decide +kernel
theorem dNamedForm_dropCopies_24 : decode cNamedForm_dropCopies 24 = .ok (.iconst 0, 1) := by decide +kernel
theorem dNamedForm_dropCopies_25 : decode cNamedForm_dropCopies 25 = .ok (.istore_n 2, 1) := by decide +kernel
theorem dNamedForm_dropCopies_26 : decode cNamedForm_dropCopies 26 = .ok (.iload_n 2, 1) := by decide +kernel
theorem dNamedForm_dropCopies_27 : decode cNamedForm_dropCopies 27 = .ok (.aload_n 0, 1) := by decide +kernel
theorem dNamedForm_dropCopies_28 : decode cNamedForm_dropCopies 28 = .ok (.getfield 15, 3) := by decide +kernel
theorem dNamedForm_dropCopies_31 : decode cNamedForm_dropCopies 31 = .ok (.invokevirtual 70, 3) := by decide +kernel
theorem dNamedForm_dropCopies_34 : decode cNamedForm_dropCopies 34 = .ok (.if_icmp .ge 24, 3) := by decide +kernel
theorem dNamedForm_dropCopies_37 : decode cNamedForm_dropCopies 37 = .ok (.iload_n 1, 1) := by decide +kernel
theorem dNamedForm_dropCopies_38 : decode cNamedForm_dropCopies 38 = .ok (.aload_n 0, 1) := by decide +kernel
theorem dNamedForm_dropCopies_39 : decode cNamedForm_dropCopies 39 = .ok (.aload_n 0, 1) := by decide +kernel
theorem dNamedForm_dropCopies_40 : decode cNamedForm_dropCopies 40 = .ok (.getfield 15, 3) := by decide +kernel
theorem dNamedForm_dropCopies_43 : decode cNamedForm_dropCopies 43 = .ok (.iload_n 2, 1) := by decide +kernel
theorem dNamedForm_dropCopies_44 : decode cNamedForm_dropCopies 44 = .ok (.invokevirtual 75, 3) := by decide +kernel
theorem dNamedForm_dropCopies_47 : decode cNamedForm_dropCopies 47 = .ok (.invokevirtual 160, 3) := by decide +kernel
theorem dNamedForm_dropCopies_50 : decode cNamedForm_dropCopies 50 = .ok (.iadd, 1) := by decide +kernel
theorem dNamedForm_dropCopies_51 : decode cNamedForm_dropCopies 51 = .ok (.istore_n 1, 1) := by decide +kernel
theorem dNamedForm_dropCopies_52 : decode cNamedForm_dropCopies 52 = .ok (.iinc 2 1, 3) := by decide +kernel
theorem dNamedForm_dropCopies_55 : decode cNamedForm_dropCopies 55 = .ok (.goto (-29), 3) := by decide +kernel
theorem dNamedForm_dropCopies_58 : decode cNamedForm_dropCopies 58 = .ok (.aload_n 0, 1) := by decide +kernel
theorem dNamedForm_dropCopies_59 : decode cNamedForm_dropCopies 59 = .ok (.aload_n 0, 1) := by decide +kernel
theorem dNamedForm_dropCopies_60 : decode cNamedForm_dropCopies 60 = .ok (.getfield 39, 3) := by decide +kernel
theorem dNamedForm_dropCopies_63 : decode cNamedForm_dropCopies 63 = .ok (.invokevirtual 163, 3) := by decide +kernel
theorem dNamedForm_dropCopies_66 : decode cNamedForm_dropCopies 66 = .ok (.aload_n 0, 1) := by decide +kernel
theorem dNamedForm_dropCopies_67 : decode cNamedForm_dropCopies 67 = .ok (.aload_n 0, 1) := by decide +kernel
theorem dNamedForm_dropCopies_68 : decode cNamedForm_dropCopies 68 = .ok (.getfield 42, 3) := by decide +kernel
theorem dNamedForm_dropCopies_71 : decode cNamedForm_dropCopies 71 = .ok (.invokevirtual 163, 3) := by decide +kernel
theorem dNamedForm_dropCopies_74 : decode cNamedForm_dropCopies 74 = .ok (.aload_n 0, 1) := by decide +kernel
theorem dNamedForm_dropCopies_75 : decode cNamedForm_dropCopies 75 = .ok (.aload_n 0, 1) := by decide +kernel
theorem dNamedForm_dropCopies_76 : decode cNamedForm_dropCopies 76 = .ok (.getfield 45, 3) := by decide +kernel
theorem dNamedForm_dropCopies_79 : decode cNamedForm_dropCopies 79 = .ok (.invokevirtual 163, 3) := by decide +kernel
theorem dNamedForm_dropCopies_82 : decode cNamedForm_dropCopies 82 = .ok (.aload_n 0, 1) := by decide +kernel
theorem dNamedForm_dropCopies_83 : decode cNamedForm_dropCopies 83 = .ok (.aload_n 0, 1) := by decide +kernel
theorem dNamedForm_dropCopies_84 : decode cNamedForm_dropCopies 84 = .ok (.getfield 33, 3) := by decide +kernel
theorem dNamedForm_dropCopies_87 : decode cNamedForm_dropCopies 87 = .ok (.invokevirtual 163, 3) := by decide +kernel
theorem dNamedForm_dropCopies_90 : decode cNamedForm_dropCopies 90 = .ok (.iload_n 1, 1) := by decide +kernel
theorem dNamedForm_dropCopies_91 : decode cNamedForm_dropCopies 91 = .ok (.ireturn, 1) := by decide +kernel
theorem dNamedForm_dropCopiesOf_0 : decode cNamedForm_dropCopiesOf 0 = .ok (.iconst 0, 1) := by decide +kernel
theorem dNamedForm_dropCopiesOf_1 : decode cNamedForm_dropCopiesOf 1 = .ok (.istore_n 2, 1) := by decide +kernel
theorem dNamedForm_dropCopiesOf_2 : decode cNamedForm_dropCopiesOf 2 = .ok (.iconst 0, 1) := by decide +kernel
theorem dNamedForm_dropCopiesOf_3 : decode cNamedForm_dropCopiesOf 3 = .ok (.istore_n 3, 1) := by decide +kernel
theorem dNamedForm_dropCopiesOf_4 : decode cNamedForm_dropCopiesOf 4 = .ok (.iload_n 3, 1) := by decide +kernel
theorem dNamedForm_dropCopiesOf_5 : decode cNamedForm_dropCopiesOf 5 = .ok (.aload_n 0, 1) := by decide +kernel
theorem dNamedForm_dropCopiesOf_6 : decode cNamedForm_dropCopiesOf 6 = .ok (.getfield 11, 3) := by decide +kernel
theorem dNamedForm_dropCopiesOf_9 : decode cNamedForm_dropCopiesOf 9 = .ok (.iload_n 1, 1) := by decide +kernel
theorem dNamedForm_dropCopiesOf_10 : decode cNamedForm_dropCopiesOf 10 = .ok (.invokevirtual 114, 3) := by decide +kernel
theorem dNamedForm_dropCopiesOf_13 : decode cNamedForm_dropCopiesOf 13 = .ok (.if_icmp .ge 97, 3) := by decide +kernel
theorem dNamedForm_dropCopiesOf_16 : decode cNamedForm_dropCopiesOf 16 = .ok (.iload_n 1, 1) := by decide +kernel
theorem dNamedForm_dropCopiesOf_17 : decode cNamedForm_dropCopiesOf 17 = .ok (.bipush 6, 2) := by decide +kernel
theorem dNamedForm_dropCopiesOf_19 : decode cNamedForm_dropCopiesOf 19 = .ok (.imul, 1) := by decide +kernel
theorem dNamedForm_dropCopiesOf_20 : decode cNamedForm_dropCopiesOf 20 = .ok (.iload_n 3, 1) := by decide +kernel
theorem dNamedForm_dropCopiesOf_21 : decode cNamedForm_dropCopiesOf 21 = .ok (.iadd, 1) := by decide +kernel
theorem dNamedForm_dropCopiesOf_22 : decode cNamedForm_dropCopiesOf 22 = .ok (.istore 4, 2) := by decide +kernel
theorem dNamedForm_dropCopiesOf_24 : decode cNamedForm_dropCopiesOf 24 = .ok (.aload_n 0, 1) := by decide +kernel
theorem dNamedForm_dropCopiesOf_25 : decode cNamedForm_dropCopiesOf 25 = .ok (.getfield 11, 3) := by decide +kernel
theorem dNamedForm_dropCopiesOf_28 : decode cNamedForm_dropCopiesOf 28 = .ok (.iload_n 1, 1) := by decide +kernel
theorem dNamedForm_dropCopiesOf_29 : decode cNamedForm_dropCopiesOf 29 = .ok (.iload_n 3, 1) := by decide +kernel
theorem dNamedForm_dropCopiesOf_30 : decode cNamedForm_dropCopiesOf 30 = .ok (.invokevirtual 167, 3) := by decide +kernel
theorem dNamedForm_dropCopiesOf_33 : decode cNamedForm_dropCopiesOf 33 = .ok (.iconst 1, 1) := by decide +kernel
theorem dNamedForm_dropCopiesOf_34 : decode cNamedForm_dropCopiesOf 34 = .ok (.if_icmp .ne 70, 3) := by decide +kernel
theorem dNamedForm_dropCopiesOf_37 : decode cNamedForm_dropCopiesOf 37 = .ok (.aload_n 0, 1) := by decide +kernel
theorem dNamedForm_dropCopiesOf_38 : decode cNamedForm_dropCopiesOf 38 = .ok (.getfield 36, 3) := by decide +kernel
theorem dNamedForm_dropCopiesOf_41 : decode cNamedForm_dropCopiesOf 41 = .ok (.iload 4, 2) := by decide +kernel
theorem dNamedForm_dropCopiesOf_43 : decode cNamedForm_dropCopiesOf 43 = .ok (.iaload, 1) := by decide +kernel
theorem dNamedForm_dropCopiesOf_44 : decode cNamedForm_dropCopiesOf 44 = .ok (.iconst (-1), 1) := by decide +kernel
theorem dNamedForm_dropCopiesOf_45 : decode cNamedForm_dropCopiesOf 45 = .ok (.if_icmp .eq 59, 3) := by decide +kernel
theorem dNamedForm_dropCopiesOf_48 : decode cNamedForm_dropCopiesOf 48 = .ok (.aload_n 0, 1) := by decide +kernel
theorem dNamedForm_dropCopiesOf_49 : decode cNamedForm_dropCopiesOf 49 = .ok (.getfield 60, 3) := by decide +kernel
theorem dNamedForm_dropCopiesOf_52 : decode cNamedForm_dropCopiesOf 52 = .ok (.aload_n 0, 1) := by decide +kernel
theorem dNamedForm_dropCopiesOf_53 : decode cNamedForm_dropCopiesOf 53 = .ok (.getfield 36, 3) := by decide +kernel
theorem dNamedForm_dropCopiesOf_56 : decode cNamedForm_dropCopiesOf 56 = .ok (.iload 4, 2) := by decide +kernel
theorem dNamedForm_dropCopiesOf_58 : decode cNamedForm_dropCopiesOf 58 = .ok (.iaload, 1) := by decide +kernel
theorem dNamedForm_dropCopiesOf_59 : decode cNamedForm_dropCopiesOf 59 = .ok (.aload_n 0, 1) := by decide +kernel
theorem dNamedForm_dropCopiesOf_60 : decode cNamedForm_dropCopiesOf 60 = .ok (.getfield 60, 3) := by decide +kernel
theorem dNamedForm_dropCopiesOf_63 : decode cNamedForm_dropCopiesOf 63 = .ok (.aload_n 0, 1) := by decide +kernel
theorem dNamedForm_dropCopiesOf_64 : decode cNamedForm_dropCopiesOf 64 = .ok (.getfield 39, 3) := by decide +kernel
theorem dNamedForm_dropCopiesOf_67 : decode cNamedForm_dropCopiesOf 67 = .ok (.iload 4, 2) := by decide +kernel
theorem dNamedForm_dropCopiesOf_69 : decode cNamedForm_dropCopiesOf 69 = .ok (.iaload, 1) := by decide +kernel
theorem dNamedForm_dropCopiesOf_70 : decode cNamedForm_dropCopiesOf 70 = .ok (.iaload, 1) := by decide +kernel
theorem dNamedForm_dropCopiesOf_71 : decode cNamedForm_dropCopiesOf 71 = .ok (.iastore, 1) := by decide +kernel
theorem dNamedForm_dropCopiesOf_72 : decode cNamedForm_dropCopiesOf 72 = .ok (.aload_n 0, 1) := by decide +kernel
theorem dNamedForm_dropCopiesOf_73 : decode cNamedForm_dropCopiesOf 73 = .ok (.getfield 54, 3) := by decide +kernel
theorem dNamedForm_dropCopiesOf_76 : decode cNamedForm_dropCopiesOf 76 = .ok (.aload_n 0, 1) := by decide +kernel
theorem dNamedForm_dropCopiesOf_77 : decode cNamedForm_dropCopiesOf 77 = .ok (.getfield 36, 3) := by decide +kernel
theorem dNamedForm_dropCopiesOf_80 : decode cNamedForm_dropCopiesOf 80 = .ok (.iload 4, 2) := by decide +kernel
theorem dNamedForm_dropCopiesOf_82 : decode cNamedForm_dropCopiesOf 82 = .ok (.iaload, 1) := by decide +kernel
theorem dNamedForm_dropCopiesOf_83 : decode cNamedForm_dropCopiesOf 83 = .ok (.iconst (-1), 1) := by decide +kernel
theorem dNamedForm_dropCopiesOf_84 : decode cNamedForm_dropCopiesOf 84 = .ok (.iastore, 1) := by decide +kernel
theorem dNamedForm_dropCopiesOf_85 : decode cNamedForm_dropCopiesOf 85 = .ok (.aload_n 0, 1) := by decide +kernel
theorem dNamedForm_dropCopiesOf_86 : decode cNamedForm_dropCopiesOf 86 = .ok (.getfield 36, 3) := by decide +kernel
theorem dNamedForm_dropCopiesOf_89 : decode cNamedForm_dropCopiesOf 89 = .ok (.iload 4, 2) := by decide +kernel
theorem dNamedForm_dropCopiesOf_91 : decode cNamedForm_dropCopiesOf 91 = .ok (.iconst (-1), 1) := by decide +kernel
theorem dNamedForm_dropCopiesOf_92 : decode cNamedForm_dropCopiesOf 92 = .ok (.iastore, 1) := by decide +kernel
theorem dNamedForm_dropCopiesOf_93 : decode cNamedForm_dropCopiesOf 93 = .ok (.aload_n 0, 1) := by decide +kernel
theorem dNamedForm_dropCopiesOf_94 : decode cNamedForm_dropCopiesOf 94 = .ok (.getfield 39, 3) := by decide +kernel
theorem dNamedForm_dropCopiesOf_97 : decode cNamedForm_dropCopiesOf 97 = .ok (.iload 4, 2) := by decide +kernel
theorem dNamedForm_dropCopiesOf_99 : decode cNamedForm_dropCopiesOf 99 = .ok (.iconst (-1), 1) := by decide +kernel
theorem dNamedForm_dropCopiesOf_100 : decode cNamedForm_dropCopiesOf 100 = .ok (.iastore, 1) := by decide +kernel
theorem dNamedForm_dropCopiesOf_101 : decode cNamedForm_dropCopiesOf 101 = .ok (.iinc 2 1, 3) := by decide +kernel
theorem dNamedForm_dropCopiesOf_104 : decode cNamedForm_dropCopiesOf 104 = .ok (.iinc 3 1, 3) := by decide +kernel
theorem dNamedForm_dropCopiesOf_107 : decode cNamedForm_dropCopiesOf 107 = .ok (.goto (-103), 3) := by decide +kernel
theorem dNamedForm_dropCopiesOf_110 : decode cNamedForm_dropCopiesOf 110 = .ok (.iload_n 2, 1) := by decide +kernel
theorem dNamedForm_dropCopiesOf_111 : decode cNamedForm_dropCopiesOf 111 = .ok (.ireturn, 1) := by decide +kernel
theorem dNamedForm_replaceAll_0 : decode cNamedForm_replaceAll 0 = .ok (.iconst 0, 1) := by decide +kernel
theorem dNamedForm_replaceAll_1 : decode cNamedForm_replaceAll 1 = .ok (.istore_n 2, 1) := by decide +kernel
theorem dNamedForm_replaceAll_2 : decode cNamedForm_replaceAll 2 = .ok (.iload_n 2, 1) := by decide +kernel
theorem dNamedForm_replaceAll_3 : decode cNamedForm_replaceAll 3 = .ok (.aload_n 1, 1) := by decide +kernel
theorem dNamedForm_replaceAll_4 : decode cNamedForm_replaceAll 4 = .ok (.arraylength, 1) := by decide +kernel
theorem dNamedForm_replaceAll_5 : decode cNamedForm_replaceAll 5 = .ok (.if_icmp .ge 27, 3) := by decide +kernel
theorem dNamedForm_replaceAll_8 : decode cNamedForm_replaceAll 8 = .ok (.aload_n 1, 1) := by decide +kernel
theorem dNamedForm_replaceAll_9 : decode cNamedForm_replaceAll 9 = .ok (.iload_n 2, 1) := by decide +kernel
theorem dNamedForm_replaceAll_10 : decode cNamedForm_replaceAll 10 = .ok (.iaload, 1) := by decide +kernel
theorem dNamedForm_replaceAll_11 : decode cNamedForm_replaceAll 11 = .ok (.iconst (-1), 1) := by decide +kernel
theorem dNamedForm_replaceAll_12 : decode cNamedForm_replaceAll 12 = .ok (.if_icmp .eq 14, 3) := by decide +kernel
theorem dNamedForm_replaceAll_15 : decode cNamedForm_replaceAll 15 = .ok (.aload_n 1, 1) := by decide +kernel
theorem dNamedForm_replaceAll_16 : decode cNamedForm_replaceAll 16 = .ok (.iload_n 2, 1) := by decide +kernel
theorem dNamedForm_replaceAll_17 : decode cNamedForm_replaceAll 17 = .ok (.aload_n 0, 1) := by decide +kernel
theorem dNamedForm_replaceAll_18 : decode cNamedForm_replaceAll 18 = .ok (.getfield 60, 3) := by decide +kernel
theorem dNamedForm_replaceAll_21 : decode cNamedForm_replaceAll 21 = .ok (.aload_n 1, 1) := by decide +kernel
theorem dNamedForm_replaceAll_22 : decode cNamedForm_replaceAll 22 = .ok (.iload_n 2, 1) := by decide +kernel
theorem dNamedForm_replaceAll_23 : decode cNamedForm_replaceAll 23 = .ok (.iaload, 1) := by decide +kernel
theorem dNamedForm_replaceAll_24 : decode cNamedForm_replaceAll 24 = .ok (.iaload, 1) := by decide +kernel
theorem dNamedForm_replaceAll_25 : decode cNamedForm_replaceAll 25 = .ok (.iastore, 1) := by decide +kernel
theorem dNamedForm_replaceAll_26 : decode cNamedForm_replaceAll 26 = .ok (.iinc 2 1, 3) := by decide +kernel
theorem dNamedForm_replaceAll_29 : decode cNamedForm_replaceAll 29 = .ok (.goto (-27), 3) := by decide +kernel
theorem dNamedForm_replaceAll_32 : decode cNamedForm_replaceAll 32 = .ok (.return_, 1) := by decide +kernel
theorem dNamedForm_hasName_0 : decode cNamedForm_hasName 0 = .ok (.iload_n 1, 1) := by decide +kernel
theorem dNamedForm_hasName_1 : decode cNamedForm_hasName 1 = .ok (.ifCond .lt 24, 3) := by decide +kernel
theorem dNamedForm_hasName_4 : decode cNamedForm_hasName 4 = .ok (.iload_n 1, 1) := by decide +kernel
theorem dNamedForm_hasName_5 : decode cNamedForm_hasName 5 = .ok (.sipush 600, 3) := by decide +kernel
theorem dNamedForm_hasName_8 : decode cNamedForm_hasName 8 = .ok (.if_icmp .ge 17, 3) := by decide +kernel
theorem dNamedForm_hasName_11 : decode cNamedForm_hasName 11 = .ok (.aload_n 0, 1) := by decide +kernel
theorem dNamedForm_hasName_12 : decode cNamedForm_hasName 12 = .ok (.getfield 54, 3) := by decide +kernel
theorem dNamedForm_hasName_15 : decode cNamedForm_hasName 15 = .ok (.iload_n 1, 1) := by decide +kernel
theorem dNamedForm_hasName_16 : decode cNamedForm_hasName 16 = .ok (.iaload, 1) := by decide +kernel
theorem dNamedForm_hasName_17 : decode cNamedForm_hasName 17 = .ok (.iconst (-1), 1) := by decide +kernel
theorem dNamedForm_hasName_18 : decode cNamedForm_hasName 18 = .ok (.if_icmp .eq 7, 3) := by decide +kernel
theorem dNamedForm_hasName_21 : decode cNamedForm_hasName 21 = .ok (.iconst 1, 1) := by decide +kernel
theorem dNamedForm_hasName_22 : decode cNamedForm_hasName 22 = .ok (.goto 4, 3) := by decide +kernel
theorem dNamedForm_hasName_25 : decode cNamedForm_hasName 25 = .ok (.iconst 0, 1) := by decide +kernel
theorem dNamedForm_hasName_26 : decode cNamedForm_hasName 26 = .ok (.ireturn, 1) := by decide +kernel
theorem dNamedForm_entryName_0 : decode cNamedForm_entryName 0 = .ok (.bipush 100, 2) := by decide +kernel
theorem dNamedForm_entryName_2 : decode cNamedForm_entryName 2 = .ok (.iload_n 1, 1) := by decide +kernel
theorem dNamedForm_entryName_3 : decode cNamedForm_entryName 3 = .ok (.imul, 1) := by decide +kernel
theorem dNamedForm_entryName_4 : decode cNamedForm_entryName 4 = .ok (.ireturn, 1) := by decide +kernel
theorem dNamedForm_meetingName_0 : decode cNamedForm_meetingName 0 = .ok (.aload_n 0, 1) := by decide +kernel
theorem dNamedForm_meetingName_1 : decode cNamedForm_meetingName 1 = .ok (.getfield 29, 3) := by decide +kernel
theorem dNamedForm_meetingName_4 : decode cNamedForm_meetingName 4 = .ok (.iload_n 1, 1) := by decide +kernel
theorem dNamedForm_meetingName_5 : decode cNamedForm_meetingName 5 = .ok (.bipush 6, 2) := by decide +kernel
theorem dNamedForm_meetingName_7 : decode cNamedForm_meetingName 7 = .ok (.imul, 1) := by decide +kernel
theorem dNamedForm_meetingName_8 : decode cNamedForm_meetingName 8 = .ok (.iload_n 2, 1) := by decide +kernel
theorem dNamedForm_meetingName_9 : decode cNamedForm_meetingName 9 = .ok (.iadd, 1) := by decide +kernel
theorem dNamedForm_meetingName_10 : decode cNamedForm_meetingName 10 = .ok (.iaload, 1) := by decide +kernel
theorem dNamedForm_meetingName_11 : decode cNamedForm_meetingName 11 = .ok (.ireturn, 1) := by decide +kernel
theorem dNamedForm_meetingUse_0 : decode cNamedForm_meetingUse 0 = .ok (.aload_n 0, 1) := by decide +kernel
theorem dNamedForm_meetingUse_1 : decode cNamedForm_meetingUse 1 = .ok (.getfield 33, 3) := by decide +kernel
theorem dNamedForm_meetingUse_4 : decode cNamedForm_meetingUse 4 = .ok (.aload_n 0, 1) := by decide +kernel
theorem dNamedForm_meetingUse_5 : decode cNamedForm_meetingUse 5 = .ok (.iload_n 1, 1) := by decide +kernel
theorem dNamedForm_meetingUse_6 : decode cNamedForm_meetingUse 6 = .ok (.iload_n 2, 1) := by decide +kernel
theorem dNamedForm_meetingUse_7 : decode cNamedForm_meetingUse 7 = .ok (.iload_n 3, 1) := by decide +kernel
theorem dNamedForm_meetingUse_8 : decode cNamedForm_meetingUse 8 = .ok (.invokevirtual 143, 3) := by decide +kernel
theorem dNamedForm_meetingUse_11 : decode cNamedForm_meetingUse 11 = .ok (.iaload, 1) := by decide +kernel
theorem dNamedForm_meetingUse_12 : decode cNamedForm_meetingUse 12 = .ok (.ireturn, 1) := by decide +kernel
theorem dNamedForm_nameSet_0 : decode cNamedForm_nameSet 0 = .ok (.aload_n 0, 1) := by decide +kernel
theorem dNamedForm_nameSet_1 : decode cNamedForm_nameSet 1 = .ok (.getfield 36, 3) := by decide +kernel
theorem dNamedForm_nameSet_4 : decode cNamedForm_nameSet 4 = .ok (.iload_n 1, 1) := by decide +kernel
theorem dNamedForm_nameSet_5 : decode cNamedForm_nameSet 5 = .ok (.bipush 6, 2) := by decide +kernel
theorem dNamedForm_nameSet_7 : decode cNamedForm_nameSet 7 = .ok (.imul, 1) := by decide +kernel
theorem dNamedForm_nameSet_8 : decode cNamedForm_nameSet 8 = .ok (.iload_n 2, 1) := by decide +kernel
theorem dNamedForm_nameSet_9 : decode cNamedForm_nameSet 9 = .ok (.iadd, 1) := by decide +kernel
theorem dNamedForm_nameSet_10 : decode cNamedForm_nameSet 10 = .ok (.iaload, 1) := by decide +kernel
theorem dNamedForm_nameSet_11 : decode cNamedForm_nameSet 11 = .ok (.ireturn, 1) := by decide +kernel
theorem dNamedForm_stepUse_0 : decode cNamedForm_stepUse 0 = .ok (.iload_n 1, 1) := by decide +kernel
theorem dNamedForm_stepUse_1 : decode cNamedForm_stepUse 1 = .ok (.bipush 6, 2) := by decide +kernel
theorem dNamedForm_stepUse_3 : decode cNamedForm_stepUse 3 = .ok (.imul, 1) := by decide +kernel
theorem dNamedForm_stepUse_4 : decode cNamedForm_stepUse 4 = .ok (.iload_n 2, 1) := by decide +kernel
theorem dNamedForm_stepUse_5 : decode cNamedForm_stepUse 5 = .ok (.iadd, 1) := by decide +kernel
theorem dNamedForm_stepUse_6 : decode cNamedForm_stepUse 6 = .ok (.istore 4, 2) := by decide +kernel
theorem dNamedForm_stepUse_8 : decode cNamedForm_stepUse 8 = .ok (.iload_n 3, 1) := by decide +kernel
theorem dNamedForm_stepUse_9 : decode cNamedForm_stepUse 9 = .ok (.ifCond .ne 13, 3) := by decide +kernel
theorem dNamedForm_stepUse_12 : decode cNamedForm_stepUse 12 = .ok (.aload_n 0, 1) := by decide +kernel
theorem dNamedForm_stepUse_13 : decode cNamedForm_stepUse 13 = .ok (.getfield 39, 3) := by decide +kernel
theorem dNamedForm_stepUse_16 : decode cNamedForm_stepUse 16 = .ok (.iload 4, 2) := by decide +kernel
theorem dNamedForm_stepUse_18 : decode cNamedForm_stepUse 18 = .ok (.iaload, 1) := by decide +kernel
theorem dNamedForm_stepUse_19 : decode cNamedForm_stepUse 19 = .ok (.goto 10, 3) := by decide +kernel
theorem dNamedForm_stepUse_22 : decode cNamedForm_stepUse 22 = .ok (.aload_n 0, 1) := by decide +kernel
theorem dNamedForm_stepUse_23 : decode cNamedForm_stepUse 23 = .ok (.getfield 42, 3) := by decide +kernel
theorem dNamedForm_stepUse_26 : decode cNamedForm_stepUse 26 = .ok (.iload 4, 2) := by decide +kernel
theorem dNamedForm_stepUse_28 : decode cNamedForm_stepUse 28 = .ok (.iaload, 1) := by decide +kernel
theorem dNamedForm_stepUse_29 : decode cNamedForm_stepUse 29 = .ok (.ireturn, 1) := by decide +kernel
theorem dNamedForm_endUse_0 : decode cNamedForm_endUse 0 = .ok (.aload_n 0, 1) := by decide +kernel
theorem dNamedForm_endUse_1 : decode cNamedForm_endUse 1 = .ok (.getfield 45, 3) := by decide +kernel
theorem dNamedForm_endUse_4 : decode cNamedForm_endUse 4 = .ok (.iload_n 1, 1) := by decide +kernel
theorem dNamedForm_endUse_5 : decode cNamedForm_endUse 5 = .ok (.iaload, 1) := by decide +kernel
theorem dNamedForm_endUse_6 : decode cNamedForm_endUse 6 = .ok (.ireturn, 1) := by decide +kernel
theorem dNamedForm_changeEndUse_0 : decode cNamedForm_changeEndUse 0 = .ok (.aload_n 0, 1) := by decide +kernel
theorem dNamedForm_changeEndUse_1 : decode cNamedForm_changeEndUse 1 = .ok (.getfield 45, 3) := by decide +kernel
theorem dNamedForm_changeEndUse_4 : decode cNamedForm_changeEndUse 4 = .ok (.iload_n 1, 1) := by decide +kernel
theorem dNamedForm_changeEndUse_5 : decode cNamedForm_changeEndUse 5 = .ok (.iload_n 2, 1) := by decide +kernel
theorem dNamedForm_changeEndUse_6 : decode cNamedForm_changeEndUse 6 = .ok (.iastore, 1) := by decide +kernel
theorem dNamedForm_changeEndUse_7 : decode cNamedForm_changeEndUse 7 = .ok (.return_, 1) := by decide +kernel
theorem dNamedForm_changeStepUse_0 : decode cNamedForm_changeStepUse 0 = .ok (.iload_n 1, 1) := by decide +kernel
theorem dNamedForm_changeStepUse_1 : decode cNamedForm_changeStepUse 1 = .ok (.bipush 6, 2) := by decide +kernel
theorem dNamedForm_changeStepUse_3 : decode cNamedForm_changeStepUse 3 = .ok (.imul, 1) := by decide +kernel
theorem dNamedForm_changeStepUse_4 : decode cNamedForm_changeStepUse 4 = .ok (.iload_n 2, 1) := by decide +kernel
theorem dNamedForm_changeStepUse_5 : decode cNamedForm_changeStepUse 5 = .ok (.iadd, 1) := by decide +kernel
theorem dNamedForm_changeStepUse_6 : decode cNamedForm_changeStepUse 6 = .ok (.istore 5, 2) := by decide +kernel
theorem dNamedForm_changeStepUse_8 : decode cNamedForm_changeStepUse 8 = .ok (.iload_n 3, 1) := by decide +kernel
theorem dNamedForm_changeStepUse_9 : decode cNamedForm_changeStepUse 9 = .ok (.ifCond .ne 15, 3) := by decide +kernel
theorem dNamedForm_changeStepUse_12 : decode cNamedForm_changeStepUse 12 = .ok (.aload_n 0, 1) := by decide +kernel
theorem dNamedForm_changeStepUse_13 : decode cNamedForm_changeStepUse 13 = .ok (.getfield 39, 3) := by decide +kernel
theorem dNamedForm_changeStepUse_16 : decode cNamedForm_changeStepUse 16 = .ok (.iload 5, 2) := by decide +kernel
theorem dNamedForm_changeStepUse_18 : decode cNamedForm_changeStepUse 18 = .ok (.iload 4, 2) := by decide +kernel
theorem dNamedForm_changeStepUse_20 : decode cNamedForm_changeStepUse 20 = .ok (.iastore, 1) := by decide +kernel
theorem dNamedForm_changeStepUse_21 : decode cNamedForm_changeStepUse 21 = .ok (.goto 12, 3) := by decide +kernel
theorem dNamedForm_changeStepUse_24 : decode cNamedForm_changeStepUse 24 = .ok (.aload_n 0, 1) := by decide +kernel
theorem dNamedForm_changeStepUse_25 : decode cNamedForm_changeStepUse 25 = .ok (.getfield 42, 3) := by decide +kernel
theorem dNamedForm_changeStepUse_28 : decode cNamedForm_changeStepUse 28 = .ok (.iload 5, 2) := by decide +kernel
theorem dNamedForm_changeStepUse_30 : decode cNamedForm_changeStepUse 30 = .ok (.iload 4, 2) := by decide +kernel
theorem dNamedForm_changeStepUse_32 : decode cNamedForm_changeStepUse 32 = .ok (.iastore, 1) := by decide +kernel
theorem dNamedForm_changeStepUse_33 : decode cNamedForm_changeStepUse 33 = .ok (.return_, 1) := by decide +kernel
theorem dNamedForm_changeMeetingUse_0 : decode cNamedForm_changeMeetingUse 0 = .ok (.aload_n 0, 1) := by decide +kernel
theorem dNamedForm_changeMeetingUse_1 : decode cNamedForm_changeMeetingUse 1 = .ok (.getfield 33, 3) := by decide +kernel
theorem dNamedForm_changeMeetingUse_4 : decode cNamedForm_changeMeetingUse 4 = .ok (.aload_n 0, 1) := by decide +kernel
theorem dNamedForm_changeMeetingUse_5 : decode cNamedForm_changeMeetingUse 5 = .ok (.iload_n 1, 1) := by decide +kernel
theorem dNamedForm_changeMeetingUse_6 : decode cNamedForm_changeMeetingUse 6 = .ok (.iload_n 2, 1) := by decide +kernel
theorem dNamedForm_changeMeetingUse_7 : decode cNamedForm_changeMeetingUse 7 = .ok (.iload_n 3, 1) := by decide +kernel
theorem dNamedForm_changeMeetingUse_8 : decode cNamedForm_changeMeetingUse 8 = .ok (.invokevirtual 143, 3) := by decide +kernel
theorem dNamedForm_changeMeetingUse_11 : decode cNamedForm_changeMeetingUse 11 = .ok (.iload 4, 2) := by decide +kernel
theorem dNamedForm_changeMeetingUse_13 : decode cNamedForm_changeMeetingUse 13 = .ok (.iastore, 1) := by decide +kernel
theorem dNamedForm_changeMeetingUse_14 : decode cNamedForm_changeMeetingUse 14 = .ok (.return_, 1) := by decide +kernel
