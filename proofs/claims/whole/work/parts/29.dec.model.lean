theorem dMd_thrown_0 : decode cMd_thrown 0 = .ok (.aload_n 0, 1) := by decide +kernel
theorem dMd_thrown_1 : decode cMd_thrown 1 = .ok (.getfield 99, 3) := by decide +kernel
theorem dMd_thrown_4 : decode cMd_thrown 4 = .ok (.ireturn, 1) := by decide +kernel
theorem dMd_noBlock_0 : decode cMd_noBlock 0 = .ok (.iload_n 1, 1) := by decide +kernel
theorem dMd_noBlock_1 : decode cMd_noBlock 1 = .ok (.ifCond .lt 11, 3) := by decide +kernel
theorem dMd_noBlock_4 : decode cMd_noBlock 4 = .ok (.iload_n 1, 1) := by decide +kernel
theorem dMd_noBlock_5 : decode cMd_noBlock 5 = .ok (.aload_n 0, 1) := by decide +kernel
theorem dMd_noBlock_6 : decode cMd_noBlock 6 = .ok (.getfield 95, 3) := by decide +kernel
theorem dMd_noBlock_9 : decode cMd_noBlock 9 = .ok (.if_icmp .lt 7, 3) := by decide +kernel
theorem dMd_noBlock_12 : decode cMd_noBlock 12 = .ok (.iconst 1, 1) := by decide +kernel
theorem dMd_noBlock_13 : decode cMd_noBlock 13 = .ok (.goto 4, 3) := by decide +kernel
theorem dMd_noBlock_16 : decode cMd_noBlock 16 = .ok (.iconst 0, 1) := by decide +kernel
theorem dMd_noBlock_17 : decode cMd_noBlock 17 = .ok (.ireturn, 1) := by decide +kernel
theorem dMd_noVariable_0 : decode cMd_noVariable 0 = .ok (.iload_n 1, 1) := by decide +kernel
theorem dMd_noVariable_1 : decode cMd_noVariable 1 = .ok (.ifCond .lt 8, 3) := by decide +kernel
theorem dMd_noVariable_4 : decode cMd_noVariable 4 = .ok (.iload_n 1, 1) := by decide +kernel
theorem dMd_noVariable_5 : decode cMd_noVariable 5 = .ok (.iconst 5, 1) := by decide +kernel
theorem dMd_noVariable_6 : decode cMd_noVariable 6 = .ok (.if_icmp .le 7, 3) := by decide +kernel
theorem dMd_noVariable_9 : decode cMd_noVariable 9 = .ok (.iconst 1, 1) := by decide +kernel
theorem dMd_noVariable_10 : decode cMd_noVariable 10 = .ok (.goto 4, 3) := by decide +kernel
theorem dMd_noVariable_13 : decode cMd_noVariable 13 = .ok (.iconst 0, 1) := by decide +kernel
theorem dMd_noVariable_14 : decode cMd_noVariable 14 = .ok (.ireturn, 1) := by decide +kernel
theorem dMd_step_0 : decode cMd_step 0 = .ok (.aload_n 0, 1) := by decide +kernel
theorem dMd_step_1 : decode cMd_step 1 = .ok (.iload_n 1, 1) := by decide +kernel
theorem dMd_step_2 : decode cMd_step 2 = .ok (.invokevirtual 102, 3) := by decide +kernel
theorem dMd_step_5 : decode cMd_step 5 = .ok (.ifCond .ne 80, 3) := by decide +kernel
theorem dMd_step_8 : decode cMd_step 8 = .ok (.iload_n 2, 1) := by decide +kernel
theorem dMd_step_9 : decode cMd_step 9 = .ok (.ifCond .lt 76, 3) := by decide +kernel
theorem dMd_step_12 : decode cMd_step 12 = .ok (.iload_n 2, 1) := by decide +kernel
theorem dMd_step_13 : decode cMd_step 13 = .ok (.bipush 7, 2) := by decide +kernel
theorem dMd_step_15 : decode cMd_step 15 = .ok (.if_icmp .gt 70, 3) := by decide +kernel
theorem dMd_step_18 : decode cMd_step 18 = .ok (.iload_n 2, 1) := by decide +kernel
theorem dMd_step_19 : decode cMd_step 19 = .ok (.bipush 7, 2) := by decide +kernel
theorem dMd_step_21 : decode cMd_step 21 = .ok (.if_icmp .ge 11, 3) := by decide +kernel
theorem dMd_step_24 : decode cMd_step 24 = .ok (.aload_n 0, 1) := by decide +kernel
theorem dMd_step_25 : decode cMd_step 25 = .ok (.iload_n 3, 1) := by decide +kernel
theorem dMd_step_26 : decode cMd_step 26 = .ok (.invokevirtual 106, 3) := by decide +kernel
theorem dMd_step_29 : decode cMd_step 29 = .ok (.ifCond .ne 56, 3) := by decide +kernel
theorem dMd_step_32 : decode cMd_step 32 = .ok (.iload_n 2, 1) := by decide +kernel
theorem dMd_step_33 : decode cMd_step 33 = .ok (.ifCond .le 12, 3) := by decide +kernel
theorem dMd_step_36 : decode cMd_step 36 = .ok (.aload_n 0, 1) := by decide +kernel
theorem dMd_step_37 : decode cMd_step 37 = .ok (.iload 4, 2) := by decide +kernel
theorem dMd_step_39 : decode cMd_step 39 = .ok (.invokevirtual 106, 3) := by decide +kernel
theorem dMd_step_42 : decode cMd_step 42 = .ok (.ifCond .ne 43, 3) := by decide +kernel
theorem dMd_step_45 : decode cMd_step 45 = .ok (.iload_n 2, 1) := by decide +kernel
theorem dMd_step_46 : decode cMd_step 46 = .ok (.iconst 1, 1) := by decide +kernel
theorem dMd_step_47 : decode cMd_step 47 = .ok (.if_icmp .le 18, 3) := by decide +kernel
theorem dMd_step_50 : decode cMd_step 50 = .ok (.iload_n 2, 1) := by decide +kernel
theorem dMd_step_51 : decode cMd_step 51 = .ok (.bipush 7, 2) := by decide +kernel
theorem dMd_step_53 : decode cMd_step 53 = .ok (.if_icmp .ge 12, 3) := by decide +kernel
theorem dMd_step_56 : decode cMd_step 56 = .ok (.aload_n 0, 1) := by decide +kernel
theorem dMd_step_57 : decode cMd_step 57 = .ok (.iload 5, 2) := by decide +kernel
theorem dMd_step_59 : decode cMd_step 59 = .ok (.invokevirtual 106, 3) := by decide +kernel
theorem dMd_step_62 : decode cMd_step 62 = .ok (.ifCond .ne 23, 3) := by decide +kernel
theorem dMd_step_65 : decode cMd_step 65 = .ok (.iload_n 2, 1) := by decide +kernel
theorem dMd_step_66 : decode cMd_step 66 = .ok (.ifCond .ne 23, 3) := by decide +kernel
theorem dMd_step_69 : decode cMd_step 69 = .ok (.iload 4, 2) := by decide +kernel
theorem dMd_step_71 : decode cMd_step 71 = .ok (.sipush (-999), 3) := by decide +kernel
theorem dMd_step_74 : decode cMd_step 74 = .ok (.if_icmp .lt 11, 3) := by decide +kernel
theorem dMd_step_77 : decode cMd_step 77 = .ok (.iload 4, 2) := by decide +kernel
theorem dMd_step_79 : decode cMd_step 79 = .ok (.sipush 999, 3) := by decide +kernel
theorem dMd_step_82 : decode cMd_step 82 = .ok (.if_icmp .le 7, 3) := by decide +kernel
theorem dMd_step_85 : decode cMd_step 85 = .ok (.iconst 1, 1) := by decide +kernel
theorem dMd_step_86 : decode cMd_step 86 = .ok (.goto 4, 3) := by decide +kernel
theorem dMd_step_89 : decode cMd_step 89 = .ok (.iconst 0, 1) := by decide +kernel
theorem dMd_step_90 : decode cMd_step 90 = .ok (.istore 6, 2) := by decide +kernel
theorem dMd_step_92 : decode cMd_step 92 = .ok (.aload_n 0, 1) := by decide +kernel
theorem dMd_step_93 : decode cMd_step 93 = .ok (.iload 6, 2) := by decide +kernel
theorem dMd_step_95 : decode cMd_step 95 = .ok (.ifCond .eq 7, 3) := by decide +kernel
theorem dMd_step_98 : decode cMd_step 98 = .ok (.iconst 1, 1) := by decide +kernel
theorem dMd_step_99 : decode cMd_step 99 = .ok (.goto 4, 3) := by decide +kernel
theorem dMd_step_102 : decode cMd_step 102 = .ok (.iconst 0, 1) := by decide +kernel
theorem dMd_step_103 : decode cMd_step 103 = .ok (.putfield 99, 3) := by decide +kernel
theorem dMd_step_106 : decode cMd_step 106 = .ok (.aload_n 0, 1) := by decide +kernel
theorem dMd_step_107 : decode cMd_step 107 = .ok (.getfield 99, 3) := by decide +kernel
theorem dMd_step_110 : decode cMd_step 110 = .ok (.ifCond .eq 5, 3) := by decide +kernel
theorem dMd_step_113 : decode cMd_step 113 = .ok (.iconst 0, 1) := by decide +kernel
theorem dMd_step_114 : decode cMd_step 114 = .ok (.ireturn, 1) := by decide +kernel
theorem dMd_step_115 : decode cMd_step 115 = .ok (.aload_n 0, 1) := by decide +kernel
theorem dMd_step_116 : decode cMd_step 116 = .ok (.aload_n 0, 1) := by decide +kernel
theorem dMd_step_117 : decode cMd_step 117 = .ok (.getfield 7, 3) := by decide +kernel
theorem dMd_step_120 : decode cMd_step 120 = .ok (.iload_n 1, 1) := by decide +kernel
theorem dMd_step_121 : decode cMd_step 121 = .ok (.iaload, 1) := by decide +kernel
theorem dMd_step_122 : decode cMd_step 122 = .ok (.bipush 6, 2) := by decide +kernel
theorem dMd_step_124 : decode cMd_step 124 = .ok (.if_icmp .ne 7, 3) := by decide +kernel
theorem dMd_step_127 : decode cMd_step 127 = .ok (.iconst 2, 1) := by decide +kernel
theorem dMd_step_128 : decode cMd_step 128 = .ok (.goto 4, 3) := by decide +kernel
theorem dMd_step_131 : decode cMd_step 131 = .ok (.iconst 0, 1) := by decide +kernel
theorem dMd_step_132 : decode cMd_step 132 = .ok (.putfield 99, 3) := by decide +kernel
theorem dMd_step_135 : decode cMd_step 135 = .ok (.aload_n 0, 1) := by decide +kernel
theorem dMd_step_136 : decode cMd_step 136 = .ok (.getfield 99, 3) := by decide +kernel
theorem dMd_step_139 : decode cMd_step 139 = .ok (.ifCond .eq 5, 3) := by decide +kernel
theorem dMd_step_142 : decode cMd_step 142 = .ok (.iconst 0, 1) := by decide +kernel
theorem dMd_step_143 : decode cMd_step 143 = .ok (.ireturn, 1) := by decide +kernel
theorem dMd_step_144 : decode cMd_step 144 = .ok (.bipush 6, 2) := by decide +kernel
theorem dMd_step_146 : decode cMd_step 146 = .ok (.iload_n 1, 1) := by decide +kernel
theorem dMd_step_147 : decode cMd_step 147 = .ok (.imul, 1) := by decide +kernel
theorem dMd_step_148 : decode cMd_step 148 = .ok (.aload_n 0, 1) := by decide +kernel
theorem dMd_step_149 : decode cMd_step 149 = .ok (.getfield 7, 3) := by decide +kernel
theorem dMd_step_152 : decode cMd_step 152 = .ok (.iload_n 1, 1) := by decide +kernel
theorem dMd_step_153 : decode cMd_step 153 = .ok (.iaload, 1) := by decide +kernel
theorem dMd_step_154 : decode cMd_step 154 = .ok (.iadd, 1) := by decide +kernel
theorem dMd_step_155 : decode cMd_step 155 = .ok (.istore 7, 2) := by decide +kernel
theorem dMd_step_157 : decode cMd_step 157 = .ok (.aload_n 0, 1) := by decide +kernel
theorem dMd_step_158 : decode cMd_step 158 = .ok (.getfield 13, 3) := by decide +kernel
theorem dMd_step_161 : decode cMd_step 161 = .ok (.iload 7, 2) := by decide +kernel
theorem dMd_step_163 : decode cMd_step 163 = .ok (.iload_n 2, 1) := by decide +kernel
theorem dMd_step_164 : decode cMd_step 164 = .ok (.iastore, 1) := by decide +kernel
theorem dMd_step_165 : decode cMd_step 165 = .ok (.aload_n 0, 1) := by decide +kernel
theorem dMd_step_166 : decode cMd_step 166 = .ok (.getfield 16, 3) := by decide +kernel
theorem dMd_step_169 : decode cMd_step 169 = .ok (.iload 7, 2) := by decide +kernel
theorem dMd_step_171 : decode cMd_step 171 = .ok (.iload_n 3, 1) := by decide +kernel
theorem dMd_step_172 : decode cMd_step 172 = .ok (.iastore, 1) := by decide +kernel
theorem dMd_step_173 : decode cMd_step 173 = .ok (.aload_n 0, 1) := by decide +kernel
theorem dMd_step_174 : decode cMd_step 174 = .ok (.getfield 19, 3) := by decide +kernel
theorem dMd_step_177 : decode cMd_step 177 = .ok (.iload 7, 2) := by decide +kernel
theorem dMd_step_179 : decode cMd_step 179 = .ok (.iload 4, 2) := by decide +kernel
theorem dMd_step_181 : decode cMd_step 181 = .ok (.iastore, 1) := by decide +kernel
theorem dMd_step_182 : decode cMd_step 182 = .ok (.aload_n 0, 1) := by decide +kernel
theorem dMd_step_183 : decode cMd_step 183 = .ok (.getfield 22, 3) := by decide +kernel
theorem dMd_step_186 : decode cMd_step 186 = .ok (.iload 7, 2) := by decide +kernel
theorem dMd_step_188 : decode cMd_step 188 = .ok (.iload 5, 2) := by decide +kernel
theorem dMd_step_190 : decode cMd_step 190 = .ok (.iastore, 1) := by decide +kernel
theorem dMd_step_191 : decode cMd_step 191 = .ok (.aload_n 0, 1) := by decide +kernel
theorem dMd_step_192 : decode cMd_step 192 = .ok (.getfield 7, 3) := by decide +kernel
theorem dMd_step_195 : decode cMd_step 195 = .ok (.iload_n 1, 1) := by decide +kernel
theorem dMd_step_196 : decode cMd_step 196 = .ok (.dup2, 1) := by decide +kernel
theorem dMd_step_197 : decode cMd_step 197 = .ok (.iaload, 1) := by decide +kernel
theorem dMd_step_198 : decode cMd_step 198 = .ok (.iconst 1, 1) := by decide +kernel
theorem dMd_step_199 : decode cMd_step 199 = .ok (.iadd, 1) := by decide +kernel
theorem dMd_step_200 : decode cMd_step 200 = .ok (.iastore, 1) := by decide +kernel
theorem dMd_step_201 : decode cMd_step 201 = .ok (.aload_n 0, 1) := by decide +kernel
theorem dMd_step_202 : decode cMd_step 202 = .ok (.iconst 0, 1) := by decide +kernel
theorem dMd_step_203 : decode cMd_step 203 = .ok (.putfield 109, 3) := by decide +kernel
theorem dMd_step_206 : decode cMd_step 206 = .ok (.aload_n 0, 1) := by decide +kernel
theorem dMd_step_207 : decode cMd_step 207 = .ok (.getfield 7, 3) := by decide +kernel
theorem dMd_step_210 : decode cMd_step 210 = .ok (.iload_n 1, 1) := by decide +kernel
theorem dMd_step_211 : decode cMd_step 211 = .ok (.iaload, 1) := by decide +kernel
theorem dMd_step_212 : decode cMd_step 212 = .ok (.ireturn, 1) := by decide +kernel
theorem dMd_go_0 : decode cMd_go 0 = .ok (.aload_n 0, 1) := by decide +kernel
theorem dMd_go_1 : decode cMd_go 1 = .ok (.aload_n 0, 1) := by decide +kernel
theorem dMd_go_2 : decode cMd_go 2 = .ok (.iload_n 1, 1) := by decide +kernel
theorem dMd_go_3 : decode cMd_go 3 = .ok (.invokevirtual 102, 3) := by decide +kernel
theorem dMd_go_6 : decode cMd_go 6 = .ok (.ifCond .ne 11, 3) := by decide +kernel
theorem dMd_go_9 : decode cMd_go 9 = .ok (.aload_n 0, 1) := by decide +kernel
theorem dMd_go_10 : decode cMd_go 10 = .ok (.iload_n 2, 1) := by decide +kernel
theorem dMd_go_11 : decode cMd_go 11 = .ok (.invokevirtual 102, 3) := by decide +kernel
theorem dMd_go_14 : decode cMd_go 14 = .ok (.ifCond .eq 7, 3) := by decide +kernel
theorem dMd_go_17 : decode cMd_go 17 = .ok (.iconst 1, 1) := by decide +kernel
theorem dMd_go_18 : decode cMd_go 18 = .ok (.goto 4, 3) := by decide +kernel
theorem dMd_go_21 : decode cMd_go 21 = .ok (.iconst 0, 1) := by decide +kernel
theorem dMd_go_22 : decode cMd_go 22 = .ok (.putfield 99, 3) := by decide +kernel
theorem dMd_go_25 : decode cMd_go 25 = .ok (.aload_n 0, 1) := by decide +kernel
theorem dMd_go_26 : decode cMd_go 26 = .ok (.getfield 99, 3) := by decide +kernel
theorem dMd_go_29 : decode cMd_go 29 = .ok (.ifCond .ne 29, 3) := by decide +kernel
theorem dMd_go_32 : decode cMd_go 32 = .ok (.aload_n 0, 1) := by decide +kernel
theorem dMd_go_33 : decode cMd_go 33 = .ok (.getfield 25, 3) := by decide +kernel
theorem dMd_go_36 : decode cMd_go 36 = .ok (.iload_n 1, 1) := by decide +kernel
theorem dMd_go_37 : decode cMd_go 37 = .ok (.iconst 1, 1) := by decide +kernel
theorem dMd_go_38 : decode cMd_go 38 = .ok (.iastore, 1) := by decide +kernel
theorem dMd_go_39 : decode cMd_go 39 = .ok (.aload_n 0, 1) := by decide +kernel
theorem dMd_go_40 : decode cMd_go 40 = .ok (.getfield 31, 3) := by decide +kernel
theorem dMd_go_43 : decode cMd_go 43 = .ok (.iload_n 1, 1) := by decide +kernel
theorem dMd_go_44 : decode cMd_go 44 = .ok (.iload_n 2, 1) := by decide +kernel
theorem dMd_go_45 : decode cMd_go 45 = .ok (.iastore, 1) := by decide +kernel
theorem dMd_go_46 : decode cMd_go 46 = .ok (.aload_n 0, 1) := by decide +kernel
theorem dMd_go_47 : decode cMd_go 47 = .ok (.getfield 34, 3) := by decide +kernel
theorem dMd_go_50 : decode cMd_go 50 = .ok (.iload_n 1, 1) := by decide +kernel
theorem dMd_go_51 : decode cMd_go 51 = .ok (.iload_n 2, 1) := by decide +kernel
theorem dMd_go_52 : decode cMd_go 52 = .ok (.iastore, 1) := by decide +kernel
theorem dMd_go_53 : decode cMd_go 53 = .ok (.aload_n 0, 1) := by decide +kernel
theorem dMd_go_54 : decode cMd_go 54 = .ok (.iconst 0, 1) := by decide +kernel
theorem dMd_go_55 : decode cMd_go 55 = .ok (.putfield 109, 3) := by decide +kernel
theorem dMd_go_58 : decode cMd_go 58 = .ok (.return_, 1) := by decide +kernel
theorem dMd_fork_0 : decode cMd_fork 0 = .ok (.aload_n 0, 1) := by decide +kernel
theorem dMd_fork_1 : decode cMd_fork 1 = .ok (.aload_n 0, 1) := by decide +kernel
theorem dMd_fork_2 : decode cMd_fork 2 = .ok (.iload_n 1, 1) := by decide +kernel
theorem dMd_fork_3 : decode cMd_fork 3 = .ok (.invokevirtual 102, 3) := by decide +kernel
theorem dMd_fork_6 : decode cMd_fork 6 = .ok (.ifCond .ne 28, 3) := by decide +kernel
theorem dMd_fork_9 : decode cMd_fork 9 = .ok (.aload_n 0, 1) := by decide +kernel
theorem dMd_fork_10 : decode cMd_fork 10 = .ok (.iload_n 2, 1) := by decide +kernel
theorem dMd_fork_11 : decode cMd_fork 11 = .ok (.invokevirtual 106, 3) := by decide +kernel
theorem dMd_fork_14 : decode cMd_fork 14 = .ok (.ifCond .ne 20, 3) := by decide +kernel
theorem dMd_fork_17 : decode cMd_fork 17 = .ok (.aload_n 0, 1) := by decide +kernel
theorem dMd_fork_18 : decode cMd_fork 18 = .ok (.iload_n 3, 1) := by decide +kernel
theorem dMd_fork_19 : decode cMd_fork 19 = .ok (.invokevirtual 102, 3) := by decide +kernel
theorem dMd_fork_22 : decode cMd_fork 22 = .ok (.ifCond .ne 12, 3) := by decide +kernel
theorem dMd_fork_25 : decode cMd_fork 25 = .ok (.aload_n 0, 1) := by decide +kernel
theorem dMd_fork_26 : decode cMd_fork 26 = .ok (.iload 4, 2) := by decide +kernel
theorem dMd_fork_28 : decode cMd_fork 28 = .ok (.invokevirtual 102, 3) := by decide +kernel
theorem dMd_fork_31 : decode cMd_fork 31 = .ok (.ifCond .eq 7, 3) := by decide +kernel
theorem dMd_fork_34 : decode cMd_fork 34 = .ok (.iconst 1, 1) := by decide +kernel
theorem dMd_fork_35 : decode cMd_fork 35 = .ok (.goto 4, 3) := by decide +kernel
theorem dMd_fork_38 : decode cMd_fork 38 = .ok (.iconst 0, 1) := by decide +kernel
theorem dMd_fork_39 : decode cMd_fork 39 = .ok (.putfield 99, 3) := by decide +kernel
theorem dMd_fork_42 : decode cMd_fork 42 = .ok (.aload_n 0, 1) := by decide +kernel
theorem dMd_fork_43 : decode cMd_fork 43 = .ok (.getfield 99, 3) := by decide +kernel
theorem dMd_fork_46 : decode cMd_fork 46 = .ok (.ifCond .ne 37, 3) := by decide +kernel
theorem dMd_fork_49 : decode cMd_fork 49 = .ok (.aload_n 0, 1) := by decide +kernel
theorem dMd_fork_50 : decode cMd_fork 50 = .ok (.getfield 25, 3) := by decide +kernel
theorem dMd_fork_53 : decode cMd_fork 53 = .ok (.iload_n 1, 1) := by decide +kernel
theorem dMd_fork_54 : decode cMd_fork 54 = .ok (.iconst 2, 1) := by decide +kernel
theorem dMd_fork_55 : decode cMd_fork 55 = .ok (.iastore, 1) := by decide +kernel
theorem dMd_fork_56 : decode cMd_fork 56 = .ok (.aload_n 0, 1) := by decide +kernel
theorem dMd_fork_57 : decode cMd_fork 57 = .ok (.getfield 28, 3) := by decide +kernel
theorem dMd_fork_60 : decode cMd_fork 60 = .ok (.iload_n 1, 1) := by decide +kernel
theorem dMd_fork_61 : decode cMd_fork 61 = .ok (.iload_n 2, 1) := by decide +kernel
theorem dMd_fork_62 : decode cMd_fork 62 = .ok (.iastore, 1) := by decide +kernel
theorem dMd_fork_63 : decode cMd_fork 63 = .ok (.aload_n 0, 1) := by decide +kernel
theorem dMd_fork_64 : decode cMd_fork 64 = .ok (.getfield 31, 3) := by decide +kernel
theorem dMd_fork_67 : decode cMd_fork 67 = .ok (.iload_n 1, 1) := by decide +kernel
theorem dMd_fork_68 : decode cMd_fork 68 = .ok (.iload_n 3, 1) := by decide +kernel
theorem dMd_fork_69 : decode cMd_fork 69 = .ok (.iastore, 1) := by decide +kernel
theorem dMd_fork_70 : decode cMd_fork 70 = .ok (.aload_n 0, 1) := by decide +kernel
theorem dMd_fork_71 : decode cMd_fork 71 = .ok (.getfield 34, 3) := by decide +kernel
theorem dMd_fork_74 : decode cMd_fork 74 = .ok (.iload_n 1, 1) := by decide +kernel
theorem dMd_fork_75 : decode cMd_fork 75 = .ok (.iload 4, 2) := by decide +kernel
theorem dMd_fork_77 : decode cMd_fork 77 = .ok (.iastore, 1) := by decide +kernel
theorem dMd_fork_78 : decode cMd_fork 78 = .ok (.aload_n 0, 1) := by decide +kernel
theorem dMd_fork_79 : decode cMd_fork 79 = .ok (.iconst 0, 1) := by decide +kernel
theorem dMd_fork_80 : decode cMd_fork 80 = .ok (.putfield 109, 3) := by decide +kernel
theorem dMd_fork_83 : decode cMd_fork 83 = .ok (.return_, 1) := by decide +kernel
theorem dMd_stop_0 : decode cMd_stop 0 = .ok (.aload_n 0, 1) := by decide +kernel
theorem dMd_stop_1 : decode cMd_stop 1 = .ok (.aload_n 0, 1) := by decide +kernel
theorem dMd_stop_2 : decode cMd_stop 2 = .ok (.iload_n 1, 1) := by decide +kernel
theorem dMd_stop_3 : decode cMd_stop 3 = .ok (.invokevirtual 102, 3) := by decide +kernel
theorem dMd_stop_6 : decode cMd_stop 6 = .ok (.ifCond .eq 7, 3) := by decide +kernel
theorem dMd_stop_9 : decode cMd_stop 9 = .ok (.iconst 1, 1) := by decide +kernel
theorem dMd_stop_10 : decode cMd_stop 10 = .ok (.goto 4, 3) := by decide +kernel
theorem dMd_stop_13 : decode cMd_stop 13 = .ok (.iconst 0, 1) := by decide +kernel
theorem dMd_stop_14 : decode cMd_stop 14 = .ok (.putfield 99, 3) := by decide +kernel
theorem dMd_stop_17 : decode cMd_stop 17 = .ok (.aload_n 0, 1) := by decide +kernel
theorem dMd_stop_18 : decode cMd_stop 18 = .ok (.getfield 99, 3) := by decide +kernel
theorem dMd_stop_21 : decode cMd_stop 21 = .ok (.ifCond .ne 15, 3) := by decide +kernel
theorem dMd_stop_24 : decode cMd_stop 24 = .ok (.aload_n 0, 1) := by decide +kernel
theorem dMd_stop_25 : decode cMd_stop 25 = .ok (.getfield 25, 3) := by decide +kernel
theorem dMd_stop_28 : decode cMd_stop 28 = .ok (.iload_n 1, 1) := by decide +kernel
theorem dMd_stop_29 : decode cMd_stop 29 = .ok (.iconst 0, 1) := by decide +kernel
theorem dMd_stop_30 : decode cMd_stop 30 = .ok (.iastore, 1) := by decide +kernel
theorem dMd_stop_31 : decode cMd_stop 31 = .ok (.aload_n 0, 1) := by decide +kernel
theorem dMd_stop_32 : decode cMd_stop 32 = .ok (.iconst 0, 1) := by decide +kernel
theorem dMd_stop_33 : decode cMd_stop 33 = .ok (.putfield 109, 3) := by decide +kernel
theorem dMd_stop_36 : decode cMd_stop 36 = .ok (.return_, 1) := by decide +kernel
theorem dMd_start_0 : decode cMd_start 0 = .ok (.aload_n 0, 1) := by decide +kernel
theorem dMd_start_1 : decode cMd_start 1 = .ok (.aload_n 0, 1) := by decide +kernel
theorem dMd_start_2 : decode cMd_start 2 = .ok (.iload_n 1, 1) := by decide +kernel
theorem dMd_start_3 : decode cMd_start 3 = .ok (.invokevirtual 106, 3) := by decide +kernel
theorem dMd_start_6 : decode cMd_start 6 = .ok (.ifCond .eq 7, 3) := by decide +kernel
theorem dMd_start_9 : decode cMd_start 9 = .ok (.iconst 1, 1) := by decide +kernel
theorem dMd_start_10 : decode cMd_start 10 = .ok (.goto 4, 3) := by decide +kernel
theorem dMd_start_13 : decode cMd_start 13 = .ok (.iconst 0, 1) := by decide +kernel
theorem dMd_start_14 : decode cMd_start 14 = .ok (.putfield 99, 3) := by decide +kernel
theorem dMd_start_17 : decode cMd_start 17 = .ok (.aload_n 0, 1) := by decide +kernel
theorem dMd_start_18 : decode cMd_start 18 = .ok (.getfield 99, 3) := by decide +kernel
theorem dMd_start_21 : decode cMd_start 21 = .ok (.ifCond .ne 15, 3) := by decide +kernel
theorem dMd_start_24 : decode cMd_start 24 = .ok (.aload_n 0, 1) := by decide +kernel
theorem dMd_start_25 : decode cMd_start 25 = .ok (.getfield 37, 3) := by decide +kernel
theorem dMd_start_28 : decode cMd_start 28 = .ok (.iload_n 1, 1) := by decide +kernel
theorem dMd_start_29 : decode cMd_start 29 = .ok (.iload_n 2, 1) := by decide +kernel
theorem dMd_start_30 : decode cMd_start 30 = .ok (.iastore, 1) := by decide +kernel
theorem dMd_start_31 : decode cMd_start 31 = .ok (.aload_n 0, 1) := by decide +kernel
theorem dMd_start_32 : decode cMd_start 32 = .ok (.iconst 0, 1) := by decide +kernel
theorem dMd_start_33 : decode cMd_start 33 = .ok (.putfield 109, 3) := by decide +kernel
theorem dMd_start_36 : decode cMd_start 36 = .ok (.return_, 1) := by decide +kernel
theorem dMd_has_0 : decode cMd_has 0 = .ok (.iload_n 1, 1) := by decide +kernel
theorem dMd_has_1 : decode cMd_has 1 = .ok (.iload_n 2, 1) := by decide +kernel
theorem dMd_has_2 : decode cMd_has 2 = .ok (.ishr, 1) := by decide +kernel
theorem dMd_has_3 : decode cMd_has 3 = .ok (.iconst 1, 1) := by decide +kernel
theorem dMd_has_4 : decode cMd_has 4 = .ok (.iand, 1) := by decide +kernel
theorem dMd_has_5 : decode cMd_has 5 = .ok (.iconst 1, 1) := by decide +kernel
theorem dMd_has_6 : decode cMd_has 6 = .ok (.if_icmp .ne 7, 3) := by decide +kernel
theorem dMd_has_9 : decode cMd_has 9 = .ok (.iconst 1, 1) := by decide +kernel
theorem dMd_has_10 : decode cMd_has 10 = .ok (.goto 4, 3) := by decide +kernel
theorem dMd_has_13 : decode cMd_has 13 = .ok (.iconst 0, 1) := by decide +kernel
theorem dMd_has_14 : decode cMd_has 14 = .ok (.ireturn, 1) := by decide +kernel
theorem dMd_follows_0 : decode cMd_follows 0 = .ok (.iload_n 1, 1) := by decide +kernel
theorem dMd_follows_1 : decode cMd_follows 1 = .ok (.aload_n 0, 1) := by decide +kernel
theorem dMd_follows_2 : decode cMd_follows 2 = .ok (.getfield 95, 3) := by decide +kernel
theorem dMd_follows_5 : decode cMd_follows 5 = .ok (.if_icmp .ne 15, 3) := by decide +kernel
theorem dMd_follows_8 : decode cMd_follows 8 = .ok (.iload_n 2, 1) := by decide +kernel
theorem dMd_follows_9 : decode cMd_follows 9 = .ok (.ifCond .ne 7, 3) := by decide +kernel
theorem dMd_follows_12 : decode cMd_follows 12 = .ok (.iconst 1, 1) := by decide +kernel
theorem dMd_follows_13 : decode cMd_follows 13 = .ok (.goto 41, 3) := by decide +kernel
theorem dMd_follows_16 : decode cMd_follows 16 = .ok (.iconst 0, 1) := by decide +kernel
theorem dMd_follows_17 : decode cMd_follows 17 = .ok (.goto 37, 3) := by decide +kernel
theorem dMd_follows_20 : decode cMd_follows 20 = .ok (.aload_n 0, 1) := by decide +kernel
theorem dMd_follows_21 : decode cMd_follows 21 = .ok (.getfield 25, 3) := by decide +kernel
theorem dMd_follows_24 : decode cMd_follows 24 = .ok (.iload_n 1, 1) := by decide +kernel
theorem dMd_follows_25 : decode cMd_follows 25 = .ok (.iaload, 1) := by decide +kernel
theorem dMd_follows_26 : decode cMd_follows 26 = .ok (.ifCond .eq 27, 3) := by decide +kernel
theorem dMd_follows_29 : decode cMd_follows 29 = .ok (.aload_n 0, 1) := by decide +kernel
theorem dMd_follows_30 : decode cMd_follows 30 = .ok (.getfield 31, 3) := by decide +kernel
theorem dMd_follows_33 : decode cMd_follows 33 = .ok (.iload_n 1, 1) := by decide +kernel
theorem dMd_follows_34 : decode cMd_follows 34 = .ok (.iaload, 1) := by decide +kernel
theorem dMd_follows_35 : decode cMd_follows 35 = .ok (.iload_n 2, 1) := by decide +kernel
theorem dMd_follows_36 : decode cMd_follows 36 = .ok (.if_icmp .eq 13, 3) := by decide +kernel
theorem dMd_follows_39 : decode cMd_follows 39 = .ok (.aload_n 0, 1) := by decide +kernel
theorem dMd_follows_40 : decode cMd_follows 40 = .ok (.getfield 34, 3) := by decide +kernel
theorem dMd_follows_43 : decode cMd_follows 43 = .ok (.iload_n 1, 1) := by decide +kernel
theorem dMd_follows_44 : decode cMd_follows 44 = .ok (.iaload, 1) := by decide +kernel
theorem dMd_follows_45 : decode cMd_follows 45 = .ok (.iload_n 2, 1) := by decide +kernel
theorem dMd_follows_46 : decode cMd_follows 46 = .ok (.if_icmp .ne 7, 3) := by decide +kernel
theorem dMd_follows_49 : decode cMd_follows 49 = .ok (.iconst 1, 1) := by decide +kernel
theorem dMd_follows_50 : decode cMd_follows 50 = .ok (.goto 4, 3) := by decide +kernel
theorem dMd_follows_53 : decode cMd_follows 53 = .ok (.iconst 0, 1) := by decide +kernel
theorem dMd_follows_54 : decode cMd_follows 54 = .ok (.ireturn, 1) := by decide +kernel
theorem dMd_reachedWithout_0 : decode cMd_reachedWithout 0 = .ok (.iload_n 1, 1) := by decide +kernel
theorem dMd_reachedWithout_1 : decode cMd_reachedWithout 1 = .ok (.ifCond .ne 7, 3) := by decide +kernel
theorem dMd_reachedWithout_4 : decode cMd_reachedWithout 4 = .ok (.iconst 0, 1) := by decide +kernel
theorem dMd_reachedWithout_5 : decode cMd_reachedWithout 5 = .ok (.goto 4, 3) := by decide +kernel
theorem dMd_reachedWithout_8 : decode cMd_reachedWithout 8 = .ok (.iconst 1, 1) := by decide +kernel
theorem dMd_reachedWithout_9 : decode cMd_reachedWithout 9 = .ok (.istore_n 2, 1) := by decide +kernel
theorem dMd_reachedWithout_10 : decode cMd_reachedWithout 10 = .ok (.iconst 0, 1) := by decide +kernel
theorem dMd_reachedWithout_11 : decode cMd_reachedWithout 11 = .ok (.istore_n 3, 1) := by decide +kernel
theorem dMd_reachedWithout_12 : decode cMd_reachedWithout 12 = .ok (.iload_n 3, 1) := by decide +kernel
theorem dMd_reachedWithout_13 : decode cMd_reachedWithout 13 = .ok (.aload_n 0, 1) := by decide +kernel
theorem dMd_reachedWithout_14 : decode cMd_reachedWithout 14 = .ok (.getfield 95, 3) := by decide +kernel
theorem dMd_reachedWithout_17 : decode cMd_reachedWithout 17 = .ok (.if_icmp .ge 101, 3) := by decide +kernel
theorem dMd_reachedWithout_20 : decode cMd_reachedWithout 20 = .ok (.iconst 0, 1) := by decide +kernel
theorem dMd_reachedWithout_21 : decode cMd_reachedWithout 21 = .ok (.istore 4, 2) := by decide +kernel
theorem dMd_reachedWithout_23 : decode cMd_reachedWithout 23 = .ok (.iload 4, 2) := by decide +kernel
theorem dMd_reachedWithout_25 : decode cMd_reachedWithout 25 = .ok (.aload_n 0, 1) := by decide +kernel
theorem dMd_reachedWithout_26 : decode cMd_reachedWithout 26 = .ok (.getfield 95, 3) := by decide +kernel
theorem dMd_reachedWithout_29 : decode cMd_reachedWithout 29 = .ok (.if_icmp .ge 83, 3) := by decide +kernel
theorem dMd_reachedWithout_32 : decode cMd_reachedWithout 32 = .ok (.aload_n 0, 1) := by decide +kernel
theorem dMd_reachedWithout_33 : decode cMd_reachedWithout 33 = .ok (.iload_n 2, 1) := by decide +kernel
theorem dMd_reachedWithout_34 : decode cMd_reachedWithout 34 = .ok (.iload 4, 2) := by decide +kernel
theorem dMd_reachedWithout_36 : decode cMd_reachedWithout 36 = .ok (.invokevirtual 113, 3) := by decide +kernel
theorem dMd_reachedWithout_39 : decode cMd_reachedWithout 39 = .ok (.ifCond .eq 67, 3) := by decide +kernel
theorem dMd_reachedWithout_42 : decode cMd_reachedWithout 42 = .ok (.aload_n 0, 1) := by decide +kernel
theorem dMd_reachedWithout_43 : decode cMd_reachedWithout 43 = .ok (.getfield 25, 3) := by decide +kernel
theorem dMd_reachedWithout_46 : decode cMd_reachedWithout 46 = .ok (.iload 4, 2) := by decide +kernel
theorem dMd_reachedWithout_48 : decode cMd_reachedWithout 48 = .ok (.iaload, 1) := by decide +kernel
theorem dMd_reachedWithout_49 : decode cMd_reachedWithout 49 = .ok (.ifCond .eq 57, 3) := by decide +kernel
theorem dMd_reachedWithout_52 : decode cMd_reachedWithout 52 = .ok (.aload_n 0, 1) := by decide +kernel
theorem dMd_reachedWithout_53 : decode cMd_reachedWithout 53 = .ok (.getfield 31, 3) := by decide +kernel
theorem dMd_reachedWithout_56 : decode cMd_reachedWithout 56 = .ok (.iload 4, 2) := by decide +kernel
theorem dMd_reachedWithout_58 : decode cMd_reachedWithout 58 = .ok (.iaload, 1) := by decide +kernel
theorem dMd_reachedWithout_59 : decode cMd_reachedWithout 59 = .ok (.iload_n 1, 1) := by decide +kernel
theorem dMd_reachedWithout_60 : decode cMd_reachedWithout 60 = .ok (.if_icmp .ne 7, 3) := by decide +kernel
theorem dMd_reachedWithout_63 : decode cMd_reachedWithout 63 = .ok (.iload_n 2, 1) := by decide +kernel
theorem dMd_reachedWithout_64 : decode cMd_reachedWithout 64 = .ok (.goto 14, 3) := by decide +kernel
theorem dMd_reachedWithout_67 : decode cMd_reachedWithout 67 = .ok (.iload_n 2, 1) := by decide +kernel
theorem dMd_reachedWithout_68 : decode cMd_reachedWithout 68 = .ok (.iconst 1, 1) := by decide +kernel
theorem dMd_reachedWithout_69 : decode cMd_reachedWithout 69 = .ok (.aload_n 0, 1) := by decide +kernel
theorem dMd_reachedWithout_70 : decode cMd_reachedWithout 70 = .ok (.getfield 31, 3) := by decide +kernel
theorem dMd_reachedWithout_73 : decode cMd_reachedWithout 73 = .ok (.iload 4, 2) := by decide +kernel
theorem dMd_reachedWithout_75 : decode cMd_reachedWithout 75 = .ok (.iaload, 1) := by decide +kernel
theorem dMd_reachedWithout_76 : decode cMd_reachedWithout 76 = .ok (.ishl, 1) := by decide +kernel
theorem dMd_reachedWithout_77 : decode cMd_reachedWithout 77 = .ok (.ior, 1) := by decide +kernel
theorem dMd_reachedWithout_78 : decode cMd_reachedWithout 78 = .ok (.istore_n 2, 1) := by decide +kernel
theorem dMd_reachedWithout_79 : decode cMd_reachedWithout 79 = .ok (.aload_n 0, 1) := by decide +kernel
theorem dMd_reachedWithout_80 : decode cMd_reachedWithout 80 = .ok (.getfield 34, 3) := by decide +kernel
theorem dMd_reachedWithout_83 : decode cMd_reachedWithout 83 = .ok (.iload 4, 2) := by decide +kernel
theorem dMd_reachedWithout_85 : decode cMd_reachedWithout 85 = .ok (.iaload, 1) := by decide +kernel
theorem dMd_reachedWithout_86 : decode cMd_reachedWithout 86 = .ok (.iload_n 1, 1) := by decide +kernel
theorem dMd_reachedWithout_87 : decode cMd_reachedWithout 87 = .ok (.if_icmp .ne 7, 3) := by decide +kernel
theorem dMd_reachedWithout_90 : decode cMd_reachedWithout 90 = .ok (.iload_n 2, 1) := by decide +kernel
theorem dMd_reachedWithout_91 : decode cMd_reachedWithout 91 = .ok (.goto 14, 3) := by decide +kernel
theorem dMd_reachedWithout_94 : decode cMd_reachedWithout 94 = .ok (.iload_n 2, 1) := by decide +kernel
theorem dMd_reachedWithout_95 : decode cMd_reachedWithout 95 = .ok (.iconst 1, 1) := by decide +kernel
theorem dMd_reachedWithout_96 : decode cMd_reachedWithout 96 = .ok (.aload_n 0, 1) := by decide +kernel
theorem dMd_reachedWithout_97 : decode cMd_reachedWithout 97 = .ok (.getfield 34, 3) := by decide +kernel
theorem dMd_reachedWithout_100 : decode cMd_reachedWithout 100 = .ok (.iload 4, 2) := by decide +kernel
theorem dMd_reachedWithout_102 : decode cMd_reachedWithout 102 = .ok (.iaload, 1) := by decide +kernel
theorem dMd_reachedWithout_103 : decode cMd_reachedWithout 103 = .ok (.ishl, 1) := by decide +kernel
theorem dMd_reachedWithout_104 : decode cMd_reachedWithout 104 = .ok (.ior, 1) := by decide +kernel
theorem dMd_reachedWithout_105 : decode cMd_reachedWithout 105 = .ok (.istore_n 2, 1) := by decide +kernel
theorem dMd_reachedWithout_106 : decode cMd_reachedWithout 106 = .ok (.iinc 4 1, 3) := by decide +kernel
theorem dMd_reachedWithout_109 : decode cMd_reachedWithout 109 = .ok (.goto (-86), 3) := by decide +kernel
theorem dMd_reachedWithout_112 : decode cMd_reachedWithout 112 = .ok (.iinc 3 1, 3) := by decide +kernel
theorem dMd_reachedWithout_115 : decode cMd_reachedWithout 115 = .ok (.goto (-103), 3) := by decide +kernel
theorem dMd_reachedWithout_118 : decode cMd_reachedWithout 118 = .ok (.iload_n 2, 1) := by decide +kernel
theorem dMd_reachedWithout_119 : decode cMd_reachedWithout 119 = .ok (.ireturn, 1) := by decide +kernel
theorem dMd_look_0 : decode cMd_look 0 = .ok (.aload_n 0, 1) := by decide +kernel
theorem dMd_look_1 : decode cMd_look 1 = .ok (.aload_n 0, 1) := by decide +kernel
theorem dMd_look_2 : decode cMd_look 2 = .ok (.iconst (-1), 1) := by decide +kernel
theorem dMd_look_3 : decode cMd_look 3 = .ok (.invokevirtual 117, 3) := by decide +kernel
theorem dMd_look_6 : decode cMd_look 6 = .ok (.putfield 121, 3) := by decide +kernel
theorem dMd_look_9 : decode cMd_look 9 = .ok (.iconst 0, 1) := by decide +kernel
theorem dMd_look_10 : decode cMd_look 10 = .ok (.istore_n 1, 1) := by decide +kernel
theorem dMd_look_11 : decode cMd_look 11 = .ok (.iload_n 1, 1) := by decide +kernel
theorem dMd_look_12 : decode cMd_look 12 = .ok (.aload_n 0, 1) := by decide +kernel
theorem dMd_look_13 : decode cMd_look 13 = .ok (.getfield 95, 3) := by decide +kernel
theorem dMd_look_16 : decode cMd_look 16 = .ok (.if_icmp .ge 16, 3) := by decide +kernel
theorem dMd_look_19 : decode cMd_look 19 = .ok (.aload_n 0, 1) := by decide +kernel
theorem dMd_look_20 : decode cMd_look 20 = .ok (.getfield 40, 3) := by decide +kernel
theorem dMd_look_23 : decode cMd_look 23 = .ok (.iload_n 1, 1) := by decide +kernel
theorem dMd_look_24 : decode cMd_look 24 = .ok (.iconst 0, 1) := by decide +kernel
theorem dMd_look_25 : decode cMd_look 25 = .ok (.iastore, 1) := by decide +kernel
theorem dMd_look_26 : decode cMd_look 26 = .ok (.iinc 1 1, 3) := by decide +kernel
theorem dMd_look_29 : decode cMd_look 29 = .ok (.goto (-18), 3) := by decide +kernel
theorem dMd_look_32 : decode cMd_look 32 = .ok (.iconst 0, 1) := by decide +kernel
theorem dMd_look_33 : decode cMd_look 33 = .ok (.istore_n 1, 1) := by decide +kernel
theorem dMd_look_34 : decode cMd_look 34 = .ok (.iload_n 1, 1) := by decide +kernel
theorem dMd_look_35 : decode cMd_look 35 = .ok (.aload_n 0, 1) := by decide +kernel
theorem dMd_look_36 : decode cMd_look 36 = .ok (.getfield 95, 3) := by decide +kernel
theorem dMd_look_39 : decode cMd_look 39 = .ok (.if_icmp .ge 80, 3) := by decide +kernel
theorem dMd_look_42 : decode cMd_look 42 = .ok (.aload_n 0, 1) := by decide +kernel
theorem dMd_look_43 : decode cMd_look 43 = .ok (.iload_n 1, 1) := by decide +kernel
theorem dMd_look_44 : decode cMd_look 44 = .ok (.invokevirtual 117, 3) := by decide +kernel
theorem dMd_look_47 : decode cMd_look 47 = .ok (.istore_n 2, 1) := by decide +kernel
theorem dMd_look_48 : decode cMd_look 48 = .ok (.iconst 0, 1) := by decide +kernel
theorem dMd_look_49 : decode cMd_look 49 = .ok (.istore_n 3, 1) := by decide +kernel
theorem dMd_look_50 : decode cMd_look 50 = .ok (.iload_n 3, 1) := by decide +kernel
theorem dMd_look_51 : decode cMd_look 51 = .ok (.aload_n 0, 1) := by decide +kernel
theorem dMd_look_52 : decode cMd_look 52 = .ok (.getfield 95, 3) := by decide +kernel
theorem dMd_look_55 : decode cMd_look 55 = .ok (.if_icmp .ge 58, 3) := by decide +kernel
theorem dMd_look_58 : decode cMd_look 58 = .ok (.aload_n 0, 1) := by decide +kernel
theorem dMd_look_59 : decode cMd_look 59 = .ok (.aload_n 0, 1) := by decide +kernel
theorem dMd_look_60 : decode cMd_look 60 = .ok (.getfield 121, 3) := by decide +kernel
theorem dMd_look_63 : decode cMd_look 63 = .ok (.iload_n 1, 1) := by decide +kernel
theorem dMd_look_64 : decode cMd_look 64 = .ok (.invokevirtual 113, 3) := by decide +kernel
theorem dMd_look_67 : decode cMd_look 67 = .ok (.ifCond .eq 40, 3) := by decide +kernel
theorem dMd_look_70 : decode cMd_look 70 = .ok (.aload_n 0, 1) := by decide +kernel
theorem dMd_look_71 : decode cMd_look 71 = .ok (.aload_n 0, 1) := by decide +kernel
theorem dMd_look_72 : decode cMd_look 72 = .ok (.getfield 121, 3) := by decide +kernel
theorem dMd_look_75 : decode cMd_look 75 = .ok (.iload_n 3, 1) := by decide +kernel
theorem dMd_look_76 : decode cMd_look 76 = .ok (.invokevirtual 113, 3) := by decide +kernel
theorem dMd_look_79 : decode cMd_look 79 = .ok (.ifCond .eq 28, 3) := by decide +kernel
theorem dMd_look_82 : decode cMd_look 82 = .ok (.aload_n 0, 1) := by decide +kernel
theorem dMd_look_83 : decode cMd_look 83 = .ok (.iload_n 2, 1) := by decide +kernel
theorem dMd_look_84 : decode cMd_look 84 = .ok (.iload_n 3, 1) := by decide +kernel
theorem dMd_look_85 : decode cMd_look 85 = .ok (.invokevirtual 113, 3) := by decide +kernel
theorem dMd_look_88 : decode cMd_look 88 = .ok (.ifCond .ne 19, 3) := by decide +kernel
theorem dMd_look_91 : decode cMd_look 91 = .ok (.aload_n 0, 1) := by decide +kernel
theorem dMd_look_92 : decode cMd_look 92 = .ok (.getfield 40, 3) := by decide +kernel
theorem dMd_look_95 : decode cMd_look 95 = .ok (.iload_n 3, 1) := by decide +kernel
theorem dMd_look_96 : decode cMd_look 96 = .ok (.aload_n 0, 1) := by decide +kernel
theorem dMd_look_97 : decode cMd_look 97 = .ok (.getfield 40, 3) := by decide +kernel
theorem dMd_look_100 : decode cMd_look 100 = .ok (.iload_n 3, 1) := by decide +kernel
theorem dMd_look_101 : decode cMd_look 101 = .ok (.iaload, 1) := by decide +kernel
theorem dMd_look_102 : decode cMd_look 102 = .ok (.iconst 1, 1) := by decide +kernel
theorem dMd_look_103 : decode cMd_look 103 = .ok (.iload_n 1, 1) := by decide +kernel
theorem dMd_look_104 : decode cMd_look 104 = .ok (.ishl, 1) := by decide +kernel
theorem dMd_look_105 : decode cMd_look 105 = .ok (.ior, 1) := by decide +kernel
theorem dMd_look_106 : decode cMd_look 106 = .ok (.iastore, 1) := by decide +kernel
theorem dMd_look_107 : decode cMd_look 107 = .ok (.iinc 3 1, 3) := by decide +kernel
theorem dMd_look_110 : decode cMd_look 110 = .ok (.goto (-60), 3) := by decide +kernel
theorem dMd_look_113 : decode cMd_look 113 = .ok (.iinc 1 1, 3) := by decide +kernel
theorem dMd_look_116 : decode cMd_look 116 = .ok (.goto (-82), 3) := by decide +kernel
theorem dMd_look_119 : decode cMd_look 119 = .ok (.return_, 1) := by decide +kernel
theorem dMd_countOf_0 : decode cMd_countOf 0 = .ok (.iconst 0, 1) := by decide +kernel
theorem dMd_countOf_1 : decode cMd_countOf 1 = .ok (.istore_n 2, 1) := by decide +kernel
theorem dMd_countOf_2 : decode cMd_countOf 2 = .ok (.iconst 0, 1) := by decide +kernel
theorem dMd_countOf_3 : decode cMd_countOf 3 = .ok (.istore_n 3, 1) := by decide +kernel
theorem dMd_countOf_4 : decode cMd_countOf 4 = .ok (.iload_n 3, 1) := by decide +kernel
theorem dMd_countOf_5 : decode cMd_countOf 5 = .ok (.aload_n 0, 1) := by decide +kernel
theorem dMd_countOf_6 : decode cMd_countOf 6 = .ok (.getfield 95, 3) := by decide +kernel
theorem dMd_countOf_9 : decode cMd_countOf 9 = .ok (.if_icmp .ge 17, 3) := by decide +kernel
theorem dMd_countOf_12 : decode cMd_countOf 12 = .ok (.iload_n 2, 1) := by decide +kernel
theorem dMd_countOf_13 : decode cMd_countOf 13 = .ok (.iload_n 1, 1) := by decide +kernel
theorem dMd_countOf_14 : decode cMd_countOf 14 = .ok (.iload_n 3, 1) := by decide +kernel
theorem dMd_countOf_15 : decode cMd_countOf 15 = .ok (.ishr, 1) := by decide +kernel
theorem dMd_countOf_16 : decode cMd_countOf 16 = .ok (.iconst 1, 1) := by decide +kernel
theorem dMd_countOf_17 : decode cMd_countOf 17 = .ok (.iand, 1) := by decide +kernel
theorem dMd_countOf_18 : decode cMd_countOf 18 = .ok (.iadd, 1) := by decide +kernel
theorem dMd_countOf_19 : decode cMd_countOf 19 = .ok (.istore_n 2, 1) := by decide +kernel
theorem dMd_countOf_20 : decode cMd_countOf 20 = .ok (.iinc 3 1, 3) := by decide +kernel
theorem dMd_countOf_23 : decode cMd_countOf 23 = .ok (.goto (-19), 3) := by decide +kernel
theorem dMd_countOf_26 : decode cMd_countOf 26 = .ok (.iload_n 2, 1) := by decide +kernel
theorem dMd_countOf_27 : decode cMd_countOf 27 = .ok (.ireturn, 1) := by decide +kernel
theorem dMd_parentOf_0 : decode cMd_parentOf 0 = .ok (.aload_n 0, 1) := by decide +kernel
theorem dMd_parentOf_1 : decode cMd_parentOf 1 = .ok (.getfield 95, 3) := by decide +kernel
theorem dMd_parentOf_4 : decode cMd_parentOf 4 = .ok (.istore_n 2, 1) := by decide +kernel
theorem dMd_parentOf_5 : decode cMd_parentOf 5 = .ok (.iconst 0, 1) := by decide +kernel
theorem dMd_parentOf_6 : decode cMd_parentOf 6 = .ok (.istore_n 3, 1) := by decide +kernel
theorem dMd_parentOf_7 : decode cMd_parentOf 7 = .ok (.iconst 0, 1) := by decide +kernel
theorem dMd_parentOf_8 : decode cMd_parentOf 8 = .ok (.istore 4, 2) := by decide +kernel
theorem dMd_parentOf_10 : decode cMd_parentOf 10 = .ok (.iload 4, 2) := by decide +kernel
theorem dMd_parentOf_12 : decode cMd_parentOf 12 = .ok (.aload_n 0, 1) := by decide +kernel
theorem dMd_parentOf_13 : decode cMd_parentOf 13 = .ok (.getfield 95, 3) := by decide +kernel
theorem dMd_parentOf_16 : decode cMd_parentOf 16 = .ok (.if_icmp .ge 60, 3) := by decide +kernel
theorem dMd_parentOf_19 : decode cMd_parentOf 19 = .ok (.iload 4, 2) := by decide +kernel
theorem dMd_parentOf_21 : decode cMd_parentOf 21 = .ok (.iload_n 1, 1) := by decide +kernel
theorem dMd_parentOf_22 : decode cMd_parentOf 22 = .ok (.if_icmp .eq 48, 3) := by decide +kernel
theorem dMd_parentOf_25 : decode cMd_parentOf 25 = .ok (.aload_n 0, 1) := by decide +kernel
theorem dMd_parentOf_26 : decode cMd_parentOf 26 = .ok (.aload_n 0, 1) := by decide +kernel
theorem dMd_parentOf_27 : decode cMd_parentOf 27 = .ok (.getfield 40, 3) := by decide +kernel
theorem dMd_parentOf_30 : decode cMd_parentOf 30 = .ok (.iload_n 1, 1) := by decide +kernel
theorem dMd_parentOf_31 : decode cMd_parentOf 31 = .ok (.iaload, 1) := by decide +kernel
theorem dMd_parentOf_32 : decode cMd_parentOf 32 = .ok (.iload 4, 2) := by decide +kernel
theorem dMd_parentOf_34 : decode cMd_parentOf 34 = .ok (.invokevirtual 113, 3) := by decide +kernel
theorem dMd_parentOf_37 : decode cMd_parentOf 37 = .ok (.ifCond .eq 33, 3) := by decide +kernel
theorem dMd_parentOf_40 : decode cMd_parentOf 40 = .ok (.aload_n 0, 1) := by decide +kernel
theorem dMd_parentOf_41 : decode cMd_parentOf 41 = .ok (.aload_n 0, 1) := by decide +kernel
theorem dMd_parentOf_42 : decode cMd_parentOf 42 = .ok (.getfield 40, 3) := by decide +kernel
theorem dMd_parentOf_45 : decode cMd_parentOf 45 = .ok (.iload 4, 2) := by decide +kernel
theorem dMd_parentOf_47 : decode cMd_parentOf 47 = .ok (.iaload, 1) := by decide +kernel
theorem dMd_parentOf_48 : decode cMd_parentOf 48 = .ok (.invokevirtual 124, 3) := by decide +kernel
theorem dMd_parentOf_51 : decode cMd_parentOf 51 = .ok (.iload_n 3, 1) := by decide +kernel
theorem dMd_parentOf_52 : decode cMd_parentOf 52 = .ok (.if_icmp .le 18, 3) := by decide +kernel
theorem dMd_parentOf_55 : decode cMd_parentOf 55 = .ok (.iload 4, 2) := by decide +kernel
theorem dMd_parentOf_57 : decode cMd_parentOf 57 = .ok (.istore_n 2, 1) := by decide +kernel
theorem dMd_parentOf_58 : decode cMd_parentOf 58 = .ok (.aload_n 0, 1) := by decide +kernel
theorem dMd_parentOf_59 : decode cMd_parentOf 59 = .ok (.aload_n 0, 1) := by decide +kernel
theorem dMd_parentOf_60 : decode cMd_parentOf 60 = .ok (.getfield 40, 3) := by decide +kernel
theorem dMd_parentOf_63 : decode cMd_parentOf 63 = .ok (.iload 4, 2) := by decide +kernel
theorem dMd_parentOf_65 : decode cMd_parentOf 65 = .ok (.iaload, 1) := by decide +kernel
theorem dMd_parentOf_66 : decode cMd_parentOf 66 = .ok (.invokevirtual 124, 3) := by decide +kernel
theorem dMd_parentOf_69 : decode cMd_parentOf 69 = .ok (.istore_n 3, 1) := by decide +kernel
theorem dMd_parentOf_70 : decode cMd_parentOf 70 = .ok (.iinc 4 1, 3) := by decide +kernel
theorem dMd_parentOf_73 : decode cMd_parentOf 73 = .ok (.goto (-63), 3) := by decide +kernel
theorem dMd_parentOf_76 : decode cMd_parentOf 76 = .ok (.iload_n 2, 1) := by decide +kernel
theorem dMd_parentOf_77 : decode cMd_parentOf 77 = .ok (.ireturn, 1) := by decide +kernel
theorem dMd_strictly_0 : decode cMd_strictly 0 = .ok (.iload_n 1, 1) := by decide +kernel
theorem dMd_strictly_1 : decode cMd_strictly 1 = .ok (.iload_n 2, 1) := by decide +kernel
theorem dMd_strictly_2 : decode cMd_strictly 2 = .ok (.if_icmp .eq 29, 3) := by decide +kernel
theorem dMd_strictly_5 : decode cMd_strictly 5 = .ok (.iload_n 1, 1) := by decide +kernel
theorem dMd_strictly_6 : decode cMd_strictly 6 = .ok (.aload_n 0, 1) := by decide +kernel
theorem dMd_strictly_7 : decode cMd_strictly 7 = .ok (.getfield 95, 3) := by decide +kernel
theorem dMd_strictly_10 : decode cMd_strictly 10 = .ok (.if_icmp .eq 17, 3) := by decide +kernel
theorem dMd_strictly_13 : decode cMd_strictly 13 = .ok (.aload_n 0, 1) := by decide +kernel
theorem dMd_strictly_14 : decode cMd_strictly 14 = .ok (.aload_n 0, 1) := by decide +kernel
theorem dMd_strictly_15 : decode cMd_strictly 15 = .ok (.getfield 40, 3) := by decide +kernel
theorem dMd_strictly_18 : decode cMd_strictly 18 = .ok (.iload_n 2, 1) := by decide +kernel
theorem dMd_strictly_19 : decode cMd_strictly 19 = .ok (.iaload, 1) := by decide +kernel
theorem dMd_strictly_20 : decode cMd_strictly 20 = .ok (.iload_n 1, 1) := by decide +kernel
theorem dMd_strictly_21 : decode cMd_strictly 21 = .ok (.invokevirtual 113, 3) := by decide +kernel
theorem dMd_strictly_24 : decode cMd_strictly 24 = .ok (.ifCond .eq 7, 3) := by decide +kernel
theorem dMd_strictly_27 : decode cMd_strictly 27 = .ok (.iconst 1, 1) := by decide +kernel
theorem dMd_strictly_28 : decode cMd_strictly 28 = .ok (.goto 4, 3) := by decide +kernel
theorem dMd_strictly_31 : decode cMd_strictly 31 = .ok (.iconst 0, 1) := by decide +kernel
theorem dMd_strictly_32 : decode cMd_strictly 32 = .ok (.ireturn, 1) := by decide +kernel
theorem dMd_inFrontier_0 : decode cMd_inFrontier 0 = .ok (.aload_n 0, 1) := by decide +kernel
theorem dMd_inFrontier_1 : decode cMd_inFrontier 1 = .ok (.aload_n 0, 1) := by decide +kernel
theorem dMd_inFrontier_2 : decode cMd_inFrontier 2 = .ok (.getfield 121, 3) := by decide +kernel
theorem dMd_inFrontier_5 : decode cMd_inFrontier 5 = .ok (.iload_n 1, 1) := by decide +kernel
theorem dMd_inFrontier_6 : decode cMd_inFrontier 6 = .ok (.invokevirtual 113, 3) := by decide +kernel
theorem dMd_inFrontier_9 : decode cMd_inFrontier 9 = .ok (.ifCond .eq 24, 3) := by decide +kernel
theorem dMd_inFrontier_12 : decode cMd_inFrontier 12 = .ok (.aload_n 0, 1) := by decide +kernel
theorem dMd_inFrontier_13 : decode cMd_inFrontier 13 = .ok (.aload_n 0, 1) := by decide +kernel
theorem dMd_inFrontier_14 : decode cMd_inFrontier 14 = .ok (.getfield 121, 3) := by decide +kernel
theorem dMd_inFrontier_17 : decode cMd_inFrontier 17 = .ok (.iload_n 2, 1) := by decide +kernel
theorem dMd_inFrontier_18 : decode cMd_inFrontier 18 = .ok (.invokevirtual 113, 3) := by decide +kernel
theorem dMd_inFrontier_21 : decode cMd_inFrontier 21 = .ok (.ifCond .eq 12, 3) := by decide +kernel
theorem dMd_inFrontier_24 : decode cMd_inFrontier 24 = .ok (.aload_n 0, 1) := by decide +kernel
theorem dMd_inFrontier_25 : decode cMd_inFrontier 25 = .ok (.iload_n 1, 1) := by decide +kernel
theorem dMd_inFrontier_26 : decode cMd_inFrontier 26 = .ok (.iload_n 2, 1) := by decide +kernel
theorem dMd_inFrontier_27 : decode cMd_inFrontier 27 = .ok (.invokevirtual 127, 3) := by decide +kernel
theorem dMd_inFrontier_30 : decode cMd_inFrontier 30 = .ok (.ifCond .eq 5, 3) := by decide +kernel
theorem dMd_inFrontier_33 : decode cMd_inFrontier 33 = .ok (.iconst 0, 1) := by decide +kernel
theorem dMd_inFrontier_34 : decode cMd_inFrontier 34 = .ok (.ireturn, 1) := by decide +kernel
theorem dMd_inFrontier_35 : decode cMd_inFrontier 35 = .ok (.iconst 0, 1) := by decide +kernel
theorem dMd_inFrontier_36 : decode cMd_inFrontier 36 = .ok (.istore_n 3, 1) := by decide +kernel
theorem dMd_inFrontier_37 : decode cMd_inFrontier 37 = .ok (.iconst 0, 1) := by decide +kernel
theorem dMd_inFrontier_38 : decode cMd_inFrontier 38 = .ok (.istore 4, 2) := by decide +kernel
theorem dMd_inFrontier_40 : decode cMd_inFrontier 40 = .ok (.iload 4, 2) := by decide +kernel
theorem dMd_inFrontier_42 : decode cMd_inFrontier 42 = .ok (.aload_n 0, 1) := by decide +kernel
theorem dMd_inFrontier_43 : decode cMd_inFrontier 43 = .ok (.getfield 95, 3) := by decide +kernel
theorem dMd_inFrontier_46 : decode cMd_inFrontier 46 = .ok (.if_icmp .ge 57, 3) := by decide +kernel
theorem dMd_inFrontier_49 : decode cMd_inFrontier 49 = .ok (.iload_n 3, 1) := by decide +kernel
theorem dMd_inFrontier_50 : decode cMd_inFrontier 50 = .ok (.ifCond .ne 41, 3) := by decide +kernel
theorem dMd_inFrontier_53 : decode cMd_inFrontier 53 = .ok (.aload_n 0, 1) := by decide +kernel
theorem dMd_inFrontier_54 : decode cMd_inFrontier 54 = .ok (.aload_n 0, 1) := by decide +kernel
theorem dMd_inFrontier_55 : decode cMd_inFrontier 55 = .ok (.getfield 121, 3) := by decide +kernel
theorem dMd_inFrontier_58 : decode cMd_inFrontier 58 = .ok (.iload 4, 2) := by decide +kernel
theorem dMd_inFrontier_60 : decode cMd_inFrontier 60 = .ok (.invokevirtual 113, 3) := by decide +kernel
theorem dMd_inFrontier_63 : decode cMd_inFrontier 63 = .ok (.ifCond .eq 32, 3) := by decide +kernel
theorem dMd_inFrontier_66 : decode cMd_inFrontier 66 = .ok (.aload_n 0, 1) := by decide +kernel
theorem dMd_inFrontier_67 : decode cMd_inFrontier 67 = .ok (.aload_n 0, 1) := by decide +kernel
theorem dMd_inFrontier_68 : decode cMd_inFrontier 68 = .ok (.getfield 40, 3) := by decide +kernel
theorem dMd_inFrontier_71 : decode cMd_inFrontier 71 = .ok (.iload 4, 2) := by decide +kernel
theorem dMd_inFrontier_73 : decode cMd_inFrontier 73 = .ok (.iaload, 1) := by decide +kernel
theorem dMd_inFrontier_74 : decode cMd_inFrontier 74 = .ok (.iload_n 1, 1) := by decide +kernel
theorem dMd_inFrontier_75 : decode cMd_inFrontier 75 = .ok (.invokevirtual 113, 3) := by decide +kernel
theorem dMd_inFrontier_78 : decode cMd_inFrontier 78 = .ok (.ifCond .eq 17, 3) := by decide +kernel
theorem dMd_inFrontier_81 : decode cMd_inFrontier 81 = .ok (.aload_n 0, 1) := by decide +kernel
theorem dMd_inFrontier_82 : decode cMd_inFrontier 82 = .ok (.iload 4, 2) := by decide +kernel
theorem dMd_inFrontier_84 : decode cMd_inFrontier 84 = .ok (.iload_n 2, 1) := by decide +kernel
theorem dMd_inFrontier_85 : decode cMd_inFrontier 85 = .ok (.invokevirtual 130, 3) := by decide +kernel
theorem dMd_inFrontier_88 : decode cMd_inFrontier 88 = .ok (.ifCond .eq 7, 3) := by decide +kernel
theorem dMd_inFrontier_91 : decode cMd_inFrontier 91 = .ok (.iconst 1, 1) := by decide +kernel
theorem dMd_inFrontier_92 : decode cMd_inFrontier 92 = .ok (.goto 4, 3) := by decide +kernel
theorem dMd_inFrontier_95 : decode cMd_inFrontier 95 = .ok (.iconst 0, 1) := by decide +kernel
theorem dMd_inFrontier_96 : decode cMd_inFrontier 96 = .ok (.istore_n 3, 1) := by decide +kernel
theorem dMd_inFrontier_97 : decode cMd_inFrontier 97 = .ok (.iinc 4 1, 3) := by decide +kernel
theorem dMd_inFrontier_100 : decode cMd_inFrontier 100 = .ok (.goto (-60), 3) := by decide +kernel
theorem dMd_inFrontier_103 : decode cMd_inFrontier 103 = .ok (.iload_n 3, 1) := by decide +kernel
theorem dMd_inFrontier_104 : decode cMd_inFrontier 104 = .ok (.ireturn, 1) := by decide +kernel
theorem dMd_parent_0 : decode cMd_parent 0 = .ok (.aload_n 0, 1) := by decide +kernel
theorem dMd_parent_1 : decode cMd_parent 1 = .ok (.aload_n 0, 1) := by decide +kernel
theorem dMd_parent_2 : decode cMd_parent 2 = .ok (.iload_n 1, 1) := by decide +kernel
theorem dMd_parent_3 : decode cMd_parent 3 = .ok (.invokevirtual 102, 3) := by decide +kernel
theorem dMd_parent_6 : decode cMd_parent 6 = .ok (.ifCond .eq 7, 3) := by decide +kernel
theorem dMd_parent_9 : decode cMd_parent 9 = .ok (.iconst 1, 1) := by decide +kernel
theorem dMd_parent_10 : decode cMd_parent 10 = .ok (.goto 4, 3) := by decide +kernel
theorem dMd_parent_13 : decode cMd_parent 13 = .ok (.iconst 0, 1) := by decide +kernel
theorem dMd_parent_14 : decode cMd_parent 14 = .ok (.putfield 99, 3) := by decide +kernel
theorem dMd_parent_17 : decode cMd_parent 17 = .ok (.aload_n 0, 1) := by decide +kernel
theorem dMd_parent_18 : decode cMd_parent 18 = .ok (.getfield 99, 3) := by decide +kernel
theorem dMd_parent_21 : decode cMd_parent 21 = .ok (.ifCond .eq 5, 3) := by decide +kernel
theorem dMd_parent_24 : decode cMd_parent 24 = .ok (.iconst 0, 1) := by decide +kernel
theorem dMd_parent_25 : decode cMd_parent 25 = .ok (.ireturn, 1) := by decide +kernel
theorem dMd_parent_26 : decode cMd_parent 26 = .ok (.aload_n 0, 1) := by decide +kernel
theorem dMd_parent_27 : decode cMd_parent 27 = .ok (.invokevirtual 133, 3) := by decide +kernel
theorem dMd_parent_30 : decode cMd_parent 30 = .ok (.aload_n 0, 1) := by decide +kernel
theorem dMd_parent_31 : decode cMd_parent 31 = .ok (.aload_n 0, 1) := by decide +kernel
theorem dMd_parent_32 : decode cMd_parent 32 = .ok (.getfield 121, 3) := by decide +kernel
theorem dMd_parent_35 : decode cMd_parent 35 = .ok (.iload_n 1, 1) := by decide +kernel
theorem dMd_parent_36 : decode cMd_parent 36 = .ok (.invokevirtual 113, 3) := by decide +kernel
theorem dMd_parent_39 : decode cMd_parent 39 = .ok (.ifCond .eq 11, 3) := by decide +kernel
theorem dMd_parent_42 : decode cMd_parent 42 = .ok (.aload_n 0, 1) := by decide +kernel
theorem dMd_parent_43 : decode cMd_parent 43 = .ok (.iload_n 1, 1) := by decide +kernel
theorem dMd_parent_44 : decode cMd_parent 44 = .ok (.invokevirtual 136, 3) := by decide +kernel
theorem dMd_parent_47 : decode cMd_parent 47 = .ok (.goto 4, 3) := by decide +kernel
theorem dMd_parent_50 : decode cMd_parent 50 = .ok (.iconst (-1), 1) := by decide +kernel
theorem dMd_parent_51 : decode cMd_parent 51 = .ok (.ireturn, 1) := by decide +kernel
theorem dMd_dominates_0 : decode cMd_dominates 0 = .ok (.aload_n 0, 1) := by decide +kernel
theorem dMd_dominates_1 : decode cMd_dominates 1 = .ok (.aload_n 0, 1) := by decide +kernel
theorem dMd_dominates_2 : decode cMd_dominates 2 = .ok (.iload_n 1, 1) := by decide +kernel
theorem dMd_dominates_3 : decode cMd_dominates 3 = .ok (.invokevirtual 102, 3) := by decide +kernel
theorem dMd_dominates_6 : decode cMd_dominates 6 = .ok (.ifCond .ne 11, 3) := by decide +kernel
theorem dMd_dominates_9 : decode cMd_dominates 9 = .ok (.aload_n 0, 1) := by decide +kernel
theorem dMd_dominates_10 : decode cMd_dominates 10 = .ok (.iload_n 2, 1) := by decide +kernel
theorem dMd_dominates_11 : decode cMd_dominates 11 = .ok (.invokevirtual 102, 3) := by decide +kernel
theorem dMd_dominates_14 : decode cMd_dominates 14 = .ok (.ifCond .eq 7, 3) := by decide +kernel
theorem dMd_dominates_17 : decode cMd_dominates 17 = .ok (.iconst 1, 1) := by decide +kernel
theorem dMd_dominates_18 : decode cMd_dominates 18 = .ok (.goto 4, 3) := by decide +kernel
theorem dMd_dominates_21 : decode cMd_dominates 21 = .ok (.iconst 0, 1) := by decide +kernel
theorem dMd_dominates_22 : decode cMd_dominates 22 = .ok (.putfield 99, 3) := by decide +kernel
theorem dMd_dominates_25 : decode cMd_dominates 25 = .ok (.aload_n 0, 1) := by decide +kernel
theorem dMd_dominates_26 : decode cMd_dominates 26 = .ok (.invokevirtual 133, 3) := by decide +kernel
theorem dMd_dominates_29 : decode cMd_dominates 29 = .ok (.aload_n 0, 1) := by decide +kernel
theorem dMd_dominates_30 : decode cMd_dominates 30 = .ok (.getfield 99, 3) := by decide +kernel
theorem dMd_dominates_33 : decode cMd_dominates 33 = .ok (.ifCond .ne 45, 3) := by decide +kernel
theorem dMd_dominates_36 : decode cMd_dominates 36 = .ok (.aload_n 0, 1) := by decide +kernel
theorem dMd_dominates_37 : decode cMd_dominates 37 = .ok (.aload_n 0, 1) := by decide +kernel
theorem dMd_dominates_38 : decode cMd_dominates 38 = .ok (.getfield 121, 3) := by decide +kernel
theorem dMd_dominates_41 : decode cMd_dominates 41 = .ok (.iload_n 1, 1) := by decide +kernel
theorem dMd_dominates_42 : decode cMd_dominates 42 = .ok (.invokevirtual 113, 3) := by decide +kernel
theorem dMd_dominates_45 : decode cMd_dominates 45 = .ok (.ifCond .eq 33, 3) := by decide +kernel
theorem dMd_dominates_48 : decode cMd_dominates 48 = .ok (.aload_n 0, 1) := by decide +kernel
theorem dMd_dominates_49 : decode cMd_dominates 49 = .ok (.aload_n 0, 1) := by decide +kernel
theorem dMd_dominates_50 : decode cMd_dominates 50 = .ok (.getfield 121, 3) := by decide +kernel
theorem dMd_dominates_53 : decode cMd_dominates 53 = .ok (.iload_n 2, 1) := by decide +kernel
theorem dMd_dominates_54 : decode cMd_dominates 54 = .ok (.invokevirtual 113, 3) := by decide +kernel
theorem dMd_dominates_57 : decode cMd_dominates 57 = .ok (.ifCond .eq 21, 3) := by decide +kernel
theorem dMd_dominates_60 : decode cMd_dominates 60 = .ok (.aload_n 0, 1) := by decide +kernel
theorem dMd_dominates_61 : decode cMd_dominates 61 = .ok (.aload_n 0, 1) := by decide +kernel
theorem dMd_dominates_62 : decode cMd_dominates 62 = .ok (.getfield 40, 3) := by decide +kernel
theorem dMd_dominates_65 : decode cMd_dominates 65 = .ok (.iload_n 2, 1) := by decide +kernel
theorem dMd_dominates_66 : decode cMd_dominates 66 = .ok (.iaload, 1) := by decide +kernel
theorem dMd_dominates_67 : decode cMd_dominates 67 = .ok (.iload_n 1, 1) := by decide +kernel
theorem dMd_dominates_68 : decode cMd_dominates 68 = .ok (.invokevirtual 113, 3) := by decide +kernel
theorem dMd_dominates_71 : decode cMd_dominates 71 = .ok (.ifCond .eq 7, 3) := by decide +kernel
theorem dMd_dominates_74 : decode cMd_dominates 74 = .ok (.iconst 1, 1) := by decide +kernel
theorem dMd_dominates_75 : decode cMd_dominates 75 = .ok (.goto 4, 3) := by decide +kernel
theorem dMd_dominates_78 : decode cMd_dominates 78 = .ok (.iconst 0, 1) := by decide +kernel
theorem dMd_dominates_79 : decode cMd_dominates 79 = .ok (.ireturn, 1) := by decide +kernel
theorem dMd_frontier_0 : decode cMd_frontier 0 = .ok (.aload_n 0, 1) := by decide +kernel
theorem dMd_frontier_1 : decode cMd_frontier 1 = .ok (.aload_n 0, 1) := by decide +kernel
theorem dMd_frontier_2 : decode cMd_frontier 2 = .ok (.iload_n 1, 1) := by decide +kernel
theorem dMd_frontier_3 : decode cMd_frontier 3 = .ok (.invokevirtual 102, 3) := by decide +kernel
theorem dMd_frontier_6 : decode cMd_frontier 6 = .ok (.ifCond .ne 11, 3) := by decide +kernel
theorem dMd_frontier_9 : decode cMd_frontier 9 = .ok (.aload_n 0, 1) := by decide +kernel
theorem dMd_frontier_10 : decode cMd_frontier 10 = .ok (.iload_n 2, 1) := by decide +kernel
theorem dMd_frontier_11 : decode cMd_frontier 11 = .ok (.invokevirtual 102, 3) := by decide +kernel
theorem dMd_frontier_14 : decode cMd_frontier 14 = .ok (.ifCond .eq 7, 3) := by decide +kernel
theorem dMd_frontier_17 : decode cMd_frontier 17 = .ok (.iconst 1, 1) := by decide +kernel
theorem dMd_frontier_18 : decode cMd_frontier 18 = .ok (.goto 4, 3) := by decide +kernel
theorem dMd_frontier_21 : decode cMd_frontier 21 = .ok (.iconst 0, 1) := by decide +kernel
theorem dMd_frontier_22 : decode cMd_frontier 22 = .ok (.putfield 99, 3) := by decide +kernel
theorem dMd_frontier_25 : decode cMd_frontier 25 = .ok (.aload_n 0, 1) := by decide +kernel
theorem dMd_frontier_26 : decode cMd_frontier 26 = .ok (.invokevirtual 133, 3) := by decide +kernel
theorem dMd_frontier_29 : decode cMd_frontier 29 = .ok (.aload_n 0, 1) := by decide +kernel
theorem dMd_frontier_30 : decode cMd_frontier 30 = .ok (.getfield 99, 3) := by decide +kernel
theorem dMd_frontier_33 : decode cMd_frontier 33 = .ok (.ifCond .ne 16, 3) := by decide +kernel
theorem dMd_frontier_36 : decode cMd_frontier 36 = .ok (.aload_n 0, 1) := by decide +kernel
theorem dMd_frontier_37 : decode cMd_frontier 37 = .ok (.iload_n 1, 1) := by decide +kernel
theorem dMd_frontier_38 : decode cMd_frontier 38 = .ok (.iload_n 2, 1) := by decide +kernel
theorem dMd_frontier_39 : decode cMd_frontier 39 = .ok (.invokevirtual 139, 3) := by decide +kernel
theorem dMd_frontier_42 : decode cMd_frontier 42 = .ok (.ifCond .eq 7, 3) := by decide +kernel
theorem dMd_frontier_45 : decode cMd_frontier 45 = .ok (.iconst 1, 1) := by decide +kernel
theorem dMd_frontier_46 : decode cMd_frontier 46 = .ok (.goto 4, 3) := by decide +kernel
theorem dMd_frontier_49 : decode cMd_frontier 49 = .ok (.iconst 0, 1) := by decide +kernel
theorem dMd_frontier_50 : decode cMd_frontier 50 = .ok (.ireturn, 1) := by decide +kernel
theorem dMd_setsVariable_0 : decode cMd_setsVariable 0 = .ok (.iconst 0, 1) := by decide +kernel
theorem dMd_setsVariable_1 : decode cMd_setsVariable 1 = .ok (.istore_n 3, 1) := by decide +kernel
theorem dMd_setsVariable_2 : decode cMd_setsVariable 2 = .ok (.bipush 6, 2) := by decide +kernel
theorem dMd_setsVariable_4 : decode cMd_setsVariable 4 = .ok (.iload_n 1, 1) := by decide +kernel
theorem dMd_setsVariable_5 : decode cMd_setsVariable 5 = .ok (.imul, 1) := by decide +kernel
theorem dMd_setsVariable_6 : decode cMd_setsVariable 6 = .ok (.istore 4, 2) := by decide +kernel
theorem dMd_setsVariable_8 : decode cMd_setsVariable 8 = .ok (.iload 4, 2) := by decide +kernel
theorem dMd_setsVariable_10 : decode cMd_setsVariable 10 = .ok (.bipush 6, 2) := by decide +kernel
theorem dMd_setsVariable_12 : decode cMd_setsVariable 12 = .ok (.iload_n 1, 1) := by decide +kernel
theorem dMd_setsVariable_13 : decode cMd_setsVariable 13 = .ok (.imul, 1) := by decide +kernel
theorem dMd_setsVariable_14 : decode cMd_setsVariable 14 = .ok (.aload_n 0, 1) := by decide +kernel
theorem dMd_setsVariable_15 : decode cMd_setsVariable 15 = .ok (.getfield 7, 3) := by decide +kernel
theorem dMd_setsVariable_18 : decode cMd_setsVariable 18 = .ok (.iload_n 1, 1) := by decide +kernel
theorem dMd_setsVariable_19 : decode cMd_setsVariable 19 = .ok (.iaload, 1) := by decide +kernel
theorem dMd_setsVariable_20 : decode cMd_setsVariable 20 = .ok (.iadd, 1) := by decide +kernel
theorem dMd_setsVariable_21 : decode cMd_setsVariable 21 = .ok (.if_icmp .ge 42, 3) := by decide +kernel
theorem dMd_setsVariable_24 : decode cMd_setsVariable 24 = .ok (.iload_n 3, 1) := by decide +kernel
theorem dMd_setsVariable_25 : decode cMd_setsVariable 25 = .ok (.ifCond .ne 26, 3) := by decide +kernel
theorem dMd_setsVariable_28 : decode cMd_setsVariable 28 = .ok (.aload_n 0, 1) := by decide +kernel
theorem dMd_setsVariable_29 : decode cMd_setsVariable 29 = .ok (.getfield 13, 3) := by decide +kernel
theorem dMd_setsVariable_32 : decode cMd_setsVariable 32 = .ok (.iload 4, 2) := by decide +kernel
theorem dMd_setsVariable_34 : decode cMd_setsVariable 34 = .ok (.iaload, 1) := by decide +kernel
theorem dMd_setsVariable_35 : decode cMd_setsVariable 35 = .ok (.bipush 7, 2) := by decide +kernel
theorem dMd_setsVariable_37 : decode cMd_setsVariable 37 = .ok (.if_icmp .ge 18, 3) := by decide +kernel
theorem dMd_setsVariable_40 : decode cMd_setsVariable 40 = .ok (.aload_n 0, 1) := by decide +kernel
theorem dMd_setsVariable_41 : decode cMd_setsVariable 41 = .ok (.getfield 16, 3) := by decide +kernel
theorem dMd_setsVariable_44 : decode cMd_setsVariable 44 = .ok (.iload 4, 2) := by decide +kernel
theorem dMd_setsVariable_46 : decode cMd_setsVariable 46 = .ok (.iaload, 1) := by decide +kernel
theorem dMd_setsVariable_47 : decode cMd_setsVariable 47 = .ok (.iload_n 2, 1) := by decide +kernel
theorem dMd_setsVariable_48 : decode cMd_setsVariable 48 = .ok (.if_icmp .ne 7, 3) := by decide +kernel
theorem dMd_setsVariable_51 : decode cMd_setsVariable 51 = .ok (.iconst 1, 1) := by decide +kernel
theorem dMd_setsVariable_52 : decode cMd_setsVariable 52 = .ok (.goto 4, 3) := by decide +kernel
theorem dMd_setsVariable_55 : decode cMd_setsVariable 55 = .ok (.iconst 0, 1) := by decide +kernel
theorem dMd_setsVariable_56 : decode cMd_setsVariable 56 = .ok (.istore_n 3, 1) := by decide +kernel
theorem dMd_setsVariable_57 : decode cMd_setsVariable 57 = .ok (.iinc 4 1, 3) := by decide +kernel
theorem dMd_setsVariable_60 : decode cMd_setsVariable 60 = .ok (.goto (-52), 3) := by decide +kernel
theorem dMd_setsVariable_63 : decode cMd_setsVariable 63 = .ok (.iload_n 3, 1) := by decide +kernel
theorem dMd_setsVariable_64 : decode cMd_setsVariable 64 = .ok (.ireturn, 1) := by decide +kernel
theorem dMd_findMeetings_0 : decode cMd_findMeetings 0 = .ok (.iconst 0, 1) := by decide +kernel
theorem dMd_findMeetings_1 : decode cMd_findMeetings 1 = .ok (.istore_n 1, 1) := by decide +kernel
theorem dMd_findMeetings_2 : decode cMd_findMeetings 2 = .ok (.iload_n 1, 1) := by decide +kernel
theorem dMd_findMeetings_3 : decode cMd_findMeetings 3 = .ok (.bipush 72, 2) := by decide +kernel
theorem dMd_findMeetings_5 : decode cMd_findMeetings 5 = .ok (.if_icmp .ge 16, 3) := by decide +kernel
theorem dMd_findMeetings_8 : decode cMd_findMeetings 8 = .ok (.aload_n 0, 1) := by decide +kernel
theorem dMd_findMeetings_9 : decode cMd_findMeetings 9 = .ok (.getfield 43, 3) := by decide +kernel
theorem dMd_findMeetings_12 : decode cMd_findMeetings 12 = .ok (.iload_n 1, 1) := by decide +kernel
theorem dMd_findMeetings_13 : decode cMd_findMeetings 13 = .ok (.iconst (-1), 1) := by decide +kernel
theorem dMd_findMeetings_14 : decode cMd_findMeetings 14 = .ok (.iastore, 1) := by decide +kernel
theorem dMd_findMeetings_15 : decode cMd_findMeetings 15 = .ok (.iinc 1 1, 3) := by decide +kernel
theorem dMd_findMeetings_18 : decode cMd_findMeetings 18 = .ok (.goto (-16), 3) := by decide +kernel
theorem dMd_findMeetings_21 : decode cMd_findMeetings 21 = .ok (.iconst 1, 1) := by decide +kernel
theorem dMd_findMeetings_22 : decode cMd_findMeetings 22 = .ok (.istore_n 1, 1) := by decide +kernel
theorem dMd_findMeetings_23 : decode cMd_findMeetings 23 = .ok (.iload_n 1, 1) := by decide +kernel
theorem dMd_findMeetings_24 : decode cMd_findMeetings 24 = .ok (.ifCond .eq 124, 3) := by decide +kernel
theorem dMd_findMeetings_27 : decode cMd_findMeetings 27 = .ok (.iconst 0, 1) := by decide +kernel
theorem dMd_findMeetings_28 : decode cMd_findMeetings 28 = .ok (.istore_n 1, 1) := by decide +kernel
theorem dMd_findMeetings_29 : decode cMd_findMeetings 29 = .ok (.iconst 0, 1) := by decide +kernel
theorem dMd_findMeetings_30 : decode cMd_findMeetings 30 = .ok (.istore_n 2, 1) := by decide +kernel
theorem dMd_findMeetings_31 : decode cMd_findMeetings 31 = .ok (.iload_n 2, 1) := by decide +kernel
theorem dMd_findMeetings_32 : decode cMd_findMeetings 32 = .ok (.aload_n 0, 1) := by decide +kernel
theorem dMd_findMeetings_33 : decode cMd_findMeetings 33 = .ok (.getfield 95, 3) := by decide +kernel
theorem dMd_findMeetings_36 : decode cMd_findMeetings 36 = .ok (.if_icmp .ge 109, 3) := by decide +kernel
theorem dMd_findMeetings_39 : decode cMd_findMeetings 39 = .ok (.iconst 0, 1) := by decide +kernel
theorem dMd_findMeetings_40 : decode cMd_findMeetings 40 = .ok (.istore_n 3, 1) := by decide +kernel
theorem dMd_findMeetings_41 : decode cMd_findMeetings 41 = .ok (.iload_n 3, 1) := by decide +kernel
theorem dMd_findMeetings_42 : decode cMd_findMeetings 42 = .ok (.aload_n 0, 1) := by decide +kernel
theorem dMd_findMeetings_43 : decode cMd_findMeetings 43 = .ok (.getfield 95, 3) := by decide +kernel
theorem dMd_findMeetings_46 : decode cMd_findMeetings 46 = .ok (.if_icmp .ge 93, 3) := by decide +kernel
theorem dMd_findMeetings_49 : decode cMd_findMeetings 49 = .ok (.aload_n 0, 1) := by decide +kernel
theorem dMd_findMeetings_50 : decode cMd_findMeetings 50 = .ok (.iload_n 2, 1) := by decide +kernel
theorem dMd_findMeetings_51 : decode cMd_findMeetings 51 = .ok (.iload_n 3, 1) := by decide +kernel
theorem dMd_findMeetings_52 : decode cMd_findMeetings 52 = .ok (.invokevirtual 139, 3) := by decide +kernel
theorem dMd_findMeetings_55 : decode cMd_findMeetings 55 = .ok (.istore 4, 2) := by decide +kernel
theorem dMd_findMeetings_57 : decode cMd_findMeetings 57 = .ok (.iconst 0, 1) := by decide +kernel
theorem dMd_findMeetings_58 : decode cMd_findMeetings 58 = .ok (.istore 5, 2) := by decide +kernel
theorem dMd_findMeetings_60 : decode cMd_findMeetings 60 = .ok (.iload 5, 2) := by decide +kernel
theorem dMd_findMeetings_62 : decode cMd_findMeetings 62 = .ok (.bipush 6, 2) := by decide +kernel
theorem dMd_findMeetings_64 : decode cMd_findMeetings 64 = .ok (.if_icmp .ge 69, 3) := by decide +kernel
theorem dMd_findMeetings_67 : decode cMd_findMeetings 67 = .ok (.iload 4, 2) := by decide +kernel
theorem dMd_findMeetings_69 : decode cMd_findMeetings 69 = .ok (.ifCond .eq 64, 3) := by decide +kernel
theorem dMd_findMeetings_72 : decode cMd_findMeetings 72 = .ok (.aload_n 0, 1) := by decide +kernel
theorem dMd_findMeetings_73 : decode cMd_findMeetings 73 = .ok (.getfield 43, 3) := by decide +kernel
theorem dMd_findMeetings_76 : decode cMd_findMeetings 76 = .ok (.bipush 6, 2) := by decide +kernel
theorem dMd_findMeetings_78 : decode cMd_findMeetings 78 = .ok (.iload_n 3, 1) := by decide +kernel
theorem dMd_findMeetings_79 : decode cMd_findMeetings 79 = .ok (.imul, 1) := by decide +kernel
theorem dMd_findMeetings_80 : decode cMd_findMeetings 80 = .ok (.iload 5, 2) := by decide +kernel
theorem dMd_findMeetings_82 : decode cMd_findMeetings 82 = .ok (.iadd, 1) := by decide +kernel
theorem dMd_findMeetings_83 : decode cMd_findMeetings 83 = .ok (.iaload, 1) := by decide +kernel
theorem dMd_findMeetings_84 : decode cMd_findMeetings 84 = .ok (.ifCond .ge 43, 3) := by decide +kernel
theorem dMd_findMeetings_87 : decode cMd_findMeetings 87 = .ok (.aload_n 0, 1) := by decide +kernel
theorem dMd_findMeetings_88 : decode cMd_findMeetings 88 = .ok (.iload_n 2, 1) := by decide +kernel
theorem dMd_findMeetings_89 : decode cMd_findMeetings 89 = .ok (.iload 5, 2) := by decide +kernel
theorem dMd_findMeetings_91 : decode cMd_findMeetings 91 = .ok (.invokevirtual 142, 3) := by decide +kernel
theorem dMd_findMeetings_94 : decode cMd_findMeetings 94 = .ok (.ifCond .ne 18, 3) := by decide +kernel
theorem dMd_findMeetings_97 : decode cMd_findMeetings 97 = .ok (.aload_n 0, 1) := by decide +kernel
theorem dMd_findMeetings_98 : decode cMd_findMeetings 98 = .ok (.getfield 43, 3) := by decide +kernel
theorem dMd_findMeetings_101 : decode cMd_findMeetings 101 = .ok (.bipush 6, 2) := by decide +kernel
theorem dMd_findMeetings_103 : decode cMd_findMeetings 103 = .ok (.iload_n 2, 1) := by decide +kernel
theorem dMd_findMeetings_104 : decode cMd_findMeetings 104 = .ok (.imul, 1) := by decide +kernel
theorem dMd_findMeetings_105 : decode cMd_findMeetings 105 = .ok (.iload 5, 2) := by decide +kernel
theorem dMd_findMeetings_107 : decode cMd_findMeetings 107 = .ok (.iadd, 1) := by decide +kernel
theorem dMd_findMeetings_108 : decode cMd_findMeetings 108 = .ok (.iaload, 1) := by decide +kernel
theorem dMd_findMeetings_109 : decode cMd_findMeetings 109 = .ok (.ifCond .lt 18, 3) := by decide +kernel
theorem dMd_findMeetings_112 : decode cMd_findMeetings 112 = .ok (.aload_n 0, 1) := by decide +kernel
theorem dMd_findMeetings_113 : decode cMd_findMeetings 113 = .ok (.getfield 43, 3) := by decide +kernel
theorem dMd_findMeetings_116 : decode cMd_findMeetings 116 = .ok (.bipush 6, 2) := by decide +kernel
theorem dMd_findMeetings_118 : decode cMd_findMeetings 118 = .ok (.iload_n 3, 1) := by decide +kernel
theorem dMd_findMeetings_119 : decode cMd_findMeetings 119 = .ok (.imul, 1) := by decide +kernel
theorem dMd_findMeetings_120 : decode cMd_findMeetings 120 = .ok (.iload 5, 2) := by decide +kernel
theorem dMd_findMeetings_122 : decode cMd_findMeetings 122 = .ok (.iadd, 1) := by decide +kernel
theorem dMd_findMeetings_123 : decode cMd_findMeetings 123 = .ok (.iconst 0, 1) := by decide +kernel
theorem dMd_findMeetings_124 : decode cMd_findMeetings 124 = .ok (.iastore, 1) := by decide +kernel
theorem dMd_findMeetings_125 : decode cMd_findMeetings 125 = .ok (.iconst 1, 1) := by decide +kernel
theorem dMd_findMeetings_126 : decode cMd_findMeetings 126 = .ok (.istore_n 1, 1) := by decide +kernel
theorem dMd_findMeetings_127 : decode cMd_findMeetings 127 = .ok (.iinc 5 1, 3) := by decide +kernel
theorem dMd_findMeetings_130 : decode cMd_findMeetings 130 = .ok (.goto (-70), 3) := by decide +kernel
theorem dMd_findMeetings_133 : decode cMd_findMeetings 133 = .ok (.iinc 3 1, 3) := by decide +kernel
theorem dMd_findMeetings_136 : decode cMd_findMeetings 136 = .ok (.goto (-95), 3) := by decide +kernel
theorem dMd_findMeetings_139 : decode cMd_findMeetings 139 = .ok (.iinc 2 1, 3) := by decide +kernel
theorem dMd_findMeetings_142 : decode cMd_findMeetings 142 = .ok (.goto (-111), 3) := by decide +kernel
theorem dMd_findMeetings_145 : decode cMd_findMeetings 145 = .ok (.goto (-122), 3) := by decide +kernel
theorem dMd_findMeetings_148 : decode cMd_findMeetings 148 = .ok (.return_, 1) := by decide +kernel
theorem dMd_newName_0 : decode cMd_newName 0 = .ok (.bipush 100, 2) := by decide +kernel
theorem dMd_newName_2 : decode cMd_newName 2 = .ok (.iload_n 1, 1) := by decide +kernel
theorem dMd_newName_3 : decode cMd_newName 3 = .ok (.imul, 1) := by decide +kernel
theorem dMd_newName_4 : decode cMd_newName 4 = .ok (.aload_n 0, 1) := by decide +kernel
theorem dMd_newName_5 : decode cMd_newName 5 = .ok (.getfield 74, 3) := by decide +kernel
theorem dMd_newName_8 : decode cMd_newName 8 = .ok (.iload_n 1, 1) := by decide +kernel
theorem dMd_newName_9 : decode cMd_newName 9 = .ok (.iaload, 1) := by decide +kernel
theorem dMd_newName_10 : decode cMd_newName 10 = .ok (.iadd, 1) := by decide +kernel
theorem dMd_newName_11 : decode cMd_newName 11 = .ok (.istore 4, 2) := by decide +kernel
theorem dMd_newName_13 : decode cMd_newName 13 = .ok (.aload_n 0, 1) := by decide +kernel
theorem dMd_newName_14 : decode cMd_newName 14 = .ok (.getfield 74, 3) := by decide +kernel
theorem dMd_newName_17 : decode cMd_newName 17 = .ok (.iload_n 1, 1) := by decide +kernel
theorem dMd_newName_18 : decode cMd_newName 18 = .ok (.dup2, 1) := by decide +kernel
theorem dMd_newName_19 : decode cMd_newName 19 = .ok (.iaload, 1) := by decide +kernel
theorem dMd_newName_20 : decode cMd_newName 20 = .ok (.iconst 1, 1) := by decide +kernel
theorem dMd_newName_21 : decode cMd_newName 21 = .ok (.iadd, 1) := by decide +kernel
theorem dMd_newName_22 : decode cMd_newName 22 = .ok (.iastore, 1) := by decide +kernel
theorem dMd_newName_23 : decode cMd_newName 23 = .ok (.aload_n 0, 1) := by decide +kernel
theorem dMd_newName_24 : decode cMd_newName 24 = .ok (.getfield 65, 3) := by decide +kernel
theorem dMd_newName_27 : decode cMd_newName 27 = .ok (.iload 4, 2) := by decide +kernel
theorem dMd_newName_29 : decode cMd_newName 29 = .ok (.iconst 1, 1) := by decide +kernel
theorem dMd_newName_30 : decode cMd_newName 30 = .ok (.bastore, 1) := by decide +kernel
theorem dMd_newName_31 : decode cMd_newName 31 = .ok (.aload_n 0, 1) := by decide +kernel
theorem dMd_newName_32 : decode cMd_newName 32 = .ok (.getfield 68, 3) := by decide +kernel
theorem dMd_newName_35 : decode cMd_newName 35 = .ok (.iload 4, 2) := by decide +kernel
theorem dMd_newName_37 : decode cMd_newName 37 = .ok (.iload_n 2, 1) := by decide +kernel
theorem dMd_newName_38 : decode cMd_newName 38 = .ok (.iastore, 1) := by decide +kernel
theorem dMd_newName_39 : decode cMd_newName 39 = .ok (.aload_n 0, 1) := by decide +kernel
theorem dMd_newName_40 : decode cMd_newName 40 = .ok (.getfield 71, 3) := by decide +kernel
theorem dMd_newName_43 : decode cMd_newName 43 = .ok (.iload 4, 2) := by decide +kernel
theorem dMd_newName_45 : decode cMd_newName 45 = .ok (.iload_n 3, 1) := by decide +kernel
theorem dMd_newName_46 : decode cMd_newName 46 = .ok (.iastore, 1) := by decide +kernel
theorem dMd_newName_47 : decode cMd_newName 47 = .ok (.iload 4, 2) := by decide +kernel
theorem dMd_newName_49 : decode cMd_newName 49 = .ok (.ireturn, 1) := by decide +kernel
theorem dMd_nameBlockOf_0 : decode cMd_nameBlockOf 0 = .ok (.iconst 0, 1) := by decide +kernel
theorem dMd_nameBlockOf_1 : decode cMd_nameBlockOf 1 = .ok (.istore_n 2, 1) := by decide +kernel
theorem dMd_nameBlockOf_2 : decode cMd_nameBlockOf 2 = .ok (.iload_n 2, 1) := by decide +kernel
theorem dMd_nameBlockOf_3 : decode cMd_nameBlockOf 3 = .ok (.bipush 6, 2) := by decide +kernel
theorem dMd_nameBlockOf_5 : decode cMd_nameBlockOf 5 = .ok (.if_icmp .ge 41, 3) := by decide +kernel
theorem dMd_nameBlockOf_8 : decode cMd_nameBlockOf 8 = .ok (.aload_n 0, 1) := by decide +kernel
theorem dMd_nameBlockOf_9 : decode cMd_nameBlockOf 9 = .ok (.getfield 43, 3) := by decide +kernel
theorem dMd_nameBlockOf_12 : decode cMd_nameBlockOf 12 = .ok (.bipush 6, 2) := by decide +kernel
theorem dMd_nameBlockOf_14 : decode cMd_nameBlockOf 14 = .ok (.iload_n 1, 1) := by decide +kernel
theorem dMd_nameBlockOf_15 : decode cMd_nameBlockOf 15 = .ok (.imul, 1) := by decide +kernel
theorem dMd_nameBlockOf_16 : decode cMd_nameBlockOf 16 = .ok (.iload_n 2, 1) := by decide +kernel
theorem dMd_nameBlockOf_17 : decode cMd_nameBlockOf 17 = .ok (.iadd, 1) := by decide +kernel
theorem dMd_nameBlockOf_18 : decode cMd_nameBlockOf 18 = .ok (.iaload, 1) := by decide +kernel
theorem dMd_nameBlockOf_19 : decode cMd_nameBlockOf 19 = .ok (.ifCond .lt 21, 3) := by decide +kernel
theorem dMd_nameBlockOf_22 : decode cMd_nameBlockOf 22 = .ok (.aload_n 0, 1) := by decide +kernel
theorem dMd_nameBlockOf_23 : decode cMd_nameBlockOf 23 = .ok (.getfield 43, 3) := by decide +kernel
theorem dMd_nameBlockOf_26 : decode cMd_nameBlockOf 26 = .ok (.bipush 6, 2) := by decide +kernel
theorem dMd_nameBlockOf_28 : decode cMd_nameBlockOf 28 = .ok (.iload_n 1, 1) := by decide +kernel
theorem dMd_nameBlockOf_29 : decode cMd_nameBlockOf 29 = .ok (.imul, 1) := by decide +kernel
theorem dMd_nameBlockOf_30 : decode cMd_nameBlockOf 30 = .ok (.iload_n 2, 1) := by decide +kernel
theorem dMd_nameBlockOf_31 : decode cMd_nameBlockOf 31 = .ok (.iadd, 1) := by decide +kernel
theorem dMd_nameBlockOf_32 : decode cMd_nameBlockOf 32 = .ok (.aload_n 0, 1) := by decide +kernel
theorem dMd_nameBlockOf_33 : decode cMd_nameBlockOf 33 = .ok (.iload_n 2, 1) := by decide +kernel
theorem dMd_nameBlockOf_34 : decode cMd_nameBlockOf 34 = .ok (.iload_n 1, 1) := by decide +kernel
theorem dMd_nameBlockOf_35 : decode cMd_nameBlockOf 35 = .ok (.iconst (-1), 1) := by decide +kernel
theorem dMd_nameBlockOf_36 : decode cMd_nameBlockOf 36 = .ok (.invokevirtual 145, 3) := by decide +kernel
theorem dMd_nameBlockOf_39 : decode cMd_nameBlockOf 39 = .ok (.iastore, 1) := by decide +kernel
theorem dMd_nameBlockOf_40 : decode cMd_nameBlockOf 40 = .ok (.iinc 2 1, 3) := by decide +kernel
theorem dMd_nameBlockOf_43 : decode cMd_nameBlockOf 43 = .ok (.goto (-41), 3) := by decide +kernel
theorem dMd_nameBlockOf_46 : decode cMd_nameBlockOf 46 = .ok (.iconst 0, 1) := by decide +kernel
theorem dMd_nameBlockOf_47 : decode cMd_nameBlockOf 47 = .ok (.istore_n 2, 1) := by decide +kernel
theorem dMd_nameBlockOf_48 : decode cMd_nameBlockOf 48 = .ok (.iload_n 2, 1) := by decide +kernel
theorem dMd_nameBlockOf_49 : decode cMd_nameBlockOf 49 = .ok (.aload_n 0, 1) := by decide +kernel
theorem dMd_nameBlockOf_50 : decode cMd_nameBlockOf 50 = .ok (.getfield 7, 3) := by decide +kernel
theorem dMd_nameBlockOf_53 : decode cMd_nameBlockOf 53 = .ok (.iload_n 1, 1) := by decide +kernel
theorem dMd_nameBlockOf_54 : decode cMd_nameBlockOf 54 = .ok (.iaload, 1) := by decide +kernel
theorem dMd_nameBlockOf_55 : decode cMd_nameBlockOf 55 = .ok (.if_icmp .ge 49, 3) := by decide +kernel
theorem dMd_nameBlockOf_58 : decode cMd_nameBlockOf 58 = .ok (.bipush 6, 2) := by decide +kernel
theorem dMd_nameBlockOf_60 : decode cMd_nameBlockOf 60 = .ok (.iload_n 1, 1) := by decide +kernel
theorem dMd_nameBlockOf_61 : decode cMd_nameBlockOf 61 = .ok (.imul, 1) := by decide +kernel
theorem dMd_nameBlockOf_62 : decode cMd_nameBlockOf 62 = .ok (.iload_n 2, 1) := by decide +kernel
theorem dMd_nameBlockOf_63 : decode cMd_nameBlockOf 63 = .ok (.iadd, 1) := by decide +kernel
theorem dMd_nameBlockOf_64 : decode cMd_nameBlockOf 64 = .ok (.istore_n 3, 1) := by decide +kernel
theorem dMd_nameBlockOf_65 : decode cMd_nameBlockOf 65 = .ok (.aload_n 0, 1) := by decide +kernel
theorem dMd_nameBlockOf_66 : decode cMd_nameBlockOf 66 = .ok (.getfield 49, 3) := by decide +kernel
theorem dMd_nameBlockOf_69 : decode cMd_nameBlockOf 69 = .ok (.iload_n 3, 1) := by decide +kernel
theorem dMd_nameBlockOf_70 : decode cMd_nameBlockOf 70 = .ok (.aload_n 0, 1) := by decide +kernel
theorem dMd_nameBlockOf_71 : decode cMd_nameBlockOf 71 = .ok (.getfield 13, 3) := by decide +kernel
theorem dMd_nameBlockOf_74 : decode cMd_nameBlockOf 74 = .ok (.iload_n 3, 1) := by decide +kernel
theorem dMd_nameBlockOf_75 : decode cMd_nameBlockOf 75 = .ok (.iaload, 1) := by decide +kernel
theorem dMd_nameBlockOf_76 : decode cMd_nameBlockOf 76 = .ok (.bipush 7, 2) := by decide +kernel
theorem dMd_nameBlockOf_78 : decode cMd_nameBlockOf 78 = .ok (.if_icmp .ge 18, 3) := by decide +kernel
theorem dMd_nameBlockOf_81 : decode cMd_nameBlockOf 81 = .ok (.aload_n 0, 1) := by decide +kernel
theorem dMd_nameBlockOf_82 : decode cMd_nameBlockOf 82 = .ok (.aload_n 0, 1) := by decide +kernel
theorem dMd_nameBlockOf_83 : decode cMd_nameBlockOf 83 = .ok (.getfield 16, 3) := by decide +kernel
theorem dMd_nameBlockOf_86 : decode cMd_nameBlockOf 86 = .ok (.iload_n 3, 1) := by decide +kernel
theorem dMd_nameBlockOf_87 : decode cMd_nameBlockOf 87 = .ok (.iaload, 1) := by decide +kernel
theorem dMd_nameBlockOf_88 : decode cMd_nameBlockOf 88 = .ok (.iload_n 1, 1) := by decide +kernel
theorem dMd_nameBlockOf_89 : decode cMd_nameBlockOf 89 = .ok (.iload_n 2, 1) := by decide +kernel
theorem dMd_nameBlockOf_90 : decode cMd_nameBlockOf 90 = .ok (.invokevirtual 145, 3) := by decide +kernel
theorem dMd_nameBlockOf_93 : decode cMd_nameBlockOf 93 = .ok (.goto 4, 3) := by decide +kernel
theorem dMd_nameBlockOf_96 : decode cMd_nameBlockOf 96 = .ok (.iconst (-1), 1) := by decide +kernel
theorem dMd_nameBlockOf_97 : decode cMd_nameBlockOf 97 = .ok (.iastore, 1) := by decide +kernel
theorem dMd_nameBlockOf_98 : decode cMd_nameBlockOf 98 = .ok (.iinc 2 1, 3) := by decide +kernel
theorem dMd_nameBlockOf_101 : decode cMd_nameBlockOf 101 = .ok (.goto (-53), 3) := by decide +kernel
theorem dMd_nameBlockOf_104 : decode cMd_nameBlockOf 104 = .ok (.return_, 1) := by decide +kernel
theorem dMd_giveNames_0 : decode cMd_giveNames 0 = .ok (.iconst 0, 1) := by decide +kernel
theorem dMd_giveNames_1 : decode cMd_giveNames 1 = .ok (.istore_n 1, 1) := by decide +kernel
theorem dMd_giveNames_2 : decode cMd_giveNames 2 = .ok (.iload_n 1, 1) := by decide +kernel
theorem dMd_giveNames_3 : decode cMd_giveNames 3 = .ok (.sipush 600, 3) := by decide +kernel
theorem dMd_giveNames_6 : decode cMd_giveNames 6 = .ok (.if_icmp .ge 16, 3) := by decide +kernel
theorem dMd_giveNames_9 : decode cMd_giveNames 9 = .ok (.aload_n 0, 1) := by decide +kernel
theorem dMd_giveNames_10 : decode cMd_giveNames 10 = .ok (.getfield 65, 3) := by decide +kernel
theorem dMd_giveNames_13 : decode cMd_giveNames 13 = .ok (.iload_n 1, 1) := by decide +kernel
theorem dMd_giveNames_14 : decode cMd_giveNames 14 = .ok (.iconst 0, 1) := by decide +kernel
theorem dMd_giveNames_15 : decode cMd_giveNames 15 = .ok (.bastore, 1) := by decide +kernel
theorem dMd_giveNames_16 : decode cMd_giveNames 16 = .ok (.iinc 1 1, 3) := by decide +kernel
theorem dMd_giveNames_19 : decode cMd_giveNames 19 = .ok (.goto (-17), 3) := by decide +kernel
theorem dMd_giveNames_22 : decode cMd_giveNames 22 = .ok (.iconst 0, 1) := by decide +kernel
theorem dMd_giveNames_23 : decode cMd_giveNames 23 = .ok (.istore_n 1, 1) := by decide +kernel
theorem dMd_giveNames_24 : decode cMd_giveNames 24 = .ok (.iload_n 1, 1) := by decide +kernel
theorem dMd_giveNames_25 : decode cMd_giveNames 25 = .ok (.bipush 72, 2) := by decide +kernel
theorem dMd_giveNames_27 : decode cMd_giveNames 27 = .ok (.if_icmp .ge 23, 3) := by decide +kernel
theorem dMd_giveNames_30 : decode cMd_giveNames 30 = .ok (.aload_n 0, 1) := by decide +kernel
theorem dMd_giveNames_31 : decode cMd_giveNames 31 = .ok (.getfield 49, 3) := by decide +kernel
theorem dMd_giveNames_34 : decode cMd_giveNames 34 = .ok (.iload_n 1, 1) := by decide +kernel
theorem dMd_giveNames_35 : decode cMd_giveNames 35 = .ok (.iconst (-1), 1) := by decide +kernel
theorem dMd_giveNames_36 : decode cMd_giveNames 36 = .ok (.iastore, 1) := by decide +kernel
theorem dMd_giveNames_37 : decode cMd_giveNames 37 = .ok (.aload_n 0, 1) := by decide +kernel
theorem dMd_giveNames_38 : decode cMd_giveNames 38 = .ok (.getfield 61, 3) := by decide +kernel
theorem dMd_giveNames_41 : decode cMd_giveNames 41 = .ok (.iload_n 1, 1) := by decide +kernel
theorem dMd_giveNames_42 : decode cMd_giveNames 42 = .ok (.iconst 0, 1) := by decide +kernel
theorem dMd_giveNames_43 : decode cMd_giveNames 43 = .ok (.bastore, 1) := by decide +kernel
theorem dMd_giveNames_44 : decode cMd_giveNames 44 = .ok (.iinc 1 1, 3) := by decide +kernel
theorem dMd_giveNames_47 : decode cMd_giveNames 47 = .ok (.goto (-23), 3) := by decide +kernel
theorem dMd_giveNames_50 : decode cMd_giveNames 50 = .ok (.iconst 0, 1) := by decide +kernel
theorem dMd_giveNames_51 : decode cMd_giveNames 51 = .ok (.istore_n 1, 1) := by decide +kernel
theorem dMd_giveNames_52 : decode cMd_giveNames 52 = .ok (.iload_n 1, 1) := by decide +kernel
theorem dMd_giveNames_53 : decode cMd_giveNames 53 = .ok (.bipush 6, 2) := by decide +kernel
theorem dMd_giveNames_55 : decode cMd_giveNames 55 = .ok (.if_icmp .ge 27, 3) := by decide +kernel
theorem dMd_giveNames_58 : decode cMd_giveNames 58 = .ok (.aload_n 0, 1) := by decide +kernel
theorem dMd_giveNames_59 : decode cMd_giveNames 59 = .ok (.getfield 74, 3) := by decide +kernel
theorem dMd_giveNames_62 : decode cMd_giveNames 62 = .ok (.iload_n 1, 1) := by decide +kernel
theorem dMd_giveNames_63 : decode cMd_giveNames 63 = .ok (.iconst 0, 1) := by decide +kernel
theorem dMd_giveNames_64 : decode cMd_giveNames 64 = .ok (.iastore, 1) := by decide +kernel
theorem dMd_giveNames_65 : decode cMd_giveNames 65 = .ok (.aload_n 0, 1) := by decide +kernel
theorem dMd_giveNames_66 : decode cMd_giveNames 66 = .ok (.iload_n 1, 1) := by decide +kernel
theorem dMd_giveNames_67 : decode cMd_giveNames 67 = .ok (.aload_n 0, 1) := by decide +kernel
theorem dMd_giveNames_68 : decode cMd_giveNames 68 = .ok (.getfield 95, 3) := by decide +kernel
theorem dMd_giveNames_71 : decode cMd_giveNames 71 = .ok (.iconst (-1), 1) := by decide +kernel
theorem dMd_giveNames_72 : decode cMd_giveNames 72 = .ok (.invokevirtual 145, 3) := by decide +kernel
theorem dMd_giveNames_75 : decode cMd_giveNames 75 = .ok (.istore_n 2, 1) := by decide +kernel
theorem dMd_giveNames_76 : decode cMd_giveNames 76 = .ok (.iinc 1 1, 3) := by decide +kernel
theorem dMd_giveNames_79 : decode cMd_giveNames 79 = .ok (.goto (-27), 3) := by decide +kernel
theorem dMd_giveNames_82 : decode cMd_giveNames 82 = .ok (.iconst 1, 1) := by decide +kernel
theorem dMd_giveNames_83 : decode cMd_giveNames 83 = .ok (.istore_n 1, 1) := by decide +kernel
theorem dMd_giveNames_84 : decode cMd_giveNames 84 = .ok (.aload_n 0, 1) := by decide +kernel
theorem dMd_giveNames_85 : decode cMd_giveNames 85 = .ok (.getfield 92, 3) := by decide +kernel
theorem dMd_giveNames_88 : decode cMd_giveNames 88 = .ok (.iconst 0, 1) := by decide +kernel
theorem dMd_giveNames_89 : decode cMd_giveNames 89 = .ok (.aload_n 0, 1) := by decide +kernel
theorem dMd_giveNames_90 : decode cMd_giveNames 90 = .ok (.getfield 95, 3) := by decide +kernel
theorem dMd_giveNames_93 : decode cMd_giveNames 93 = .ok (.iastore, 1) := by decide +kernel
theorem dMd_giveNames_94 : decode cMd_giveNames 94 = .ok (.iload_n 1, 1) := by decide +kernel
theorem dMd_giveNames_95 : decode cMd_giveNames 95 = .ok (.ifCond .le 77, 3) := by decide +kernel
theorem dMd_giveNames_98 : decode cMd_giveNames 98 = .ok (.iinc 1 (-1), 3) := by decide +kernel
theorem dMd_giveNames_101 : decode cMd_giveNames 101 = .ok (.aload_n 0, 1) := by decide +kernel
theorem dMd_giveNames_102 : decode cMd_giveNames 102 = .ok (.getfield 92, 3) := by decide +kernel
theorem dMd_giveNames_105 : decode cMd_giveNames 105 = .ok (.iload_n 1, 1) := by decide +kernel
theorem dMd_giveNames_106 : decode cMd_giveNames 106 = .ok (.iaload, 1) := by decide +kernel
theorem dMd_giveNames_107 : decode cMd_giveNames 107 = .ok (.istore_n 2, 1) := by decide +kernel
theorem dMd_giveNames_108 : decode cMd_giveNames 108 = .ok (.iload_n 2, 1) := by decide +kernel
theorem dMd_giveNames_109 : decode cMd_giveNames 109 = .ok (.aload_n 0, 1) := by decide +kernel
theorem dMd_giveNames_110 : decode cMd_giveNames 110 = .ok (.getfield 95, 3) := by decide +kernel
theorem dMd_giveNames_113 : decode cMd_giveNames 113 = .ok (.if_icmp .ge 8, 3) := by decide +kernel
theorem dMd_giveNames_116 : decode cMd_giveNames 116 = .ok (.aload_n 0, 1) := by decide +kernel
theorem dMd_giveNames_117 : decode cMd_giveNames 117 = .ok (.iload_n 2, 1) := by decide +kernel
theorem dMd_giveNames_118 : decode cMd_giveNames 118 = .ok (.invokevirtual 149, 3) := by decide +kernel
theorem dMd_giveNames_121 : decode cMd_giveNames 121 = .ok (.aload_n 0, 1) := by decide +kernel
theorem dMd_giveNames_122 : decode cMd_giveNames 122 = .ok (.getfield 95, 3) := by decide +kernel
theorem dMd_giveNames_125 : decode cMd_giveNames 125 = .ok (.iconst 1, 1) := by decide +kernel
theorem dMd_giveNames_126 : decode cMd_giveNames 126 = .ok (.isub, 1) := by decide +kernel
theorem dMd_giveNames_127 : decode cMd_giveNames 127 = .ok (.istore_n 3, 1) := by decide +kernel
theorem dMd_giveNames_128 : decode cMd_giveNames 128 = .ok (.iload_n 3, 1) := by decide +kernel
theorem dMd_giveNames_129 : decode cMd_giveNames 129 = .ok (.ifCond .lt 40, 3) := by decide +kernel
theorem dMd_giveNames_132 : decode cMd_giveNames 132 = .ok (.aload_n 0, 1) := by decide +kernel
theorem dMd_giveNames_133 : decode cMd_giveNames 133 = .ok (.aload_n 0, 1) := by decide +kernel
theorem dMd_giveNames_134 : decode cMd_giveNames 134 = .ok (.getfield 121, 3) := by decide +kernel
theorem dMd_giveNames_137 : decode cMd_giveNames 137 = .ok (.iload_n 3, 1) := by decide +kernel
theorem dMd_giveNames_138 : decode cMd_giveNames 138 = .ok (.invokevirtual 113, 3) := by decide +kernel
theorem dMd_giveNames_141 : decode cMd_giveNames 141 = .ok (.ifCond .eq 22, 3) := by decide +kernel
theorem dMd_giveNames_144 : decode cMd_giveNames 144 = .ok (.aload_n 0, 1) := by decide +kernel
theorem dMd_giveNames_145 : decode cMd_giveNames 145 = .ok (.iload_n 3, 1) := by decide +kernel
theorem dMd_giveNames_146 : decode cMd_giveNames 146 = .ok (.invokevirtual 136, 3) := by decide +kernel
theorem dMd_giveNames_149 : decode cMd_giveNames 149 = .ok (.iload_n 2, 1) := by decide +kernel
theorem dMd_giveNames_150 : decode cMd_giveNames 150 = .ok (.if_icmp .ne 13, 3) := by decide +kernel
theorem dMd_giveNames_153 : decode cMd_giveNames 153 = .ok (.aload_n 0, 1) := by decide +kernel
theorem dMd_giveNames_154 : decode cMd_giveNames 154 = .ok (.getfield 92, 3) := by decide +kernel
theorem dMd_giveNames_157 : decode cMd_giveNames 157 = .ok (.iload_n 1, 1) := by decide +kernel
theorem dMd_giveNames_158 : decode cMd_giveNames 158 = .ok (.iload_n 3, 1) := by decide +kernel
theorem dMd_giveNames_159 : decode cMd_giveNames 159 = .ok (.iastore, 1) := by decide +kernel
theorem dMd_giveNames_160 : decode cMd_giveNames 160 = .ok (.iinc 1 1, 3) := by decide +kernel
theorem dMd_giveNames_163 : decode cMd_giveNames 163 = .ok (.iinc 3 (-1), 3) := by decide +kernel
theorem dMd_giveNames_166 : decode cMd_giveNames 166 = .ok (.goto (-38), 3) := by decide +kernel
theorem dMd_giveNames_169 : decode cMd_giveNames 169 = .ok (.goto (-75), 3) := by decide +kernel
theorem dMd_giveNames_172 : decode cMd_giveNames 172 = .ok (.return_, 1) := by decide +kernel
theorem dMd_latest_0 : decode cMd_latest 0 = .ok (.iload_n 2, 1) := by decide +kernel
theorem dMd_latest_1 : decode cMd_latest 1 = .ok (.istore 4, 2) := by decide +kernel
theorem dMd_latest_3 : decode cMd_latest 3 = .ok (.iload_n 3, 1) := by decide +kernel
theorem dMd_latest_4 : decode cMd_latest 4 = .ok (.istore 5, 2) := by decide +kernel
theorem dMd_latest_6 : decode cMd_latest 6 = .ok (.iload 4, 2) := by decide +kernel
theorem dMd_latest_8 : decode cMd_latest 8 = .ok (.aload_n 0, 1) := by decide +kernel
theorem dMd_latest_9 : decode cMd_latest 9 = .ok (.getfield 95, 3) := by decide +kernel
theorem dMd_latest_12 : decode cMd_latest 12 = .ok (.if_icmp .ge 130, 3) := by decide +kernel
theorem dMd_latest_15 : decode cMd_latest 15 = .ok (.iload 5, 2) := by decide +kernel
theorem dMd_latest_17 : decode cMd_latest 17 = .ok (.iconst 1, 1) := by decide +kernel
theorem dMd_latest_18 : decode cMd_latest 18 = .ok (.isub, 1) := by decide +kernel
theorem dMd_latest_19 : decode cMd_latest 19 = .ok (.istore 6, 2) := by decide +kernel
theorem dMd_latest_21 : decode cMd_latest 21 = .ok (.iload 6, 2) := by decide +kernel
theorem dMd_latest_23 : decode cMd_latest 23 = .ok (.ifCond .lt 58, 3) := by decide +kernel
theorem dMd_latest_26 : decode cMd_latest 26 = .ok (.aload_n 0, 1) := by decide +kernel
theorem dMd_latest_27 : decode cMd_latest 27 = .ok (.getfield 13, 3) := by decide +kernel
theorem dMd_latest_30 : decode cMd_latest 30 = .ok (.bipush 6, 2) := by decide +kernel
theorem dMd_latest_32 : decode cMd_latest 32 = .ok (.iload 4, 2) := by decide +kernel
theorem dMd_latest_34 : decode cMd_latest 34 = .ok (.imul, 1) := by decide +kernel
theorem dMd_latest_35 : decode cMd_latest 35 = .ok (.iload 6, 2) := by decide +kernel
theorem dMd_latest_37 : decode cMd_latest 37 = .ok (.iadd, 1) := by decide +kernel
theorem dMd_latest_38 : decode cMd_latest 38 = .ok (.iaload, 1) := by decide +kernel
theorem dMd_latest_39 : decode cMd_latest 39 = .ok (.bipush 7, 2) := by decide +kernel
theorem dMd_latest_41 : decode cMd_latest 41 = .ok (.if_icmp .ge 34, 3) := by decide +kernel
theorem dMd_latest_44 : decode cMd_latest 44 = .ok (.aload_n 0, 1) := by decide +kernel
theorem dMd_latest_45 : decode cMd_latest 45 = .ok (.getfield 16, 3) := by decide +kernel
theorem dMd_latest_48 : decode cMd_latest 48 = .ok (.bipush 6, 2) := by decide +kernel
theorem dMd_latest_50 : decode cMd_latest 50 = .ok (.iload 4, 2) := by decide +kernel
theorem dMd_latest_52 : decode cMd_latest 52 = .ok (.imul, 1) := by decide +kernel
theorem dMd_latest_53 : decode cMd_latest 53 = .ok (.iload 6, 2) := by decide +kernel
theorem dMd_latest_55 : decode cMd_latest 55 = .ok (.iadd, 1) := by decide +kernel
theorem dMd_latest_56 : decode cMd_latest 56 = .ok (.iaload, 1) := by decide +kernel
theorem dMd_latest_57 : decode cMd_latest 57 = .ok (.iload_n 1, 1) := by decide +kernel
theorem dMd_latest_58 : decode cMd_latest 58 = .ok (.if_icmp .ne 17, 3) := by decide +kernel
theorem dMd_latest_61 : decode cMd_latest 61 = .ok (.aload_n 0, 1) := by decide +kernel
theorem dMd_latest_62 : decode cMd_latest 62 = .ok (.getfield 49, 3) := by decide +kernel
theorem dMd_latest_65 : decode cMd_latest 65 = .ok (.bipush 6, 2) := by decide +kernel
theorem dMd_latest_67 : decode cMd_latest 67 = .ok (.iload 4, 2) := by decide +kernel
theorem dMd_latest_69 : decode cMd_latest 69 = .ok (.imul, 1) := by decide +kernel
theorem dMd_latest_70 : decode cMd_latest 70 = .ok (.iload 6, 2) := by decide +kernel
theorem dMd_latest_72 : decode cMd_latest 72 = .ok (.iadd, 1) := by decide +kernel
theorem dMd_latest_73 : decode cMd_latest 73 = .ok (.iaload, 1) := by decide +kernel
theorem dMd_latest_74 : decode cMd_latest 74 = .ok (.ireturn, 1) := by decide +kernel
theorem dMd_latest_75 : decode cMd_latest 75 = .ok (.iinc 6 (-1), 3) := by decide +kernel
theorem dMd_latest_78 : decode cMd_latest 78 = .ok (.goto (-57), 3) := by decide +kernel
theorem dMd_latest_81 : decode cMd_latest 81 = .ok (.aload_n 0, 1) := by decide +kernel
theorem dMd_latest_82 : decode cMd_latest 82 = .ok (.getfield 43, 3) := by decide +kernel
theorem dMd_latest_85 : decode cMd_latest 85 = .ok (.bipush 6, 2) := by decide +kernel
theorem dMd_latest_87 : decode cMd_latest 87 = .ok (.iload 4, 2) := by decide +kernel
theorem dMd_latest_89 : decode cMd_latest 89 = .ok (.imul, 1) := by decide +kernel
theorem dMd_latest_90 : decode cMd_latest 90 = .ok (.iload_n 1, 1) := by decide +kernel
theorem dMd_latest_91 : decode cMd_latest 91 = .ok (.iadd, 1) := by decide +kernel
theorem dMd_latest_92 : decode cMd_latest 92 = .ok (.iaload, 1) := by decide +kernel
theorem dMd_latest_93 : decode cMd_latest 93 = .ok (.ifCond .lt 16, 3) := by decide +kernel
theorem dMd_latest_96 : decode cMd_latest 96 = .ok (.aload_n 0, 1) := by decide +kernel
theorem dMd_latest_97 : decode cMd_latest 97 = .ok (.getfield 43, 3) := by decide +kernel
theorem dMd_latest_100 : decode cMd_latest 100 = .ok (.bipush 6, 2) := by decide +kernel
theorem dMd_latest_102 : decode cMd_latest 102 = .ok (.iload 4, 2) := by decide +kernel
theorem dMd_latest_104 : decode cMd_latest 104 = .ok (.imul, 1) := by decide +kernel
theorem dMd_latest_105 : decode cMd_latest 105 = .ok (.iload_n 1, 1) := by decide +kernel
theorem dMd_latest_106 : decode cMd_latest 106 = .ok (.iadd, 1) := by decide +kernel
theorem dMd_latest_107 : decode cMd_latest 107 = .ok (.iaload, 1) := by decide +kernel
theorem dMd_latest_108 : decode cMd_latest 108 = .ok (.ireturn, 1) := by decide +kernel
theorem dMd_latest_109 : decode cMd_latest 109 = .ok (.aload_n 0, 1) := by decide +kernel
theorem dMd_latest_110 : decode cMd_latest 110 = .ok (.iload 4, 2) := by decide +kernel
theorem dMd_latest_112 : decode cMd_latest 112 = .ok (.invokevirtual 136, 3) := by decide +kernel
theorem dMd_latest_115 : decode cMd_latest 115 = .ok (.istore 4, 2) := by decide +kernel
theorem dMd_latest_117 : decode cMd_latest 117 = .ok (.iload 4, 2) := by decide +kernel
theorem dMd_latest_119 : decode cMd_latest 119 = .ok (.aload_n 0, 1) := by decide +kernel
theorem dMd_latest_120 : decode cMd_latest 120 = .ok (.getfield 95, 3) := by decide +kernel
theorem dMd_latest_123 : decode cMd_latest 123 = .ok (.if_icmp .ge 13, 3) := by decide +kernel
theorem dMd_latest_126 : decode cMd_latest 126 = .ok (.aload_n 0, 1) := by decide +kernel
theorem dMd_latest_127 : decode cMd_latest 127 = .ok (.getfield 7, 3) := by decide +kernel
theorem dMd_latest_130 : decode cMd_latest 130 = .ok (.iload 4, 2) := by decide +kernel
theorem dMd_latest_132 : decode cMd_latest 132 = .ok (.iaload, 1) := by decide +kernel
theorem dMd_latest_133 : decode cMd_latest 133 = .ok (.goto 4, 3) := by decide +kernel
theorem dMd_latest_136 : decode cMd_latest 136 = .ok (.iconst 0, 1) := by decide +kernel
theorem dMd_latest_137 : decode cMd_latest 137 = .ok (.istore 5, 2) := by decide +kernel
theorem dMd_latest_139 : decode cMd_latest 139 = .ok (.goto (-133), 3) := by decide +kernel
theorem dMd_latest_142 : decode cMd_latest 142 = .ok (.bipush 100, 2) := by decide +kernel
theorem dMd_latest_144 : decode cMd_latest 144 = .ok (.iload_n 1, 1) := by decide +kernel
theorem dMd_latest_145 : decode cMd_latest 145 = .ok (.imul, 1) := by decide +kernel
theorem dMd_latest_146 : decode cMd_latest 146 = .ok (.ireturn, 1) := by decide +kernel
theorem dMd_giveUses_0 : decode cMd_giveUses 0 = .ok (.iconst 0, 1) := by decide +kernel
theorem dMd_giveUses_1 : decode cMd_giveUses 1 = .ok (.istore_n 2, 1) := by decide +kernel
theorem dMd_giveUses_2 : decode cMd_giveUses 2 = .ok (.iload_n 2, 1) := by decide +kernel
theorem dMd_giveUses_3 : decode cMd_giveUses 3 = .ok (.aload_n 0, 1) := by decide +kernel
theorem dMd_giveUses_4 : decode cMd_giveUses 4 = .ok (.getfield 7, 3) := by decide +kernel
theorem dMd_giveUses_7 : decode cMd_giveUses 7 = .ok (.iload_n 1, 1) := by decide +kernel
theorem dMd_giveUses_8 : decode cMd_giveUses 8 = .ok (.iaload, 1) := by decide +kernel
theorem dMd_giveUses_9 : decode cMd_giveUses 9 = .ok (.if_icmp .ge 90, 3) := by decide +kernel
theorem dMd_giveUses_12 : decode cMd_giveUses 12 = .ok (.bipush 6, 2) := by decide +kernel
theorem dMd_giveUses_14 : decode cMd_giveUses 14 = .ok (.iload_n 1, 1) := by decide +kernel
theorem dMd_giveUses_15 : decode cMd_giveUses 15 = .ok (.imul, 1) := by decide +kernel
theorem dMd_giveUses_16 : decode cMd_giveUses 16 = .ok (.iload_n 2, 1) := by decide +kernel
theorem dMd_giveUses_17 : decode cMd_giveUses 17 = .ok (.iadd, 1) := by decide +kernel
theorem dMd_giveUses_18 : decode cMd_giveUses 18 = .ok (.istore_n 3, 1) := by decide +kernel
theorem dMd_giveUses_19 : decode cMd_giveUses 19 = .ok (.aload_n 0, 1) := by decide +kernel
theorem dMd_giveUses_20 : decode cMd_giveUses 20 = .ok (.getfield 52, 3) := by decide +kernel
theorem dMd_giveUses_23 : decode cMd_giveUses 23 = .ok (.iload_n 3, 1) := by decide +kernel
theorem dMd_giveUses_24 : decode cMd_giveUses 24 = .ok (.aload_n 0, 1) := by decide +kernel
theorem dMd_giveUses_25 : decode cMd_giveUses 25 = .ok (.getfield 13, 3) := by decide +kernel
theorem dMd_giveUses_28 : decode cMd_giveUses 28 = .ok (.iload_n 3, 1) := by decide +kernel
theorem dMd_giveUses_29 : decode cMd_giveUses 29 = .ok (.iaload, 1) := by decide +kernel
theorem dMd_giveUses_30 : decode cMd_giveUses 30 = .ok (.ifCond .le 18, 3) := by decide +kernel
theorem dMd_giveUses_33 : decode cMd_giveUses 33 = .ok (.aload_n 0, 1) := by decide +kernel
theorem dMd_giveUses_34 : decode cMd_giveUses 34 = .ok (.aload_n 0, 1) := by decide +kernel
theorem dMd_giveUses_35 : decode cMd_giveUses 35 = .ok (.getfield 19, 3) := by decide +kernel
theorem dMd_giveUses_38 : decode cMd_giveUses 38 = .ok (.iload_n 3, 1) := by decide +kernel
theorem dMd_giveUses_39 : decode cMd_giveUses 39 = .ok (.iaload, 1) := by decide +kernel
theorem dMd_giveUses_40 : decode cMd_giveUses 40 = .ok (.iload_n 1, 1) := by decide +kernel
theorem dMd_giveUses_41 : decode cMd_giveUses 41 = .ok (.iload_n 2, 1) := by decide +kernel
theorem dMd_giveUses_42 : decode cMd_giveUses 42 = .ok (.invokevirtual 153, 3) := by decide +kernel
theorem dMd_giveUses_45 : decode cMd_giveUses 45 = .ok (.goto 4, 3) := by decide +kernel
theorem dMd_giveUses_48 : decode cMd_giveUses 48 = .ok (.iconst (-1), 1) := by decide +kernel
theorem dMd_giveUses_49 : decode cMd_giveUses 49 = .ok (.iastore, 1) := by decide +kernel
theorem dMd_giveUses_50 : decode cMd_giveUses 50 = .ok (.aload_n 0, 1) := by decide +kernel
theorem dMd_giveUses_51 : decode cMd_giveUses 51 = .ok (.getfield 55, 3) := by decide +kernel
theorem dMd_giveUses_54 : decode cMd_giveUses 54 = .ok (.iload_n 3, 1) := by decide +kernel
theorem dMd_giveUses_55 : decode cMd_giveUses 55 = .ok (.aload_n 0, 1) := by decide +kernel
theorem dMd_giveUses_56 : decode cMd_giveUses 56 = .ok (.getfield 13, 3) := by decide +kernel
theorem dMd_giveUses_59 : decode cMd_giveUses 59 = .ok (.iload_n 3, 1) := by decide +kernel
theorem dMd_giveUses_60 : decode cMd_giveUses 60 = .ok (.iaload, 1) := by decide +kernel
theorem dMd_giveUses_61 : decode cMd_giveUses 61 = .ok (.iconst 1, 1) := by decide +kernel
theorem dMd_giveUses_62 : decode cMd_giveUses 62 = .ok (.if_icmp .le 29, 3) := by decide +kernel
theorem dMd_giveUses_65 : decode cMd_giveUses 65 = .ok (.aload_n 0, 1) := by decide +kernel
theorem dMd_giveUses_66 : decode cMd_giveUses 66 = .ok (.getfield 13, 3) := by decide +kernel
theorem dMd_giveUses_69 : decode cMd_giveUses 69 = .ok (.iload_n 3, 1) := by decide +kernel
theorem dMd_giveUses_70 : decode cMd_giveUses 70 = .ok (.iaload, 1) := by decide +kernel
theorem dMd_giveUses_71 : decode cMd_giveUses 71 = .ok (.bipush 7, 2) := by decide +kernel
theorem dMd_giveUses_73 : decode cMd_giveUses 73 = .ok (.if_icmp .ge 18, 3) := by decide +kernel
theorem dMd_giveUses_76 : decode cMd_giveUses 76 = .ok (.aload_n 0, 1) := by decide +kernel
theorem dMd_giveUses_77 : decode cMd_giveUses 77 = .ok (.aload_n 0, 1) := by decide +kernel
theorem dMd_giveUses_78 : decode cMd_giveUses 78 = .ok (.getfield 22, 3) := by decide +kernel
theorem dMd_giveUses_81 : decode cMd_giveUses 81 = .ok (.iload_n 3, 1) := by decide +kernel
theorem dMd_giveUses_82 : decode cMd_giveUses 82 = .ok (.iaload, 1) := by decide +kernel
theorem dMd_giveUses_83 : decode cMd_giveUses 83 = .ok (.iload_n 1, 1) := by decide +kernel
theorem dMd_giveUses_84 : decode cMd_giveUses 84 = .ok (.iload_n 2, 1) := by decide +kernel
theorem dMd_giveUses_85 : decode cMd_giveUses 85 = .ok (.invokevirtual 153, 3) := by decide +kernel
theorem dMd_giveUses_88 : decode cMd_giveUses 88 = .ok (.goto 4, 3) := by decide +kernel
theorem dMd_giveUses_91 : decode cMd_giveUses 91 = .ok (.iconst (-1), 1) := by decide +kernel
theorem dMd_giveUses_92 : decode cMd_giveUses 92 = .ok (.iastore, 1) := by decide +kernel
theorem dMd_giveUses_93 : decode cMd_giveUses 93 = .ok (.iinc 2 1, 3) := by decide +kernel
theorem dMd_giveUses_96 : decode cMd_giveUses 96 = .ok (.goto (-94), 3) := by decide +kernel
theorem dMd_giveUses_99 : decode cMd_giveUses 99 = .ok (.aload_n 0, 1) := by decide +kernel
theorem dMd_giveUses_100 : decode cMd_giveUses 100 = .ok (.getfield 58, 3) := by decide +kernel
theorem dMd_giveUses_103 : decode cMd_giveUses 103 = .ok (.iload_n 1, 1) := by decide +kernel
theorem dMd_giveUses_104 : decode cMd_giveUses 104 = .ok (.aload_n 0, 1) := by decide +kernel
theorem dMd_giveUses_105 : decode cMd_giveUses 105 = .ok (.getfield 25, 3) := by decide +kernel
theorem dMd_giveUses_108 : decode cMd_giveUses 108 = .ok (.iload_n 1, 1) := by decide +kernel
theorem dMd_giveUses_109 : decode cMd_giveUses 109 = .ok (.iaload, 1) := by decide +kernel
theorem dMd_giveUses_110 : decode cMd_giveUses 110 = .ok (.iconst 2, 1) := by decide +kernel
theorem dMd_giveUses_111 : decode cMd_giveUses 111 = .ok (.if_icmp .ne 23, 3) := by decide +kernel
theorem dMd_giveUses_114 : decode cMd_giveUses 114 = .ok (.aload_n 0, 1) := by decide +kernel
theorem dMd_giveUses_115 : decode cMd_giveUses 115 = .ok (.aload_n 0, 1) := by decide +kernel
theorem dMd_giveUses_116 : decode cMd_giveUses 116 = .ok (.getfield 28, 3) := by decide +kernel
theorem dMd_giveUses_119 : decode cMd_giveUses 119 = .ok (.iload_n 1, 1) := by decide +kernel
theorem dMd_giveUses_120 : decode cMd_giveUses 120 = .ok (.iaload, 1) := by decide +kernel
theorem dMd_giveUses_121 : decode cMd_giveUses 121 = .ok (.iload_n 1, 1) := by decide +kernel
theorem dMd_giveUses_122 : decode cMd_giveUses 122 = .ok (.aload_n 0, 1) := by decide +kernel
theorem dMd_giveUses_123 : decode cMd_giveUses 123 = .ok (.getfield 7, 3) := by decide +kernel
theorem dMd_giveUses_126 : decode cMd_giveUses 126 = .ok (.iload_n 1, 1) := by decide +kernel
theorem dMd_giveUses_127 : decode cMd_giveUses 127 = .ok (.iaload, 1) := by decide +kernel
theorem dMd_giveUses_128 : decode cMd_giveUses 128 = .ok (.invokevirtual 153, 3) := by decide +kernel
theorem dMd_giveUses_131 : decode cMd_giveUses 131 = .ok (.goto 4, 3) := by decide +kernel
theorem dMd_giveUses_134 : decode cMd_giveUses 134 = .ok (.iconst (-1), 1) := by decide +kernel
theorem dMd_giveUses_135 : decode cMd_giveUses 135 = .ok (.iastore, 1) := by decide +kernel
theorem dMd_giveUses_136 : decode cMd_giveUses 136 = .ok (.iconst 0, 1) := by decide +kernel
theorem dMd_giveUses_137 : decode cMd_giveUses 137 = .ok (.istore_n 2, 1) := by decide +kernel
theorem dMd_giveUses_138 : decode cMd_giveUses 138 = .ok (.iload_n 2, 1) := by decide +kernel
theorem dMd_giveUses_139 : decode cMd_giveUses 139 = .ok (.bipush 6, 2) := by decide +kernel
theorem dMd_giveUses_141 : decode cMd_giveUses 141 = .ok (.if_icmp .ge 127, 3) := by decide +kernel
theorem dMd_giveUses_144 : decode cMd_giveUses 144 = .ok (.iconst 0, 1) := by decide +kernel
theorem dMd_giveUses_145 : decode cMd_giveUses 145 = .ok (.istore_n 3, 1) := by decide +kernel
theorem dMd_giveUses_146 : decode cMd_giveUses 146 = .ok (.iload_n 3, 1) := by decide +kernel
theorem dMd_giveUses_147 : decode cMd_giveUses 147 = .ok (.aload_n 0, 1) := by decide +kernel
theorem dMd_giveUses_148 : decode cMd_giveUses 148 = .ok (.getfield 95, 3) := by decide +kernel
theorem dMd_giveUses_151 : decode cMd_giveUses 151 = .ok (.if_icmp .gt 111, 3) := by decide +kernel
theorem dMd_giveUses_154 : decode cMd_giveUses 154 = .ok (.aload_n 0, 1) := by decide +kernel
theorem dMd_giveUses_155 : decode cMd_giveUses 155 = .ok (.getfield 43, 3) := by decide +kernel
theorem dMd_giveUses_158 : decode cMd_giveUses 158 = .ok (.bipush 6, 2) := by decide +kernel
theorem dMd_giveUses_160 : decode cMd_giveUses 160 = .ok (.iload_n 1, 1) := by decide +kernel
theorem dMd_giveUses_161 : decode cMd_giveUses 161 = .ok (.imul, 1) := by decide +kernel
theorem dMd_giveUses_162 : decode cMd_giveUses 162 = .ok (.iload_n 2, 1) := by decide +kernel
theorem dMd_giveUses_163 : decode cMd_giveUses 163 = .ok (.iadd, 1) := by decide +kernel
theorem dMd_giveUses_164 : decode cMd_giveUses 164 = .ok (.iaload, 1) := by decide +kernel
theorem dMd_giveUses_165 : decode cMd_giveUses 165 = .ok (.ifCond .lt 97, 3) := by decide +kernel
theorem dMd_giveUses_168 : decode cMd_giveUses 168 = .ok (.aload_n 0, 1) := by decide +kernel
theorem dMd_giveUses_169 : decode cMd_giveUses 169 = .ok (.iload_n 3, 1) := by decide +kernel
theorem dMd_giveUses_170 : decode cMd_giveUses 170 = .ok (.iload_n 1, 1) := by decide +kernel
theorem dMd_giveUses_171 : decode cMd_giveUses 171 = .ok (.invokevirtual 130, 3) := by decide +kernel
theorem dMd_giveUses_174 : decode cMd_giveUses 174 = .ok (.ifCond .eq 27, 3) := by decide +kernel
theorem dMd_giveUses_177 : decode cMd_giveUses 177 = .ok (.iload_n 3, 1) := by decide +kernel
theorem dMd_giveUses_178 : decode cMd_giveUses 178 = .ok (.aload_n 0, 1) := by decide +kernel
theorem dMd_giveUses_179 : decode cMd_giveUses 179 = .ok (.getfield 95, 3) := by decide +kernel
theorem dMd_giveUses_182 : decode cMd_giveUses 182 = .ok (.if_icmp .eq 15, 3) := by decide +kernel
theorem dMd_giveUses_185 : decode cMd_giveUses 185 = .ok (.aload_n 0, 1) := by decide +kernel
theorem dMd_giveUses_186 : decode cMd_giveUses 186 = .ok (.aload_n 0, 1) := by decide +kernel
theorem dMd_giveUses_187 : decode cMd_giveUses 187 = .ok (.getfield 121, 3) := by decide +kernel
theorem dMd_giveUses_190 : decode cMd_giveUses 190 = .ok (.iload_n 3, 1) := by decide +kernel
theorem dMd_giveUses_191 : decode cMd_giveUses 191 = .ok (.invokevirtual 113, 3) := by decide +kernel
theorem dMd_giveUses_194 : decode cMd_giveUses 194 = .ok (.ifCond .eq 7, 3) := by decide +kernel
theorem dMd_giveUses_197 : decode cMd_giveUses 197 = .ok (.iconst 1, 1) := by decide +kernel
theorem dMd_giveUses_198 : decode cMd_giveUses 198 = .ok (.goto 4, 3) := by decide +kernel
theorem dMd_giveUses_201 : decode cMd_giveUses 201 = .ok (.iconst 0, 1) := by decide +kernel
theorem dMd_giveUses_202 : decode cMd_giveUses 202 = .ok (.istore 4, 2) := by decide +kernel
theorem dMd_giveUses_204 : decode cMd_giveUses 204 = .ok (.aload_n 0, 1) := by decide +kernel
theorem dMd_giveUses_205 : decode cMd_giveUses 205 = .ok (.getfield 46, 3) := by decide +kernel
theorem dMd_giveUses_208 : decode cMd_giveUses 208 = .ok (.bipush 13, 2) := by decide +kernel
theorem dMd_giveUses_210 : decode cMd_giveUses 210 = .ok (.bipush 6, 2) := by decide +kernel
theorem dMd_giveUses_212 : decode cMd_giveUses 212 = .ok (.iload_n 1, 1) := by decide +kernel
theorem dMd_giveUses_213 : decode cMd_giveUses 213 = .ok (.imul, 1) := by decide +kernel
theorem dMd_giveUses_214 : decode cMd_giveUses 214 = .ok (.iload_n 2, 1) := by decide +kernel
theorem dMd_giveUses_215 : decode cMd_giveUses 215 = .ok (.iadd, 1) := by decide +kernel
theorem dMd_giveUses_216 : decode cMd_giveUses 216 = .ok (.imul, 1) := by decide +kernel
theorem dMd_giveUses_217 : decode cMd_giveUses 217 = .ok (.iload_n 3, 1) := by decide +kernel
theorem dMd_giveUses_218 : decode cMd_giveUses 218 = .ok (.iadd, 1) := by decide +kernel
theorem dMd_giveUses_219 : decode cMd_giveUses 219 = .ok (.iload 4, 2) := by decide +kernel
theorem dMd_giveUses_221 : decode cMd_giveUses 221 = .ok (.ifCond .ne 7, 3) := by decide +kernel
theorem dMd_giveUses_224 : decode cMd_giveUses 224 = .ok (.iconst (-1), 1) := by decide +kernel
theorem dMd_giveUses_225 : decode cMd_giveUses 225 = .ok (.goto 30, 3) := by decide +kernel
theorem dMd_giveUses_228 : decode cMd_giveUses 228 = .ok (.iload_n 3, 1) := by decide +kernel
theorem dMd_giveUses_229 : decode cMd_giveUses 229 = .ok (.aload_n 0, 1) := by decide +kernel
theorem dMd_giveUses_230 : decode cMd_giveUses 230 = .ok (.getfield 95, 3) := by decide +kernel
theorem dMd_giveUses_233 : decode cMd_giveUses 233 = .ok (.if_icmp .ne 10, 3) := by decide +kernel
theorem dMd_giveUses_236 : decode cMd_giveUses 236 = .ok (.bipush 100, 2) := by decide +kernel
theorem dMd_giveUses_238 : decode cMd_giveUses 238 = .ok (.iload_n 2, 1) := by decide +kernel
theorem dMd_giveUses_239 : decode cMd_giveUses 239 = .ok (.imul, 1) := by decide +kernel
theorem dMd_giveUses_240 : decode cMd_giveUses 240 = .ok (.goto 15, 3) := by decide +kernel
theorem dMd_giveUses_243 : decode cMd_giveUses 243 = .ok (.aload_n 0, 1) := by decide +kernel
theorem dMd_giveUses_244 : decode cMd_giveUses 244 = .ok (.iload_n 2, 1) := by decide +kernel
theorem dMd_giveUses_245 : decode cMd_giveUses 245 = .ok (.iload_n 3, 1) := by decide +kernel
theorem dMd_giveUses_246 : decode cMd_giveUses 246 = .ok (.aload_n 0, 1) := by decide +kernel
theorem dMd_giveUses_247 : decode cMd_giveUses 247 = .ok (.getfield 7, 3) := by decide +kernel
theorem dMd_giveUses_250 : decode cMd_giveUses 250 = .ok (.iload_n 3, 1) := by decide +kernel
theorem dMd_giveUses_251 : decode cMd_giveUses 251 = .ok (.iaload, 1) := by decide +kernel
theorem dMd_giveUses_252 : decode cMd_giveUses 252 = .ok (.invokevirtual 153, 3) := by decide +kernel
theorem dMd_giveUses_255 : decode cMd_giveUses 255 = .ok (.iastore, 1) := by decide +kernel
theorem dMd_giveUses_256 : decode cMd_giveUses 256 = .ok (.iinc 3 1, 3) := by decide +kernel
theorem dMd_giveUses_259 : decode cMd_giveUses 259 = .ok (.goto (-113), 3) := by decide +kernel
theorem dMd_giveUses_262 : decode cMd_giveUses 262 = .ok (.iinc 2 1, 3) := by decide +kernel
theorem dMd_giveUses_265 : decode cMd_giveUses 265 = .ok (.goto (-127), 3) := by decide +kernel
theorem dMd_giveUses_268 : decode cMd_giveUses 268 = .ok (.return_, 1) := by decide +kernel
theorem dMd_build_0 : decode cMd_build 0 = .ok (.aload_n 0, 1) := by decide +kernel
theorem dMd_build_1 : decode cMd_build 1 = .ok (.iconst 0, 1) := by decide +kernel
theorem dMd_build_2 : decode cMd_build 2 = .ok (.putfield 99, 3) := by decide +kernel
theorem dMd_build_5 : decode cMd_build 5 = .ok (.aload_n 0, 1) := by decide +kernel
theorem dMd_build_6 : decode cMd_build 6 = .ok (.invokevirtual 133, 3) := by decide +kernel
theorem dMd_build_9 : decode cMd_build 9 = .ok (.aload_n 0, 1) := by decide +kernel
theorem dMd_build_10 : decode cMd_build 10 = .ok (.invokevirtual 156, 3) := by decide +kernel
theorem dMd_build_13 : decode cMd_build 13 = .ok (.aload_n 0, 1) := by decide +kernel
theorem dMd_build_14 : decode cMd_build 14 = .ok (.invokevirtual 159, 3) := by decide +kernel
theorem dMd_build_17 : decode cMd_build 17 = .ok (.iconst 0, 1) := by decide +kernel
theorem dMd_build_18 : decode cMd_build 18 = .ok (.istore_n 1, 1) := by decide +kernel
theorem dMd_build_19 : decode cMd_build 19 = .ok (.iload_n 1, 1) := by decide +kernel
theorem dMd_build_20 : decode cMd_build 20 = .ok (.aload_n 0, 1) := by decide +kernel
theorem dMd_build_21 : decode cMd_build 21 = .ok (.getfield 95, 3) := by decide +kernel
theorem dMd_build_24 : decode cMd_build 24 = .ok (.if_icmp .ge 71, 3) := by decide +kernel
theorem dMd_build_27 : decode cMd_build 27 = .ok (.aload_n 0, 1) := by decide +kernel
theorem dMd_build_28 : decode cMd_build 28 = .ok (.getfield 58, 3) := by decide +kernel
theorem dMd_build_31 : decode cMd_build 31 = .ok (.iload_n 1, 1) := by decide +kernel
theorem dMd_build_32 : decode cMd_build 32 = .ok (.iconst (-1), 1) := by decide +kernel
theorem dMd_build_33 : decode cMd_build 33 = .ok (.iastore, 1) := by decide +kernel
theorem dMd_build_34 : decode cMd_build 34 = .ok (.iconst 0, 1) := by decide +kernel
theorem dMd_build_35 : decode cMd_build 35 = .ok (.istore_n 2, 1) := by decide +kernel
theorem dMd_build_36 : decode cMd_build 36 = .ok (.iload_n 2, 1) := by decide +kernel
theorem dMd_build_37 : decode cMd_build 37 = .ok (.bipush 6, 2) := by decide +kernel
theorem dMd_build_39 : decode cMd_build 39 = .ok (.if_icmp .ge 33, 3) := by decide +kernel
theorem dMd_build_42 : decode cMd_build 42 = .ok (.aload_n 0, 1) := by decide +kernel
theorem dMd_build_43 : decode cMd_build 43 = .ok (.getfield 52, 3) := by decide +kernel
theorem dMd_build_46 : decode cMd_build 46 = .ok (.bipush 6, 2) := by decide +kernel
theorem dMd_build_48 : decode cMd_build 48 = .ok (.iload_n 1, 1) := by decide +kernel
theorem dMd_build_49 : decode cMd_build 49 = .ok (.imul, 1) := by decide +kernel
theorem dMd_build_50 : decode cMd_build 50 = .ok (.iload_n 2, 1) := by decide +kernel
theorem dMd_build_51 : decode cMd_build 51 = .ok (.iadd, 1) := by decide +kernel
theorem dMd_build_52 : decode cMd_build 52 = .ok (.iconst (-1), 1) := by decide +kernel
theorem dMd_build_53 : decode cMd_build 53 = .ok (.iastore, 1) := by decide +kernel
theorem dMd_build_54 : decode cMd_build 54 = .ok (.aload_n 0, 1) := by decide +kernel
theorem dMd_build_55 : decode cMd_build 55 = .ok (.getfield 55, 3) := by decide +kernel
theorem dMd_build_58 : decode cMd_build 58 = .ok (.bipush 6, 2) := by decide +kernel
theorem dMd_build_60 : decode cMd_build 60 = .ok (.iload_n 1, 1) := by decide +kernel
theorem dMd_build_61 : decode cMd_build 61 = .ok (.imul, 1) := by decide +kernel
theorem dMd_build_62 : decode cMd_build 62 = .ok (.iload_n 2, 1) := by decide +kernel
theorem dMd_build_63 : decode cMd_build 63 = .ok (.iadd, 1) := by decide +kernel
theorem dMd_build_64 : decode cMd_build 64 = .ok (.iconst (-1), 1) := by decide +kernel
theorem dMd_build_65 : decode cMd_build 65 = .ok (.iastore, 1) := by decide +kernel
theorem dMd_build_66 : decode cMd_build 66 = .ok (.iinc 2 1, 3) := by decide +kernel
theorem dMd_build_69 : decode cMd_build 69 = .ok (.goto (-33), 3) := by decide +kernel
theorem dMd_build_72 : decode cMd_build 72 = .ok (.aload_n 0, 1) := by decide +kernel
theorem dMd_build_73 : decode cMd_build 73 = .ok (.aload_n 0, 1) := by decide +kernel
theorem dMd_build_74 : decode cMd_build 74 = .ok (.getfield 121, 3) := by decide +kernel
theorem dMd_build_77 : decode cMd_build 77 = .ok (.iload_n 1, 1) := by decide +kernel
theorem dMd_build_78 : decode cMd_build 78 = .ok (.invokevirtual 113, 3) := by decide +kernel
theorem dMd_build_81 : decode cMd_build 81 = .ok (.ifCond .eq 8, 3) := by decide +kernel
theorem dMd_build_84 : decode cMd_build 84 = .ok (.aload_n 0, 1) := by decide +kernel
theorem dMd_build_85 : decode cMd_build 85 = .ok (.iload_n 1, 1) := by decide +kernel
theorem dMd_build_86 : decode cMd_build 86 = .ok (.invokevirtual 162, 3) := by decide +kernel
theorem dMd_build_89 : decode cMd_build 89 = .ok (.iinc 1 1, 3) := by decide +kernel
theorem dMd_build_92 : decode cMd_build 92 = .ok (.goto (-73), 3) := by decide +kernel
theorem dMd_build_95 : decode cMd_build 95 = .ok (.aload_n 0, 1) := by decide +kernel
theorem dMd_build_96 : decode cMd_build 96 = .ok (.iconst 1, 1) := by decide +kernel
theorem dMd_build_97 : decode cMd_build 97 = .ok (.putfield 109, 3) := by decide +kernel
theorem dMd_build_100 : decode cMd_build 100 = .ok (.iconst 0, 1) := by decide +kernel
theorem dMd_build_101 : decode cMd_build 101 = .ok (.istore_n 1, 1) := by decide +kernel
theorem dMd_build_102 : decode cMd_build 102 = .ok (.iconst 0, 1) := by decide +kernel
theorem dMd_build_103 : decode cMd_build 103 = .ok (.istore_n 2, 1) := by decide +kernel
theorem dMd_build_104 : decode cMd_build 104 = .ok (.iload_n 2, 1) := by decide +kernel
theorem dMd_build_105 : decode cMd_build 105 = .ok (.sipush 600, 3) := by decide +kernel
theorem dMd_build_108 : decode cMd_build 108 = .ok (.if_icmp .ge 26, 3) := by decide +kernel
theorem dMd_build_111 : decode cMd_build 111 = .ok (.iload_n 1, 1) := by decide +kernel
theorem dMd_build_112 : decode cMd_build 112 = .ok (.aload_n 0, 1) := by decide +kernel
theorem dMd_build_113 : decode cMd_build 113 = .ok (.getfield 65, 3) := by decide +kernel
theorem dMd_build_116 : decode cMd_build 116 = .ok (.iload_n 2, 1) := by decide +kernel
theorem dMd_build_117 : decode cMd_build 117 = .ok (.baload, 1) := by decide +kernel
theorem dMd_build_118 : decode cMd_build 118 = .ok (.ifCond .eq 7, 3) := by decide +kernel
theorem dMd_build_121 : decode cMd_build 121 = .ok (.iconst 1, 1) := by decide +kernel
theorem dMd_build_122 : decode cMd_build 122 = .ok (.goto 4, 3) := by decide +kernel
theorem dMd_build_125 : decode cMd_build 125 = .ok (.iconst 0, 1) := by decide +kernel
theorem dMd_build_126 : decode cMd_build 126 = .ok (.iadd, 1) := by decide +kernel
theorem dMd_build_127 : decode cMd_build 127 = .ok (.istore_n 1, 1) := by decide +kernel
theorem dMd_build_128 : decode cMd_build 128 = .ok (.iinc 2 1, 3) := by decide +kernel
theorem dMd_build_131 : decode cMd_build 131 = .ok (.goto (-27), 3) := by decide +kernel
theorem dMd_build_134 : decode cMd_build 134 = .ok (.iload_n 1, 1) := by decide +kernel
theorem dMd_build_135 : decode cMd_build 135 = .ok (.ireturn, 1) := by decide +kernel
theorem dMd_before_0 : decode cMd_before 0 = .ok (.aload_n 0, 1) := by decide +kernel
theorem dMd_before_1 : decode cMd_before 1 = .ok (.getfield 68, 3) := by decide +kernel
theorem dMd_before_4 : decode cMd_before 4 = .ok (.iload_n 1, 1) := by decide +kernel
theorem dMd_before_5 : decode cMd_before 5 = .ok (.iaload, 1) := by decide +kernel
theorem dMd_before_6 : decode cMd_before 6 = .ok (.istore 4, 2) := by decide +kernel
theorem dMd_before_8 : decode cMd_before 8 = .ok (.iload 4, 2) := by decide +kernel
theorem dMd_before_10 : decode cMd_before 10 = .ok (.aload_n 0, 1) := by decide +kernel
theorem dMd_before_11 : decode cMd_before 11 = .ok (.getfield 95, 3) := by decide +kernel
theorem dMd_before_14 : decode cMd_before 14 = .ok (.if_icmp .ne 5, 3) := by decide +kernel
theorem dMd_before_17 : decode cMd_before 17 = .ok (.iconst 1, 1) := by decide +kernel
theorem dMd_before_18 : decode cMd_before 18 = .ok (.ireturn, 1) := by decide +kernel
theorem dMd_before_19 : decode cMd_before 19 = .ok (.iload_n 2, 1) := by decide +kernel
theorem dMd_before_20 : decode cMd_before 20 = .ok (.aload_n 0, 1) := by decide +kernel
theorem dMd_before_21 : decode cMd_before 21 = .ok (.getfield 95, 3) := by decide +kernel
theorem dMd_before_24 : decode cMd_before 24 = .ok (.if_icmp .ge 33, 3) := by decide +kernel
theorem dMd_before_27 : decode cMd_before 27 = .ok (.aload_n 0, 1) := by decide +kernel
theorem dMd_before_28 : decode cMd_before 28 = .ok (.iload 4, 2) := by decide +kernel
theorem dMd_before_30 : decode cMd_before 30 = .ok (.iload_n 2, 1) := by decide +kernel
theorem dMd_before_31 : decode cMd_before 31 = .ok (.invokevirtual 127, 3) := by decide +kernel
theorem dMd_before_34 : decode cMd_before 34 = .ok (.ifCond .ne 19, 3) := by decide +kernel
theorem dMd_before_37 : decode cMd_before 37 = .ok (.iload 4, 2) := by decide +kernel
theorem dMd_before_39 : decode cMd_before 39 = .ok (.iload_n 2, 1) := by decide +kernel
theorem dMd_before_40 : decode cMd_before 40 = .ok (.if_icmp .ne 17, 3) := by decide +kernel
theorem dMd_before_43 : decode cMd_before 43 = .ok (.aload_n 0, 1) := by decide +kernel
theorem dMd_before_44 : decode cMd_before 44 = .ok (.getfield 71, 3) := by decide +kernel
theorem dMd_before_47 : decode cMd_before 47 = .ok (.iload_n 1, 1) := by decide +kernel
theorem dMd_before_48 : decode cMd_before 48 = .ok (.iaload, 1) := by decide +kernel
theorem dMd_before_49 : decode cMd_before 49 = .ok (.iload_n 3, 1) := by decide +kernel
theorem dMd_before_50 : decode cMd_before 50 = .ok (.if_icmp .ge 7, 3) := by decide +kernel
theorem dMd_before_53 : decode cMd_before 53 = .ok (.iconst 1, 1) := by decide +kernel
theorem dMd_before_54 : decode cMd_before 54 = .ok (.goto 4, 3) := by decide +kernel
theorem dMd_before_57 : decode cMd_before 57 = .ok (.iconst 0, 1) := by decide +kernel
theorem dMd_before_58 : decode cMd_before 58 = .ok (.ireturn, 1) := by decide +kernel
theorem dMd_isValid_0 : decode cMd_isValid 0 = .ok (.aload_n 0, 1) := by decide +kernel
theorem dMd_isValid_1 : decode cMd_isValid 1 = .ok (.invokevirtual 133, 3) := by decide +kernel
theorem dMd_isValid_4 : decode cMd_isValid 4 = .ok (.iconst 1, 1) := by decide +kernel
theorem dMd_isValid_5 : decode cMd_isValid 5 = .ok (.istore_n 1, 1) := by decide +kernel
theorem dMd_isValid_6 : decode cMd_isValid 6 = .ok (.iconst 0, 1) := by decide +kernel
theorem dMd_isValid_7 : decode cMd_isValid 7 = .ok (.istore_n 2, 1) := by decide +kernel
theorem dMd_isValid_8 : decode cMd_isValid 8 = .ok (.iload_n 2, 1) := by decide +kernel
theorem dMd_isValid_9 : decode cMd_isValid 9 = .ok (.aload_n 0, 1) := by decide +kernel
theorem dMd_isValid_10 : decode cMd_isValid 10 = .ok (.getfield 95, 3) := by decide +kernel
theorem dMd_isValid_13 : decode cMd_isValid 13 = .ok (.if_icmp .ge 225, 3) := by decide +kernel
theorem dMd_isValid_16 : decode cMd_isValid 16 = .ok (.iconst 0, 1) := by decide +kernel
theorem dMd_isValid_17 : decode cMd_isValid 17 = .ok (.istore_n 3, 1) := by decide +kernel
theorem dMd_isValid_18 : decode cMd_isValid 18 = .ok (.iload_n 3, 1) := by decide +kernel
theorem dMd_isValid_19 : decode cMd_isValid 19 = .ok (.aload_n 0, 1) := by decide +kernel
theorem dMd_isValid_20 : decode cMd_isValid 20 = .ok (.getfield 7, 3) := by decide +kernel
theorem dMd_isValid_23 : decode cMd_isValid 23 = .ok (.iload_n 2, 1) := by decide +kernel
theorem dMd_isValid_24 : decode cMd_isValid 24 = .ok (.iaload, 1) := by decide +kernel
theorem dMd_isValid_25 : decode cMd_isValid 25 = .ok (.if_icmp .ge 79, 3) := by decide +kernel
theorem dMd_isValid_28 : decode cMd_isValid 28 = .ok (.bipush 6, 2) := by decide +kernel
theorem dMd_isValid_30 : decode cMd_isValid 30 = .ok (.iload_n 2, 1) := by decide +kernel
theorem dMd_isValid_31 : decode cMd_isValid 31 = .ok (.imul, 1) := by decide +kernel
theorem dMd_isValid_32 : decode cMd_isValid 32 = .ok (.iload_n 3, 1) := by decide +kernel
theorem dMd_isValid_33 : decode cMd_isValid 33 = .ok (.iadd, 1) := by decide +kernel
theorem dMd_isValid_34 : decode cMd_isValid 34 = .ok (.istore 4, 2) := by decide +kernel
theorem dMd_isValid_36 : decode cMd_isValid 36 = .ok (.iload_n 1, 1) := by decide +kernel
theorem dMd_isValid_37 : decode cMd_isValid 37 = .ok (.ifCond .eq 59, 3) := by decide +kernel
theorem dMd_isValid_40 : decode cMd_isValid 40 = .ok (.aload_n 0, 1) := by decide +kernel
theorem dMd_isValid_41 : decode cMd_isValid 41 = .ok (.getfield 52, 3) := by decide +kernel
theorem dMd_isValid_44 : decode cMd_isValid 44 = .ok (.iload 4, 2) := by decide +kernel
theorem dMd_isValid_46 : decode cMd_isValid 46 = .ok (.iaload, 1) := by decide +kernel
theorem dMd_isValid_47 : decode cMd_isValid 47 = .ok (.ifCond .lt 19, 3) := by decide +kernel
theorem dMd_isValid_50 : decode cMd_isValid 50 = .ok (.aload_n 0, 1) := by decide +kernel
theorem dMd_isValid_51 : decode cMd_isValid 51 = .ok (.aload_n 0, 1) := by decide +kernel
theorem dMd_isValid_52 : decode cMd_isValid 52 = .ok (.getfield 52, 3) := by decide +kernel
theorem dMd_isValid_55 : decode cMd_isValid 55 = .ok (.iload 4, 2) := by decide +kernel
theorem dMd_isValid_57 : decode cMd_isValid 57 = .ok (.iaload, 1) := by decide +kernel
theorem dMd_isValid_58 : decode cMd_isValid 58 = .ok (.iload_n 2, 1) := by decide +kernel
theorem dMd_isValid_59 : decode cMd_isValid 59 = .ok (.iload_n 3, 1) := by decide +kernel
theorem dMd_isValid_60 : decode cMd_isValid 60 = .ok (.invokevirtual 165, 3) := by decide +kernel
theorem dMd_isValid_63 : decode cMd_isValid 63 = .ok (.ifCond .eq 33, 3) := by decide +kernel
theorem dMd_isValid_66 : decode cMd_isValid 66 = .ok (.aload_n 0, 1) := by decide +kernel
theorem dMd_isValid_67 : decode cMd_isValid 67 = .ok (.getfield 55, 3) := by decide +kernel
theorem dMd_isValid_70 : decode cMd_isValid 70 = .ok (.iload 4, 2) := by decide +kernel
theorem dMd_isValid_72 : decode cMd_isValid 72 = .ok (.iaload, 1) := by decide +kernel
theorem dMd_isValid_73 : decode cMd_isValid 73 = .ok (.ifCond .lt 19, 3) := by decide +kernel
theorem dMd_isValid_76 : decode cMd_isValid 76 = .ok (.aload_n 0, 1) := by decide +kernel
theorem dMd_isValid_77 : decode cMd_isValid 77 = .ok (.aload_n 0, 1) := by decide +kernel
theorem dMd_isValid_78 : decode cMd_isValid 78 = .ok (.getfield 55, 3) := by decide +kernel
theorem dMd_isValid_81 : decode cMd_isValid 81 = .ok (.iload 4, 2) := by decide +kernel
theorem dMd_isValid_83 : decode cMd_isValid 83 = .ok (.iaload, 1) := by decide +kernel
theorem dMd_isValid_84 : decode cMd_isValid 84 = .ok (.iload_n 2, 1) := by decide +kernel
theorem dMd_isValid_85 : decode cMd_isValid 85 = .ok (.iload_n 3, 1) := by decide +kernel
theorem dMd_isValid_86 : decode cMd_isValid 86 = .ok (.invokevirtual 165, 3) := by decide +kernel
theorem dMd_isValid_89 : decode cMd_isValid 89 = .ok (.ifCond .eq 7, 3) := by decide +kernel
theorem dMd_isValid_92 : decode cMd_isValid 92 = .ok (.iconst 1, 1) := by decide +kernel
theorem dMd_isValid_93 : decode cMd_isValid 93 = .ok (.goto 4, 3) := by decide +kernel
theorem dMd_isValid_96 : decode cMd_isValid 96 = .ok (.iconst 0, 1) := by decide +kernel
theorem dMd_isValid_97 : decode cMd_isValid 97 = .ok (.istore_n 1, 1) := by decide +kernel
theorem dMd_isValid_98 : decode cMd_isValid 98 = .ok (.iinc 3 1, 3) := by decide +kernel
theorem dMd_isValid_101 : decode cMd_isValid 101 = .ok (.goto (-83), 3) := by decide +kernel
theorem dMd_isValid_104 : decode cMd_isValid 104 = .ok (.iload_n 1, 1) := by decide +kernel
theorem dMd_isValid_105 : decode cMd_isValid 105 = .ok (.ifCond .eq 32, 3) := by decide +kernel
theorem dMd_isValid_108 : decode cMd_isValid 108 = .ok (.aload_n 0, 1) := by decide +kernel
theorem dMd_isValid_109 : decode cMd_isValid 109 = .ok (.getfield 58, 3) := by decide +kernel
theorem dMd_isValid_112 : decode cMd_isValid 112 = .ok (.iload_n 2, 1) := by decide +kernel
theorem dMd_isValid_113 : decode cMd_isValid 113 = .ok (.iaload, 1) := by decide +kernel
theorem dMd_isValid_114 : decode cMd_isValid 114 = .ok (.ifCond .lt 19, 3) := by decide +kernel
theorem dMd_isValid_117 : decode cMd_isValid 117 = .ok (.aload_n 0, 1) := by decide +kernel
theorem dMd_isValid_118 : decode cMd_isValid 118 = .ok (.aload_n 0, 1) := by decide +kernel
theorem dMd_isValid_119 : decode cMd_isValid 119 = .ok (.getfield 58, 3) := by decide +kernel
theorem dMd_isValid_122 : decode cMd_isValid 122 = .ok (.iload_n 2, 1) := by decide +kernel
theorem dMd_isValid_123 : decode cMd_isValid 123 = .ok (.iaload, 1) := by decide +kernel
theorem dMd_isValid_124 : decode cMd_isValid 124 = .ok (.iload_n 2, 1) := by decide +kernel
theorem dMd_isValid_125 : decode cMd_isValid 125 = .ok (.bipush 6, 2) := by decide +kernel
theorem dMd_isValid_127 : decode cMd_isValid 127 = .ok (.invokevirtual 165, 3) := by decide +kernel
theorem dMd_isValid_130 : decode cMd_isValid 130 = .ok (.ifCond .eq 7, 3) := by decide +kernel
theorem dMd_isValid_133 : decode cMd_isValid 133 = .ok (.iconst 1, 1) := by decide +kernel
theorem dMd_isValid_134 : decode cMd_isValid 134 = .ok (.goto 4, 3) := by decide +kernel
theorem dMd_isValid_137 : decode cMd_isValid 137 = .ok (.iconst 0, 1) := by decide +kernel
theorem dMd_isValid_138 : decode cMd_isValid 138 = .ok (.istore_n 1, 1) := by decide +kernel
theorem dMd_isValid_139 : decode cMd_isValid 139 = .ok (.iconst 0, 1) := by decide +kernel
theorem dMd_isValid_140 : decode cMd_isValid 140 = .ok (.istore_n 3, 1) := by decide +kernel
theorem dMd_isValid_141 : decode cMd_isValid 141 = .ok (.iload_n 3, 1) := by decide +kernel
theorem dMd_isValid_142 : decode cMd_isValid 142 = .ok (.bipush 6, 2) := by decide +kernel
theorem dMd_isValid_144 : decode cMd_isValid 144 = .ok (.if_icmp .ge 88, 3) := by decide +kernel
theorem dMd_isValid_147 : decode cMd_isValid 147 = .ok (.iconst 0, 1) := by decide +kernel
theorem dMd_isValid_148 : decode cMd_isValid 148 = .ok (.istore 4, 2) := by decide +kernel
theorem dMd_isValid_150 : decode cMd_isValid 150 = .ok (.iload 4, 2) := by decide +kernel
theorem dMd_isValid_152 : decode cMd_isValid 152 = .ok (.aload_n 0, 1) := by decide +kernel
theorem dMd_isValid_153 : decode cMd_isValid 153 = .ok (.getfield 95, 3) := by decide +kernel
theorem dMd_isValid_156 : decode cMd_isValid 156 = .ok (.if_icmp .gt 70, 3) := by decide +kernel
theorem dMd_isValid_159 : decode cMd_isValid 159 = .ok (.aload_n 0, 1) := by decide +kernel
theorem dMd_isValid_160 : decode cMd_isValid 160 = .ok (.getfield 43, 3) := by decide +kernel
theorem dMd_isValid_163 : decode cMd_isValid 163 = .ok (.bipush 6, 2) := by decide +kernel
theorem dMd_isValid_165 : decode cMd_isValid 165 = .ok (.iload_n 2, 1) := by decide +kernel
theorem dMd_isValid_166 : decode cMd_isValid 166 = .ok (.imul, 1) := by decide +kernel
theorem dMd_isValid_167 : decode cMd_isValid 167 = .ok (.iload_n 3, 1) := by decide +kernel
theorem dMd_isValid_168 : decode cMd_isValid 168 = .ok (.iadd, 1) := by decide +kernel
theorem dMd_isValid_169 : decode cMd_isValid 169 = .ok (.iaload, 1) := by decide +kernel
theorem dMd_isValid_170 : decode cMd_isValid 170 = .ok (.ifCond .lt 56, 3) := by decide +kernel
theorem dMd_isValid_173 : decode cMd_isValid 173 = .ok (.aload_n 0, 1) := by decide +kernel
theorem dMd_isValid_174 : decode cMd_isValid 174 = .ok (.getfield 46, 3) := by decide +kernel
theorem dMd_isValid_177 : decode cMd_isValid 177 = .ok (.bipush 13, 2) := by decide +kernel
theorem dMd_isValid_179 : decode cMd_isValid 179 = .ok (.bipush 6, 2) := by decide +kernel
theorem dMd_isValid_181 : decode cMd_isValid 181 = .ok (.iload_n 2, 1) := by decide +kernel
theorem dMd_isValid_182 : decode cMd_isValid 182 = .ok (.imul, 1) := by decide +kernel
theorem dMd_isValid_183 : decode cMd_isValid 183 = .ok (.iload_n 3, 1) := by decide +kernel
theorem dMd_isValid_184 : decode cMd_isValid 184 = .ok (.iadd, 1) := by decide +kernel
theorem dMd_isValid_185 : decode cMd_isValid 185 = .ok (.imul, 1) := by decide +kernel
theorem dMd_isValid_186 : decode cMd_isValid 186 = .ok (.iload 4, 2) := by decide +kernel
theorem dMd_isValid_188 : decode cMd_isValid 188 = .ok (.iadd, 1) := by decide +kernel
theorem dMd_isValid_189 : decode cMd_isValid 189 = .ok (.iaload, 1) := by decide +kernel
theorem dMd_isValid_190 : decode cMd_isValid 190 = .ok (.istore 5, 2) := by decide +kernel
theorem dMd_isValid_192 : decode cMd_isValid 192 = .ok (.iload_n 1, 1) := by decide +kernel
theorem dMd_isValid_193 : decode cMd_isValid 193 = .ok (.ifCond .eq 25, 3) := by decide +kernel
theorem dMd_isValid_196 : decode cMd_isValid 196 = .ok (.iload 5, 2) := by decide +kernel
theorem dMd_isValid_198 : decode cMd_isValid 198 = .ok (.ifCond .lt 16, 3) := by decide +kernel
theorem dMd_isValid_201 : decode cMd_isValid 201 = .ok (.aload_n 0, 1) := by decide +kernel
theorem dMd_isValid_202 : decode cMd_isValid 202 = .ok (.iload 5, 2) := by decide +kernel
theorem dMd_isValid_204 : decode cMd_isValid 204 = .ok (.iload 4, 2) := by decide +kernel
theorem dMd_isValid_206 : decode cMd_isValid 206 = .ok (.bipush 6, 2) := by decide +kernel
theorem dMd_isValid_208 : decode cMd_isValid 208 = .ok (.invokevirtual 165, 3) := by decide +kernel
theorem dMd_isValid_211 : decode cMd_isValid 211 = .ok (.ifCond .eq 7, 3) := by decide +kernel
theorem dMd_isValid_214 : decode cMd_isValid 214 = .ok (.iconst 1, 1) := by decide +kernel
theorem dMd_isValid_215 : decode cMd_isValid 215 = .ok (.goto 4, 3) := by decide +kernel
theorem dMd_isValid_218 : decode cMd_isValid 218 = .ok (.iconst 0, 1) := by decide +kernel
theorem dMd_isValid_219 : decode cMd_isValid 219 = .ok (.istore_n 1, 1) := by decide +kernel
theorem dMd_isValid_220 : decode cMd_isValid 220 = .ok (.iinc 4 1, 3) := by decide +kernel
theorem dMd_isValid_223 : decode cMd_isValid 223 = .ok (.goto (-73), 3) := by decide +kernel
theorem dMd_isValid_226 : decode cMd_isValid 226 = .ok (.iinc 3 1, 3) := by decide +kernel
theorem dMd_isValid_229 : decode cMd_isValid 229 = .ok (.goto (-88), 3) := by decide +kernel
theorem dMd_isValid_232 : decode cMd_isValid 232 = .ok (.iinc 2 1, 3) := by decide +kernel
theorem dMd_isValid_235 : decode cMd_isValid 235 = .ok (.goto (-227), 3) := by decide +kernel
theorem dMd_isValid_238 : decode cMd_isValid 238 = .ok (.iload_n 1, 1) := by decide +kernel
theorem dMd_isValid_239 : decode cMd_isValid 239 = .ok (.ireturn, 1) := by decide +kernel
theorem dMd_valid_0 : decode cMd_valid 0 = .ok (.aload_n 0, 1) := by decide +kernel
theorem dMd_valid_1 : decode cMd_valid 1 = .ok (.aload_n 0, 1) := by decide +kernel
theorem dMd_valid_2 : decode cMd_valid 2 = .ok (.getfield 109, 3) := by decide +kernel
theorem dMd_valid_5 : decode cMd_valid 5 = .ok (.ifCond .eq 7, 3) := by decide +kernel
theorem dMd_valid_8 : decode cMd_valid 8 = .ok (.iconst 0, 1) := by decide +kernel
theorem dMd_valid_9 : decode cMd_valid 9 = .ok (.goto 4, 3) := by decide +kernel
theorem dMd_valid_12 : decode cMd_valid 12 = .ok (.iconst 1, 1) := by decide +kernel
theorem dMd_valid_13 : decode cMd_valid 13 = .ok (.putfield 99, 3) := by decide +kernel
theorem dMd_valid_16 : decode cMd_valid 16 = .ok (.aload_n 0, 1) := by decide +kernel
theorem dMd_valid_17 : decode cMd_valid 17 = .ok (.getfield 109, 3) := by decide +kernel
theorem dMd_valid_20 : decode cMd_valid 20 = .ok (.ifCond .eq 14, 3) := by decide +kernel
theorem dMd_valid_23 : decode cMd_valid 23 = .ok (.aload_n 0, 1) := by decide +kernel
theorem dMd_valid_24 : decode cMd_valid 24 = .ok (.invokevirtual 169, 3) := by decide +kernel
theorem dMd_valid_27 : decode cMd_valid 27 = .ok (.ifCond .eq 7, 3) := by decide +kernel
theorem dMd_valid_30 : decode cMd_valid 30 = .ok (.iconst 1, 1) := by decide +kernel
theorem dMd_valid_31 : decode cMd_valid 31 = .ok (.goto 4, 3) := by decide +kernel
theorem dMd_valid_34 : decode cMd_valid 34 = .ok (.iconst 0, 1) := by decide +kernel
theorem dMd_valid_35 : decode cMd_valid 35 = .ok (.ireturn, 1) := by decide +kernel
theorem dMd_behind_0 : decode cMd_behind 0 = .ok (.iload_n 1, 1) := by decide +kernel
theorem dMd_behind_1 : decode cMd_behind 1 = .ok (.istore_n 2, 1) := by decide +kernel
theorem dMd_behind_2 : decode cMd_behind 2 = .ok (.aload_n 0, 1) := by decide +kernel
theorem dMd_behind_3 : decode cMd_behind 3 = .ok (.getfield 68, 3) := by decide +kernel
theorem dMd_behind_6 : decode cMd_behind 6 = .ok (.iload_n 2, 1) := by decide +kernel
theorem dMd_behind_7 : decode cMd_behind 7 = .ok (.iaload, 1) := by decide +kernel
theorem dMd_behind_8 : decode cMd_behind 8 = .ok (.aload_n 0, 1) := by decide +kernel
theorem dMd_behind_9 : decode cMd_behind 9 = .ok (.getfield 95, 3) := by decide +kernel
theorem dMd_behind_12 : decode cMd_behind 12 = .ok (.if_icmp .ge 62, 3) := by decide +kernel
theorem dMd_behind_15 : decode cMd_behind 15 = .ok (.aload_n 0, 1) := by decide +kernel
theorem dMd_behind_16 : decode cMd_behind 16 = .ok (.getfield 71, 3) := by decide +kernel
theorem dMd_behind_19 : decode cMd_behind 19 = .ok (.iload_n 2, 1) := by decide +kernel
theorem dMd_behind_20 : decode cMd_behind 20 = .ok (.iaload, 1) := by decide +kernel
theorem dMd_behind_21 : decode cMd_behind 21 = .ok (.ifCond .lt 53, 3) := by decide +kernel
theorem dMd_behind_24 : decode cMd_behind 24 = .ok (.aload_n 0, 1) := by decide +kernel
theorem dMd_behind_25 : decode cMd_behind 25 = .ok (.getfield 13, 3) := by decide +kernel
theorem dMd_behind_28 : decode cMd_behind 28 = .ok (.bipush 6, 2) := by decide +kernel
theorem dMd_behind_30 : decode cMd_behind 30 = .ok (.aload_n 0, 1) := by decide +kernel
theorem dMd_behind_31 : decode cMd_behind 31 = .ok (.getfield 68, 3) := by decide +kernel
theorem dMd_behind_34 : decode cMd_behind 34 = .ok (.iload_n 2, 1) := by decide +kernel
theorem dMd_behind_35 : decode cMd_behind 35 = .ok (.iaload, 1) := by decide +kernel
theorem dMd_behind_36 : decode cMd_behind 36 = .ok (.imul, 1) := by decide +kernel
theorem dMd_behind_37 : decode cMd_behind 37 = .ok (.aload_n 0, 1) := by decide +kernel
theorem dMd_behind_38 : decode cMd_behind 38 = .ok (.getfield 71, 3) := by decide +kernel
theorem dMd_behind_41 : decode cMd_behind 41 = .ok (.iload_n 2, 1) := by decide +kernel
theorem dMd_behind_42 : decode cMd_behind 42 = .ok (.iaload, 1) := by decide +kernel
theorem dMd_behind_43 : decode cMd_behind 43 = .ok (.iadd, 1) := by decide +kernel
theorem dMd_behind_44 : decode cMd_behind 44 = .ok (.iaload, 1) := by decide +kernel
theorem dMd_behind_45 : decode cMd_behind 45 = .ok (.iconst 1, 1) := by decide +kernel
theorem dMd_behind_46 : decode cMd_behind 46 = .ok (.if_icmp .ne 28, 3) := by decide +kernel
theorem dMd_behind_49 : decode cMd_behind 49 = .ok (.aload_n 0, 1) := by decide +kernel
theorem dMd_behind_50 : decode cMd_behind 50 = .ok (.getfield 52, 3) := by decide +kernel
theorem dMd_behind_53 : decode cMd_behind 53 = .ok (.bipush 6, 2) := by decide +kernel
theorem dMd_behind_55 : decode cMd_behind 55 = .ok (.aload_n 0, 1) := by decide +kernel
theorem dMd_behind_56 : decode cMd_behind 56 = .ok (.getfield 68, 3) := by decide +kernel
theorem dMd_behind_59 : decode cMd_behind 59 = .ok (.iload_n 2, 1) := by decide +kernel
theorem dMd_behind_60 : decode cMd_behind 60 = .ok (.iaload, 1) := by decide +kernel
theorem dMd_behind_61 : decode cMd_behind 61 = .ok (.imul, 1) := by decide +kernel
theorem dMd_behind_62 : decode cMd_behind 62 = .ok (.aload_n 0, 1) := by decide +kernel
theorem dMd_behind_63 : decode cMd_behind 63 = .ok (.getfield 71, 3) := by decide +kernel
theorem dMd_behind_66 : decode cMd_behind 66 = .ok (.iload_n 2, 1) := by decide +kernel
theorem dMd_behind_67 : decode cMd_behind 67 = .ok (.iaload, 1) := by decide +kernel
theorem dMd_behind_68 : decode cMd_behind 68 = .ok (.iadd, 1) := by decide +kernel
theorem dMd_behind_69 : decode cMd_behind 69 = .ok (.iaload, 1) := by decide +kernel
theorem dMd_behind_70 : decode cMd_behind 70 = .ok (.istore_n 2, 1) := by decide +kernel
theorem dMd_behind_71 : decode cMd_behind 71 = .ok (.goto (-69), 3) := by decide +kernel
theorem dMd_behind_74 : decode cMd_behind 74 = .ok (.iload_n 2, 1) := by decide +kernel
theorem dMd_behind_75 : decode cMd_behind 75 = .ok (.ireturn, 1) := by decide +kernel
theorem dMd_propagate_0 : decode cMd_propagate 0 = .ok (.aload_n 0, 1) := by decide +kernel
theorem dMd_propagate_1 : decode cMd_propagate 1 = .ok (.aload_n 0, 1) := by decide +kernel
theorem dMd_propagate_2 : decode cMd_propagate 2 = .ok (.getfield 109, 3) := by decide +kernel
theorem dMd_propagate_5 : decode cMd_propagate 5 = .ok (.ifCond .ne 7, 3) := by decide +kernel
theorem dMd_propagate_8 : decode cMd_propagate 8 = .ok (.iconst 1, 1) := by decide +kernel
theorem dMd_propagate_9 : decode cMd_propagate 9 = .ok (.goto 15, 3) := by decide +kernel
theorem dMd_propagate_12 : decode cMd_propagate 12 = .ok (.aload_n 0, 1) := by decide +kernel
theorem dMd_propagate_13 : decode cMd_propagate 13 = .ok (.invokevirtual 169, 3) := by decide +kernel
theorem dMd_propagate_16 : decode cMd_propagate 16 = .ok (.ifCond .ne 7, 3) := by decide +kernel
theorem dMd_propagate_19 : decode cMd_propagate 19 = .ok (.iconst 2, 1) := by decide +kernel
theorem dMd_propagate_20 : decode cMd_propagate 20 = .ok (.goto 4, 3) := by decide +kernel
theorem dMd_propagate_23 : decode cMd_propagate 23 = .ok (.iconst 0, 1) := by decide +kernel
theorem dMd_propagate_24 : decode cMd_propagate 24 = .ok (.putfield 99, 3) := by decide +kernel
theorem dMd_propagate_27 : decode cMd_propagate 27 = .ok (.aload_n 0, 1) := by decide +kernel
theorem dMd_propagate_28 : decode cMd_propagate 28 = .ok (.getfield 99, 3) := by decide +kernel
theorem dMd_propagate_31 : decode cMd_propagate 31 = .ok (.ifCond .eq 5, 3) := by decide +kernel
theorem dMd_propagate_34 : decode cMd_propagate 34 = .ok (.iconst 0, 1) := by decide +kernel
theorem dMd_propagate_35 : decode cMd_propagate 35 = .ok (.ireturn, 1) := by decide +kernel
theorem dMd_propagate_36 : decode cMd_propagate 36 = .ok (.iconst 0, 1) := by decide +kernel
theorem dMd_propagate_37 : decode cMd_propagate 37 = .ok (.istore_n 1, 1) := by decide +kernel
theorem dMd_propagate_38 : decode cMd_propagate 38 = .ok (.iload_n 1, 1) := by decide +kernel
theorem dMd_propagate_39 : decode cMd_propagate 39 = .ok (.aload_n 0, 1) := by decide +kernel
theorem dMd_propagate_40 : decode cMd_propagate 40 = .ok (.getfield 95, 3) := by decide +kernel
theorem dMd_propagate_43 : decode cMd_propagate 43 = .ok (.if_icmp .ge 226, 3) := by decide +kernel
theorem dMd_propagate_46 : decode cMd_propagate 46 = .ok (.aload_n 0, 1) := by decide +kernel
theorem dMd_propagate_47 : decode cMd_propagate 47 = .ok (.getfield 58, 3) := by decide +kernel
theorem dMd_propagate_50 : decode cMd_propagate 50 = .ok (.iload_n 1, 1) := by decide +kernel
theorem dMd_propagate_51 : decode cMd_propagate 51 = .ok (.aload_n 0, 1) := by decide +kernel
theorem dMd_propagate_52 : decode cMd_propagate 52 = .ok (.getfield 58, 3) := by decide +kernel
theorem dMd_propagate_55 : decode cMd_propagate 55 = .ok (.iload_n 1, 1) := by decide +kernel
theorem dMd_propagate_56 : decode cMd_propagate 56 = .ok (.iaload, 1) := by decide +kernel
theorem dMd_propagate_57 : decode cMd_propagate 57 = .ok (.ifCond .ge 7, 3) := by decide +kernel
theorem dMd_propagate_60 : decode cMd_propagate 60 = .ok (.iconst (-1), 1) := by decide +kernel
theorem dMd_propagate_61 : decode cMd_propagate 61 = .ok (.goto 13, 3) := by decide +kernel
theorem dMd_propagate_64 : decode cMd_propagate 64 = .ok (.aload_n 0, 1) := by decide +kernel
theorem dMd_propagate_65 : decode cMd_propagate 65 = .ok (.aload_n 0, 1) := by decide +kernel
theorem dMd_propagate_66 : decode cMd_propagate 66 = .ok (.getfield 58, 3) := by decide +kernel
theorem dMd_propagate_69 : decode cMd_propagate 69 = .ok (.iload_n 1, 1) := by decide +kernel
theorem dMd_propagate_70 : decode cMd_propagate 70 = .ok (.iaload, 1) := by decide +kernel
theorem dMd_propagate_71 : decode cMd_propagate 71 = .ok (.invokevirtual 173, 3) := by decide +kernel
theorem dMd_propagate_74 : decode cMd_propagate 74 = .ok (.iastore, 1) := by decide +kernel
theorem dMd_propagate_75 : decode cMd_propagate 75 = .ok (.bipush 6, 2) := by decide +kernel
theorem dMd_propagate_77 : decode cMd_propagate 77 = .ok (.iload_n 1, 1) := by decide +kernel
theorem dMd_propagate_78 : decode cMd_propagate 78 = .ok (.imul, 1) := by decide +kernel
theorem dMd_propagate_79 : decode cMd_propagate 79 = .ok (.istore_n 2, 1) := by decide +kernel
theorem dMd_propagate_80 : decode cMd_propagate 80 = .ok (.iload_n 2, 1) := by decide +kernel
theorem dMd_propagate_81 : decode cMd_propagate 81 = .ok (.bipush 6, 2) := by decide +kernel
theorem dMd_propagate_83 : decode cMd_propagate 83 = .ok (.iload_n 1, 1) := by decide +kernel
theorem dMd_propagate_84 : decode cMd_propagate 84 = .ok (.imul, 1) := by decide +kernel
theorem dMd_propagate_85 : decode cMd_propagate 85 = .ok (.aload_n 0, 1) := by decide +kernel
theorem dMd_propagate_86 : decode cMd_propagate 86 = .ok (.getfield 7, 3) := by decide +kernel
theorem dMd_propagate_89 : decode cMd_propagate 89 = .ok (.iload_n 1, 1) := by decide +kernel
theorem dMd_propagate_90 : decode cMd_propagate 90 = .ok (.iaload, 1) := by decide +kernel
theorem dMd_propagate_91 : decode cMd_propagate 91 = .ok (.iadd, 1) := by decide +kernel
theorem dMd_propagate_92 : decode cMd_propagate 92 = .ok (.if_icmp .ge 82, 3) := by decide +kernel
theorem dMd_propagate_95 : decode cMd_propagate 95 = .ok (.aload_n 0, 1) := by decide +kernel
theorem dMd_propagate_96 : decode cMd_propagate 96 = .ok (.getfield 52, 3) := by decide +kernel
theorem dMd_propagate_99 : decode cMd_propagate 99 = .ok (.iload_n 2, 1) := by decide +kernel
theorem dMd_propagate_100 : decode cMd_propagate 100 = .ok (.aload_n 0, 1) := by decide +kernel
theorem dMd_propagate_101 : decode cMd_propagate 101 = .ok (.getfield 52, 3) := by decide +kernel
theorem dMd_propagate_104 : decode cMd_propagate 104 = .ok (.iload_n 2, 1) := by decide +kernel
theorem dMd_propagate_105 : decode cMd_propagate 105 = .ok (.iaload, 1) := by decide +kernel
theorem dMd_propagate_106 : decode cMd_propagate 106 = .ok (.ifCond .lt 13, 3) := by decide +kernel
theorem dMd_propagate_109 : decode cMd_propagate 109 = .ok (.aload_n 0, 1) := by decide +kernel
theorem dMd_propagate_110 : decode cMd_propagate 110 = .ok (.getfield 13, 3) := by decide +kernel
theorem dMd_propagate_113 : decode cMd_propagate 113 = .ok (.iload_n 2, 1) := by decide +kernel
theorem dMd_propagate_114 : decode cMd_propagate 114 = .ok (.iaload, 1) := by decide +kernel
theorem dMd_propagate_115 : decode cMd_propagate 115 = .ok (.iconst 1, 1) := by decide +kernel
theorem dMd_propagate_116 : decode cMd_propagate 116 = .ok (.if_icmp .ne 12, 3) := by decide +kernel
theorem dMd_propagate_119 : decode cMd_propagate 119 = .ok (.aload_n 0, 1) := by decide +kernel
theorem dMd_propagate_120 : decode cMd_propagate 120 = .ok (.getfield 52, 3) := by decide +kernel
theorem dMd_propagate_123 : decode cMd_propagate 123 = .ok (.iload_n 2, 1) := by decide +kernel
theorem dMd_propagate_124 : decode cMd_propagate 124 = .ok (.iaload, 1) := by decide +kernel
theorem dMd_propagate_125 : decode cMd_propagate 125 = .ok (.goto 13, 3) := by decide +kernel
theorem dMd_propagate_128 : decode cMd_propagate 128 = .ok (.aload_n 0, 1) := by decide +kernel
theorem dMd_propagate_129 : decode cMd_propagate 129 = .ok (.aload_n 0, 1) := by decide +kernel
theorem dMd_propagate_130 : decode cMd_propagate 130 = .ok (.getfield 52, 3) := by decide +kernel
theorem dMd_propagate_133 : decode cMd_propagate 133 = .ok (.iload_n 2, 1) := by decide +kernel
theorem dMd_propagate_134 : decode cMd_propagate 134 = .ok (.iaload, 1) := by decide +kernel
theorem dMd_propagate_135 : decode cMd_propagate 135 = .ok (.invokevirtual 173, 3) := by decide +kernel
theorem dMd_propagate_138 : decode cMd_propagate 138 = .ok (.iastore, 1) := by decide +kernel
theorem dMd_propagate_139 : decode cMd_propagate 139 = .ok (.aload_n 0, 1) := by decide +kernel
theorem dMd_propagate_140 : decode cMd_propagate 140 = .ok (.getfield 55, 3) := by decide +kernel
theorem dMd_propagate_143 : decode cMd_propagate 143 = .ok (.iload_n 2, 1) := by decide +kernel
theorem dMd_propagate_144 : decode cMd_propagate 144 = .ok (.aload_n 0, 1) := by decide +kernel
theorem dMd_propagate_145 : decode cMd_propagate 145 = .ok (.getfield 55, 3) := by decide +kernel
theorem dMd_propagate_148 : decode cMd_propagate 148 = .ok (.iload_n 2, 1) := by decide +kernel
theorem dMd_propagate_149 : decode cMd_propagate 149 = .ok (.iaload, 1) := by decide +kernel
theorem dMd_propagate_150 : decode cMd_propagate 150 = .ok (.ifCond .ge 7, 3) := by decide +kernel
theorem dMd_propagate_153 : decode cMd_propagate 153 = .ok (.iconst (-1), 1) := by decide +kernel
theorem dMd_propagate_154 : decode cMd_propagate 154 = .ok (.goto 13, 3) := by decide +kernel
theorem dMd_propagate_157 : decode cMd_propagate 157 = .ok (.aload_n 0, 1) := by decide +kernel
theorem dMd_propagate_158 : decode cMd_propagate 158 = .ok (.aload_n 0, 1) := by decide +kernel
theorem dMd_propagate_159 : decode cMd_propagate 159 = .ok (.getfield 55, 3) := by decide +kernel
theorem dMd_propagate_162 : decode cMd_propagate 162 = .ok (.iload_n 2, 1) := by decide +kernel
theorem dMd_propagate_163 : decode cMd_propagate 163 = .ok (.iaload, 1) := by decide +kernel
theorem dMd_propagate_164 : decode cMd_propagate 164 = .ok (.invokevirtual 173, 3) := by decide +kernel
theorem dMd_propagate_167 : decode cMd_propagate 167 = .ok (.iastore, 1) := by decide +kernel
theorem dMd_propagate_168 : decode cMd_propagate 168 = .ok (.iinc 2 1, 3) := by decide +kernel
theorem dMd_propagate_171 : decode cMd_propagate 171 = .ok (.goto (-91), 3) := by decide +kernel
theorem dMd_propagate_174 : decode cMd_propagate 174 = .ok (.iconst 0, 1) := by decide +kernel
theorem dMd_propagate_175 : decode cMd_propagate 175 = .ok (.istore_n 2, 1) := by decide +kernel
theorem dMd_propagate_176 : decode cMd_propagate 176 = .ok (.iload_n 2, 1) := by decide +kernel
theorem dMd_propagate_177 : decode cMd_propagate 177 = .ok (.bipush 6, 2) := by decide +kernel
theorem dMd_propagate_179 : decode cMd_propagate 179 = .ok (.if_icmp .ge 84, 3) := by decide +kernel
theorem dMd_propagate_182 : decode cMd_propagate 182 = .ok (.iconst 0, 1) := by decide +kernel
theorem dMd_propagate_183 : decode cMd_propagate 183 = .ok (.istore_n 3, 1) := by decide +kernel
theorem dMd_propagate_184 : decode cMd_propagate 184 = .ok (.iload_n 3, 1) := by decide +kernel
theorem dMd_propagate_185 : decode cMd_propagate 185 = .ok (.aload_n 0, 1) := by decide +kernel
theorem dMd_propagate_186 : decode cMd_propagate 186 = .ok (.getfield 95, 3) := by decide +kernel
theorem dMd_propagate_189 : decode cMd_propagate 189 = .ok (.if_icmp .gt 68, 3) := by decide +kernel
theorem dMd_propagate_192 : decode cMd_propagate 192 = .ok (.aload_n 0, 1) := by decide +kernel
theorem dMd_propagate_193 : decode cMd_propagate 193 = .ok (.getfield 43, 3) := by decide +kernel
theorem dMd_propagate_196 : decode cMd_propagate 196 = .ok (.bipush 6, 2) := by decide +kernel
theorem dMd_propagate_198 : decode cMd_propagate 198 = .ok (.iload_n 1, 1) := by decide +kernel
theorem dMd_propagate_199 : decode cMd_propagate 199 = .ok (.imul, 1) := by decide +kernel
theorem dMd_propagate_200 : decode cMd_propagate 200 = .ok (.iload_n 2, 1) := by decide +kernel
theorem dMd_propagate_201 : decode cMd_propagate 201 = .ok (.iadd, 1) := by decide +kernel
theorem dMd_propagate_202 : decode cMd_propagate 202 = .ok (.iaload, 1) := by decide +kernel
theorem dMd_propagate_203 : decode cMd_propagate 203 = .ok (.ifCond .lt 54, 3) := by decide +kernel
theorem dMd_propagate_206 : decode cMd_propagate 206 = .ok (.bipush 13, 2) := by decide +kernel
theorem dMd_propagate_208 : decode cMd_propagate 208 = .ok (.bipush 6, 2) := by decide +kernel
theorem dMd_propagate_210 : decode cMd_propagate 210 = .ok (.iload_n 1, 1) := by decide +kernel
theorem dMd_propagate_211 : decode cMd_propagate 211 = .ok (.imul, 1) := by decide +kernel
theorem dMd_propagate_212 : decode cMd_propagate 212 = .ok (.iload_n 2, 1) := by decide +kernel
theorem dMd_propagate_213 : decode cMd_propagate 213 = .ok (.iadd, 1) := by decide +kernel
theorem dMd_propagate_214 : decode cMd_propagate 214 = .ok (.imul, 1) := by decide +kernel
theorem dMd_propagate_215 : decode cMd_propagate 215 = .ok (.iload_n 3, 1) := by decide +kernel
theorem dMd_propagate_216 : decode cMd_propagate 216 = .ok (.iadd, 1) := by decide +kernel
theorem dMd_propagate_217 : decode cMd_propagate 217 = .ok (.istore 4, 2) := by decide +kernel
theorem dMd_propagate_219 : decode cMd_propagate 219 = .ok (.aload_n 0, 1) := by decide +kernel
theorem dMd_propagate_220 : decode cMd_propagate 220 = .ok (.getfield 46, 3) := by decide +kernel
theorem dMd_propagate_223 : decode cMd_propagate 223 = .ok (.iload 4, 2) := by decide +kernel
theorem dMd_propagate_225 : decode cMd_propagate 225 = .ok (.aload_n 0, 1) := by decide +kernel
theorem dMd_propagate_226 : decode cMd_propagate 226 = .ok (.getfield 46, 3) := by decide +kernel
theorem dMd_propagate_229 : decode cMd_propagate 229 = .ok (.iload 4, 2) := by decide +kernel
theorem dMd_propagate_231 : decode cMd_propagate 231 = .ok (.iaload, 1) := by decide +kernel
theorem dMd_propagate_232 : decode cMd_propagate 232 = .ok (.ifCond .ge 7, 3) := by decide +kernel
theorem dMd_propagate_235 : decode cMd_propagate 235 = .ok (.iconst (-1), 1) := by decide +kernel
theorem dMd_propagate_236 : decode cMd_propagate 236 = .ok (.goto 14, 3) := by decide +kernel
theorem dMd_propagate_239 : decode cMd_propagate 239 = .ok (.aload_n 0, 1) := by decide +kernel
theorem dMd_propagate_240 : decode cMd_propagate 240 = .ok (.aload_n 0, 1) := by decide +kernel
theorem dMd_propagate_241 : decode cMd_propagate 241 = .ok (.getfield 46, 3) := by decide +kernel
theorem dMd_propagate_244 : decode cMd_propagate 244 = .ok (.iload 4, 2) := by decide +kernel
theorem dMd_propagate_246 : decode cMd_propagate 246 = .ok (.iaload, 1) := by decide +kernel
theorem dMd_propagate_247 : decode cMd_propagate 247 = .ok (.invokevirtual 173, 3) := by decide +kernel
theorem dMd_propagate_250 : decode cMd_propagate 250 = .ok (.iastore, 1) := by decide +kernel
theorem dMd_propagate_251 : decode cMd_propagate 251 = .ok (.iinc 3 1, 3) := by decide +kernel
theorem dMd_propagate_254 : decode cMd_propagate 254 = .ok (.goto (-70), 3) := by decide +kernel
theorem dMd_propagate_257 : decode cMd_propagate 257 = .ok (.iinc 2 1, 3) := by decide +kernel
theorem dMd_propagate_260 : decode cMd_propagate 260 = .ok (.goto (-84), 3) := by decide +kernel
theorem dMd_propagate_263 : decode cMd_propagate 263 = .ok (.iinc 1 1, 3) := by decide +kernel
theorem dMd_propagate_266 : decode cMd_propagate 266 = .ok (.goto (-228), 3) := by decide +kernel
theorem dMd_propagate_269 : decode cMd_propagate 269 = .ok (.iconst 0, 1) := by decide +kernel
theorem dMd_propagate_270 : decode cMd_propagate 270 = .ok (.istore_n 1, 1) := by decide +kernel
theorem dMd_propagate_271 : decode cMd_propagate 271 = .ok (.iconst 0, 1) := by decide +kernel
theorem dMd_propagate_272 : decode cMd_propagate 272 = .ok (.istore_n 2, 1) := by decide +kernel
theorem dMd_propagate_273 : decode cMd_propagate 273 = .ok (.iload_n 2, 1) := by decide +kernel
theorem dMd_propagate_274 : decode cMd_propagate 274 = .ok (.bipush 72, 2) := by decide +kernel
theorem dMd_propagate_276 : decode cMd_propagate 276 = .ok (.if_icmp .ge 64, 3) := by decide +kernel
theorem dMd_propagate_279 : decode cMd_propagate 279 = .ok (.aload_n 0, 1) := by decide +kernel
theorem dMd_propagate_280 : decode cMd_propagate 280 = .ok (.getfield 49, 3) := by decide +kernel
theorem dMd_propagate_283 : decode cMd_propagate 283 = .ok (.iload_n 2, 1) := by decide +kernel
theorem dMd_propagate_284 : decode cMd_propagate 284 = .ok (.iaload, 1) := by decide +kernel
theorem dMd_propagate_285 : decode cMd_propagate 285 = .ok (.ifCond .lt 49, 3) := by decide +kernel
theorem dMd_propagate_288 : decode cMd_propagate 288 = .ok (.aload_n 0, 1) := by decide +kernel
theorem dMd_propagate_289 : decode cMd_propagate 289 = .ok (.getfield 13, 3) := by decide +kernel
theorem dMd_propagate_292 : decode cMd_propagate 292 = .ok (.iload_n 2, 1) := by decide +kernel
theorem dMd_propagate_293 : decode cMd_propagate 293 = .ok (.iaload, 1) := by decide +kernel
theorem dMd_propagate_294 : decode cMd_propagate 294 = .ok (.iconst 1, 1) := by decide +kernel
theorem dMd_propagate_295 : decode cMd_propagate 295 = .ok (.if_icmp .ne 39, 3) := by decide +kernel
theorem dMd_propagate_298 : decode cMd_propagate 298 = .ok (.aload_n 0, 1) := by decide +kernel
theorem dMd_propagate_299 : decode cMd_propagate 299 = .ok (.getfield 65, 3) := by decide +kernel
theorem dMd_propagate_302 : decode cMd_propagate 302 = .ok (.aload_n 0, 1) := by decide +kernel
theorem dMd_propagate_303 : decode cMd_propagate 303 = .ok (.getfield 49, 3) := by decide +kernel
theorem dMd_propagate_306 : decode cMd_propagate 306 = .ok (.iload_n 2, 1) := by decide +kernel
theorem dMd_propagate_307 : decode cMd_propagate 307 = .ok (.iaload, 1) := by decide +kernel
theorem dMd_propagate_308 : decode cMd_propagate 308 = .ok (.iconst 0, 1) := by decide +kernel
theorem dMd_propagate_309 : decode cMd_propagate 309 = .ok (.bastore, 1) := by decide +kernel
theorem dMd_propagate_310 : decode cMd_propagate 310 = .ok (.aload_n 0, 1) := by decide +kernel
theorem dMd_propagate_311 : decode cMd_propagate 311 = .ok (.getfield 49, 3) := by decide +kernel
theorem dMd_propagate_314 : decode cMd_propagate 314 = .ok (.iload_n 2, 1) := by decide +kernel
theorem dMd_propagate_315 : decode cMd_propagate 315 = .ok (.iconst (-1), 1) := by decide +kernel
theorem dMd_propagate_316 : decode cMd_propagate 316 = .ok (.iastore, 1) := by decide +kernel
theorem dMd_propagate_317 : decode cMd_propagate 317 = .ok (.aload_n 0, 1) := by decide +kernel
theorem dMd_propagate_318 : decode cMd_propagate 318 = .ok (.getfield 52, 3) := by decide +kernel
theorem dMd_propagate_321 : decode cMd_propagate 321 = .ok (.iload_n 2, 1) := by decide +kernel
theorem dMd_propagate_322 : decode cMd_propagate 322 = .ok (.iconst (-1), 1) := by decide +kernel
theorem dMd_propagate_323 : decode cMd_propagate 323 = .ok (.iastore, 1) := by decide +kernel
theorem dMd_propagate_324 : decode cMd_propagate 324 = .ok (.aload_n 0, 1) := by decide +kernel
theorem dMd_propagate_325 : decode cMd_propagate 325 = .ok (.getfield 61, 3) := by decide +kernel
theorem dMd_propagate_328 : decode cMd_propagate 328 = .ok (.iload_n 2, 1) := by decide +kernel
theorem dMd_propagate_329 : decode cMd_propagate 329 = .ok (.iconst 1, 1) := by decide +kernel
theorem dMd_propagate_330 : decode cMd_propagate 330 = .ok (.bastore, 1) := by decide +kernel
theorem dMd_propagate_331 : decode cMd_propagate 331 = .ok (.iinc 1 1, 3) := by decide +kernel
theorem dMd_propagate_334 : decode cMd_propagate 334 = .ok (.iinc 2 1, 3) := by decide +kernel
theorem dMd_propagate_337 : decode cMd_propagate 337 = .ok (.goto (-64), 3) := by decide +kernel
theorem dMd_propagate_340 : decode cMd_propagate 340 = .ok (.iload_n 1, 1) := by decide +kernel
theorem dMd_propagate_341 : decode cMd_propagate 341 = .ok (.ireturn, 1) := by decide +kernel
theorem dMd_meeting_0 : decode cMd_meeting 0 = .ok (.aload_n 0, 1) := by decide +kernel
theorem dMd_meeting_1 : decode cMd_meeting 1 = .ok (.aload_n 0, 1) := by decide +kernel
theorem dMd_meeting_2 : decode cMd_meeting 2 = .ok (.getfield 109, 3) := by decide +kernel
theorem dMd_meeting_5 : decode cMd_meeting 5 = .ok (.ifCond .ne 7, 3) := by decide +kernel
theorem dMd_meeting_8 : decode cMd_meeting 8 = .ok (.iconst 1, 1) := by decide +kernel
theorem dMd_meeting_9 : decode cMd_meeting 9 = .ok (.goto 24, 3) := by decide +kernel
theorem dMd_meeting_12 : decode cMd_meeting 12 = .ok (.aload_n 0, 1) := by decide +kernel
theorem dMd_meeting_13 : decode cMd_meeting 13 = .ok (.iload_n 1, 1) := by decide +kernel
theorem dMd_meeting_14 : decode cMd_meeting 14 = .ok (.invokevirtual 102, 3) := by decide +kernel
theorem dMd_meeting_17 : decode cMd_meeting 17 = .ok (.ifCond .ne 11, 3) := by decide +kernel
theorem dMd_meeting_20 : decode cMd_meeting 20 = .ok (.aload_n 0, 1) := by decide +kernel
theorem dMd_meeting_21 : decode cMd_meeting 21 = .ok (.iload_n 2, 1) := by decide +kernel
theorem dMd_meeting_22 : decode cMd_meeting 22 = .ok (.invokevirtual 106, 3) := by decide +kernel
theorem dMd_meeting_25 : decode cMd_meeting 25 = .ok (.ifCond .eq 7, 3) := by decide +kernel
theorem dMd_meeting_28 : decode cMd_meeting 28 = .ok (.iconst 2, 1) := by decide +kernel
theorem dMd_meeting_29 : decode cMd_meeting 29 = .ok (.goto 4, 3) := by decide +kernel
theorem dMd_meeting_32 : decode cMd_meeting 32 = .ok (.iconst 0, 1) := by decide +kernel
theorem dMd_meeting_33 : decode cMd_meeting 33 = .ok (.putfield 99, 3) := by decide +kernel
theorem dMd_meeting_36 : decode cMd_meeting 36 = .ok (.aload_n 0, 1) := by decide +kernel
theorem dMd_meeting_37 : decode cMd_meeting 37 = .ok (.getfield 99, 3) := by decide +kernel
theorem dMd_meeting_40 : decode cMd_meeting 40 = .ok (.ifCond .ne 17, 3) := by decide +kernel
theorem dMd_meeting_43 : decode cMd_meeting 43 = .ok (.aload_n 0, 1) := by decide +kernel
theorem dMd_meeting_44 : decode cMd_meeting 44 = .ok (.getfield 43, 3) := by decide +kernel
theorem dMd_meeting_47 : decode cMd_meeting 47 = .ok (.bipush 6, 2) := by decide +kernel
theorem dMd_meeting_49 : decode cMd_meeting 49 = .ok (.iload_n 1, 1) := by decide +kernel
theorem dMd_meeting_50 : decode cMd_meeting 50 = .ok (.imul, 1) := by decide +kernel
theorem dMd_meeting_51 : decode cMd_meeting 51 = .ok (.iload_n 2, 1) := by decide +kernel
theorem dMd_meeting_52 : decode cMd_meeting 52 = .ok (.iadd, 1) := by decide +kernel
theorem dMd_meeting_53 : decode cMd_meeting 53 = .ok (.iaload, 1) := by decide +kernel
theorem dMd_meeting_54 : decode cMd_meeting 54 = .ok (.goto 4, 3) := by decide +kernel
theorem dMd_meeting_57 : decode cMd_meeting 57 = .ok (.iconst 0, 1) := by decide +kernel
theorem dMd_meeting_58 : decode cMd_meeting 58 = .ok (.ireturn, 1) := by decide +kernel
theorem dMd_sourceOf_0 : decode cMd_sourceOf 0 = .ok (.aload_n 0, 1) := by decide +kernel
theorem dMd_sourceOf_1 : decode cMd_sourceOf 1 = .ok (.getfield 43, 3) := by decide +kernel
theorem dMd_sourceOf_4 : decode cMd_sourceOf 4 = .ok (.bipush 6, 2) := by decide +kernel
theorem dMd_sourceOf_6 : decode cMd_sourceOf 6 = .ok (.iload_n 1, 1) := by decide +kernel
theorem dMd_sourceOf_7 : decode cMd_sourceOf 7 = .ok (.imul, 1) := by decide +kernel
theorem dMd_sourceOf_8 : decode cMd_sourceOf 8 = .ok (.iload_n 2, 1) := by decide +kernel
theorem dMd_sourceOf_9 : decode cMd_sourceOf 9 = .ok (.iadd, 1) := by decide +kernel
theorem dMd_sourceOf_10 : decode cMd_sourceOf 10 = .ok (.iaload, 1) := by decide +kernel
theorem dMd_sourceOf_11 : decode cMd_sourceOf 11 = .ok (.ifCond .ge 7, 3) := by decide +kernel
theorem dMd_sourceOf_14 : decode cMd_sourceOf 14 = .ok (.iconst (-1), 1) := by decide +kernel
theorem dMd_sourceOf_15 : decode cMd_sourceOf 15 = .ok (.goto 19, 3) := by decide +kernel
theorem dMd_sourceOf_18 : decode cMd_sourceOf 18 = .ok (.aload_n 0, 1) := by decide +kernel
theorem dMd_sourceOf_19 : decode cMd_sourceOf 19 = .ok (.getfield 46, 3) := by decide +kernel
theorem dMd_sourceOf_22 : decode cMd_sourceOf 22 = .ok (.bipush 13, 2) := by decide +kernel
theorem dMd_sourceOf_24 : decode cMd_sourceOf 24 = .ok (.bipush 6, 2) := by decide +kernel
theorem dMd_sourceOf_26 : decode cMd_sourceOf 26 = .ok (.iload_n 1, 1) := by decide +kernel
theorem dMd_sourceOf_27 : decode cMd_sourceOf 27 = .ok (.imul, 1) := by decide +kernel
theorem dMd_sourceOf_28 : decode cMd_sourceOf 28 = .ok (.iload_n 2, 1) := by decide +kernel
theorem dMd_sourceOf_29 : decode cMd_sourceOf 29 = .ok (.iadd, 1) := by decide +kernel
theorem dMd_sourceOf_30 : decode cMd_sourceOf 30 = .ok (.imul, 1) := by decide +kernel
theorem dMd_sourceOf_31 : decode cMd_sourceOf 31 = .ok (.iload_n 3, 1) := by decide +kernel
theorem dMd_sourceOf_32 : decode cMd_sourceOf 32 = .ok (.iadd, 1) := by decide +kernel
theorem dMd_sourceOf_33 : decode cMd_sourceOf 33 = .ok (.iaload, 1) := by decide +kernel
theorem dMd_sourceOf_34 : decode cMd_sourceOf 34 = .ok (.ireturn, 1) := by decide +kernel
theorem dMd_source_0 : decode cMd_source 0 = .ok (.aload_n 0, 1) := by decide +kernel
theorem dMd_source_1 : decode cMd_source 1 = .ok (.aload_n 0, 1) := by decide +kernel
theorem dMd_source_2 : decode cMd_source 2 = .ok (.getfield 109, 3) := by decide +kernel
theorem dMd_source_5 : decode cMd_source 5 = .ok (.ifCond .ne 7, 3) := by decide +kernel
theorem dMd_source_8 : decode cMd_source 8 = .ok (.iconst 1, 1) := by decide +kernel
theorem dMd_source_9 : decode cMd_source 9 = .ok (.goto 36, 3) := by decide +kernel
theorem dMd_source_12 : decode cMd_source 12 = .ok (.aload_n 0, 1) := by decide +kernel
theorem dMd_source_13 : decode cMd_source 13 = .ok (.iload_n 1, 1) := by decide +kernel
theorem dMd_source_14 : decode cMd_source 14 = .ok (.invokevirtual 102, 3) := by decide +kernel
theorem dMd_source_17 : decode cMd_source 17 = .ok (.ifCond .ne 23, 3) := by decide +kernel
theorem dMd_source_20 : decode cMd_source 20 = .ok (.aload_n 0, 1) := by decide +kernel
theorem dMd_source_21 : decode cMd_source 21 = .ok (.iload_n 2, 1) := by decide +kernel
theorem dMd_source_22 : decode cMd_source 22 = .ok (.invokevirtual 106, 3) := by decide +kernel
theorem dMd_source_25 : decode cMd_source 25 = .ok (.ifCond .ne 15, 3) := by decide +kernel
theorem dMd_source_28 : decode cMd_source 28 = .ok (.iload_n 3, 1) := by decide +kernel
theorem dMd_source_29 : decode cMd_source 29 = .ok (.ifCond .lt 11, 3) := by decide +kernel
theorem dMd_source_32 : decode cMd_source 32 = .ok (.iload_n 3, 1) := by decide +kernel
theorem dMd_source_33 : decode cMd_source 33 = .ok (.aload_n 0, 1) := by decide +kernel
theorem dMd_source_34 : decode cMd_source 34 = .ok (.getfield 95, 3) := by decide +kernel
theorem dMd_source_37 : decode cMd_source 37 = .ok (.if_icmp .le 7, 3) := by decide +kernel
theorem dMd_source_40 : decode cMd_source 40 = .ok (.iconst 2, 1) := by decide +kernel
theorem dMd_source_41 : decode cMd_source 41 = .ok (.goto 4, 3) := by decide +kernel
theorem dMd_source_44 : decode cMd_source 44 = .ok (.iconst 0, 1) := by decide +kernel
theorem dMd_source_45 : decode cMd_source 45 = .ok (.putfield 99, 3) := by decide +kernel
theorem dMd_source_48 : decode cMd_source 48 = .ok (.aload_n 0, 1) := by decide +kernel
theorem dMd_source_49 : decode cMd_source 49 = .ok (.getfield 99, 3) := by decide +kernel
theorem dMd_source_52 : decode cMd_source 52 = .ok (.ifCond .ne 13, 3) := by decide +kernel
theorem dMd_source_55 : decode cMd_source 55 = .ok (.aload_n 0, 1) := by decide +kernel
theorem dMd_source_56 : decode cMd_source 56 = .ok (.iload_n 1, 1) := by decide +kernel
theorem dMd_source_57 : decode cMd_source 57 = .ok (.iload_n 2, 1) := by decide +kernel
theorem dMd_source_58 : decode cMd_source 58 = .ok (.iload_n 3, 1) := by decide +kernel
theorem dMd_source_59 : decode cMd_source 59 = .ok (.invokevirtual 176, 3) := by decide +kernel
theorem dMd_source_62 : decode cMd_source 62 = .ok (.goto 4, 3) := by decide +kernel
theorem dMd_source_65 : decode cMd_source 65 = .ok (.iconst 0, 1) := by decide +kernel
theorem dMd_source_66 : decode cMd_source 66 = .ok (.ireturn, 1) := by decide +kernel
theorem dMd_noStep_0 : decode cMd_noStep 0 = .ok (.aload_n 0, 1) := by decide +kernel
theorem dMd_noStep_1 : decode cMd_noStep 1 = .ok (.iload_n 1, 1) := by decide +kernel
theorem dMd_noStep_2 : decode cMd_noStep 2 = .ok (.invokevirtual 102, 3) := by decide +kernel
theorem dMd_noStep_5 : decode cMd_noStep 5 = .ok (.ifCond .ne 17, 3) := by decide +kernel
theorem dMd_noStep_8 : decode cMd_noStep 8 = .ok (.iload_n 2, 1) := by decide +kernel
theorem dMd_noStep_9 : decode cMd_noStep 9 = .ok (.ifCond .lt 13, 3) := by decide +kernel
theorem dMd_noStep_12 : decode cMd_noStep 12 = .ok (.iload_n 2, 1) := by decide +kernel
theorem dMd_noStep_13 : decode cMd_noStep 13 = .ok (.aload_n 0, 1) := by decide +kernel
theorem dMd_noStep_14 : decode cMd_noStep 14 = .ok (.getfield 7, 3) := by decide +kernel
theorem dMd_noStep_17 : decode cMd_noStep 17 = .ok (.iload_n 1, 1) := by decide +kernel
theorem dMd_noStep_18 : decode cMd_noStep 18 = .ok (.iaload, 1) := by decide +kernel
theorem dMd_noStep_19 : decode cMd_noStep 19 = .ok (.if_icmp .lt 7, 3) := by decide +kernel
theorem dMd_noStep_22 : decode cMd_noStep 22 = .ok (.iconst 1, 1) := by decide +kernel
theorem dMd_noStep_23 : decode cMd_noStep 23 = .ok (.goto 4, 3) := by decide +kernel
theorem dMd_noStep_26 : decode cMd_noStep 26 = .ok (.iconst 0, 1) := by decide +kernel
theorem dMd_noStep_27 : decode cMd_noStep 27 = .ok (.ireturn, 1) := by decide +kernel
theorem dMd_sets_0 : decode cMd_sets 0 = .ok (.aload_n 0, 1) := by decide +kernel
theorem dMd_sets_1 : decode cMd_sets 1 = .ok (.aload_n 0, 1) := by decide +kernel
theorem dMd_sets_2 : decode cMd_sets 2 = .ok (.getfield 109, 3) := by decide +kernel
theorem dMd_sets_5 : decode cMd_sets 5 = .ok (.ifCond .ne 7, 3) := by decide +kernel
theorem dMd_sets_8 : decode cMd_sets 8 = .ok (.iconst 1, 1) := by decide +kernel
theorem dMd_sets_9 : decode cMd_sets 9 = .ok (.goto 17, 3) := by decide +kernel
theorem dMd_sets_12 : decode cMd_sets 12 = .ok (.aload_n 0, 1) := by decide +kernel
theorem dMd_sets_13 : decode cMd_sets 13 = .ok (.iload_n 1, 1) := by decide +kernel
theorem dMd_sets_14 : decode cMd_sets 14 = .ok (.iload_n 2, 1) := by decide +kernel
theorem dMd_sets_15 : decode cMd_sets 15 = .ok (.invokevirtual 179, 3) := by decide +kernel
theorem dMd_sets_18 : decode cMd_sets 18 = .ok (.ifCond .eq 7, 3) := by decide +kernel
theorem dMd_sets_21 : decode cMd_sets 21 = .ok (.iconst 2, 1) := by decide +kernel
theorem dMd_sets_22 : decode cMd_sets 22 = .ok (.goto 4, 3) := by decide +kernel
theorem dMd_sets_25 : decode cMd_sets 25 = .ok (.iconst 0, 1) := by decide +kernel
theorem dMd_sets_26 : decode cMd_sets 26 = .ok (.putfield 99, 3) := by decide +kernel
theorem dMd_sets_29 : decode cMd_sets 29 = .ok (.aload_n 0, 1) := by decide +kernel
theorem dMd_sets_30 : decode cMd_sets 30 = .ok (.getfield 99, 3) := by decide +kernel
theorem dMd_sets_33 : decode cMd_sets 33 = .ok (.ifCond .ne 17, 3) := by decide +kernel
theorem dMd_sets_36 : decode cMd_sets 36 = .ok (.aload_n 0, 1) := by decide +kernel
theorem dMd_sets_37 : decode cMd_sets 37 = .ok (.getfield 49, 3) := by decide +kernel
theorem dMd_sets_40 : decode cMd_sets 40 = .ok (.bipush 6, 2) := by decide +kernel
theorem dMd_sets_42 : decode cMd_sets 42 = .ok (.iload_n 1, 1) := by decide +kernel
theorem dMd_sets_43 : decode cMd_sets 43 = .ok (.imul, 1) := by decide +kernel
theorem dMd_sets_44 : decode cMd_sets 44 = .ok (.iload_n 2, 1) := by decide +kernel
theorem dMd_sets_45 : decode cMd_sets 45 = .ok (.iadd, 1) := by decide +kernel
theorem dMd_sets_46 : decode cMd_sets 46 = .ok (.iaload, 1) := by decide +kernel
theorem dMd_sets_47 : decode cMd_sets 47 = .ok (.goto 4, 3) := by decide +kernel
theorem dMd_sets_50 : decode cMd_sets 50 = .ok (.iconst 0, 1) := by decide +kernel
theorem dMd_sets_51 : decode cMd_sets 51 = .ok (.ireturn, 1) := by decide +kernel
theorem dMd_noUse_0 : decode cMd_noUse 0 = .ok (.aload_n 0, 1) := by decide +kernel
theorem dMd_noUse_1 : decode cMd_noUse 1 = .ok (.iload_n 1, 1) := by decide +kernel
theorem dMd_noUse_2 : decode cMd_noUse 2 = .ok (.invokevirtual 102, 3) := by decide +kernel
theorem dMd_noUse_5 : decode cMd_noUse 5 = .ok (.ifCond .ne 26, 3) := by decide +kernel
theorem dMd_noUse_8 : decode cMd_noUse 8 = .ok (.iload_n 2, 1) := by decide +kernel
theorem dMd_noUse_9 : decode cMd_noUse 9 = .ok (.iconst (-1), 1) := by decide +kernel
theorem dMd_noUse_10 : decode cMd_noUse 10 = .ok (.if_icmp .eq 25, 3) := by decide +kernel
theorem dMd_noUse_13 : decode cMd_noUse 13 = .ok (.aload_n 0, 1) := by decide +kernel
theorem dMd_noUse_14 : decode cMd_noUse 14 = .ok (.iload_n 1, 1) := by decide +kernel
theorem dMd_noUse_15 : decode cMd_noUse 15 = .ok (.iload_n 2, 1) := by decide +kernel
theorem dMd_noUse_16 : decode cMd_noUse 16 = .ok (.invokevirtual 179, 3) := by decide +kernel
theorem dMd_noUse_19 : decode cMd_noUse 19 = .ok (.ifCond .ne 12, 3) := by decide +kernel
theorem dMd_noUse_22 : decode cMd_noUse 22 = .ok (.iload_n 3, 1) := by decide +kernel
theorem dMd_noUse_23 : decode cMd_noUse 23 = .ok (.ifCond .lt 8, 3) := by decide +kernel
theorem dMd_noUse_26 : decode cMd_noUse 26 = .ok (.iload_n 3, 1) := by decide +kernel
theorem dMd_noUse_27 : decode cMd_noUse 27 = .ok (.iconst 1, 1) := by decide +kernel
theorem dMd_noUse_28 : decode cMd_noUse 28 = .ok (.if_icmp .le 7, 3) := by decide +kernel
theorem dMd_noUse_31 : decode cMd_noUse 31 = .ok (.iconst 1, 1) := by decide +kernel
theorem dMd_noUse_32 : decode cMd_noUse 32 = .ok (.goto 4, 3) := by decide +kernel
theorem dMd_noUse_35 : decode cMd_noUse 35 = .ok (.iconst 0, 1) := by decide +kernel
theorem dMd_noUse_36 : decode cMd_noUse 36 = .ok (.ireturn, 1) := by decide +kernel
theorem dMd_useOf_0 : decode cMd_useOf 0 = .ok (.iload_n 2, 1) := by decide +kernel
theorem dMd_useOf_1 : decode cMd_useOf 1 = .ok (.iconst (-1), 1) := by decide +kernel
theorem dMd_useOf_2 : decode cMd_useOf 2 = .ok (.if_icmp .ne 12, 3) := by decide +kernel
theorem dMd_useOf_5 : decode cMd_useOf 5 = .ok (.aload_n 0, 1) := by decide +kernel
theorem dMd_useOf_6 : decode cMd_useOf 6 = .ok (.getfield 58, 3) := by decide +kernel
theorem dMd_useOf_9 : decode cMd_useOf 9 = .ok (.iload_n 1, 1) := by decide +kernel
theorem dMd_useOf_10 : decode cMd_useOf 10 = .ok (.iaload, 1) := by decide +kernel
theorem dMd_useOf_11 : decode cMd_useOf 11 = .ok (.goto 32, 3) := by decide +kernel
theorem dMd_useOf_14 : decode cMd_useOf 14 = .ok (.iload_n 3, 1) := by decide +kernel
theorem dMd_useOf_15 : decode cMd_useOf 15 = .ok (.ifCond .ne 17, 3) := by decide +kernel
theorem dMd_useOf_18 : decode cMd_useOf 18 = .ok (.aload_n 0, 1) := by decide +kernel
theorem dMd_useOf_19 : decode cMd_useOf 19 = .ok (.getfield 52, 3) := by decide +kernel
theorem dMd_useOf_22 : decode cMd_useOf 22 = .ok (.bipush 6, 2) := by decide +kernel
theorem dMd_useOf_24 : decode cMd_useOf 24 = .ok (.iload_n 1, 1) := by decide +kernel
theorem dMd_useOf_25 : decode cMd_useOf 25 = .ok (.imul, 1) := by decide +kernel
theorem dMd_useOf_26 : decode cMd_useOf 26 = .ok (.iload_n 2, 1) := by decide +kernel
theorem dMd_useOf_27 : decode cMd_useOf 27 = .ok (.iadd, 1) := by decide +kernel
theorem dMd_useOf_28 : decode cMd_useOf 28 = .ok (.iaload, 1) := by decide +kernel
theorem dMd_useOf_29 : decode cMd_useOf 29 = .ok (.goto 14, 3) := by decide +kernel
theorem dMd_useOf_32 : decode cMd_useOf 32 = .ok (.aload_n 0, 1) := by decide +kernel
theorem dMd_useOf_33 : decode cMd_useOf 33 = .ok (.getfield 55, 3) := by decide +kernel
theorem dMd_useOf_36 : decode cMd_useOf 36 = .ok (.bipush 6, 2) := by decide +kernel
theorem dMd_useOf_38 : decode cMd_useOf 38 = .ok (.iload_n 1, 1) := by decide +kernel
theorem dMd_useOf_39 : decode cMd_useOf 39 = .ok (.imul, 1) := by decide +kernel
theorem dMd_useOf_40 : decode cMd_useOf 40 = .ok (.iload_n 2, 1) := by decide +kernel
theorem dMd_useOf_41 : decode cMd_useOf 41 = .ok (.iadd, 1) := by decide +kernel
theorem dMd_useOf_42 : decode cMd_useOf 42 = .ok (.iaload, 1) := by decide +kernel
theorem dMd_useOf_43 : decode cMd_useOf 43 = .ok (.ireturn, 1) := by decide +kernel
theorem dMd_use_0 : decode cMd_use 0 = .ok (.aload_n 0, 1) := by decide +kernel
theorem dMd_use_1 : decode cMd_use 1 = .ok (.aload_n 0, 1) := by decide +kernel
theorem dMd_use_2 : decode cMd_use 2 = .ok (.getfield 109, 3) := by decide +kernel
theorem dMd_use_5 : decode cMd_use 5 = .ok (.ifCond .ne 7, 3) := by decide +kernel
theorem dMd_use_8 : decode cMd_use 8 = .ok (.iconst 1, 1) := by decide +kernel
theorem dMd_use_9 : decode cMd_use 9 = .ok (.goto 18, 3) := by decide +kernel
theorem dMd_use_12 : decode cMd_use 12 = .ok (.aload_n 0, 1) := by decide +kernel
theorem dMd_use_13 : decode cMd_use 13 = .ok (.iload_n 1, 1) := by decide +kernel
theorem dMd_use_14 : decode cMd_use 14 = .ok (.iload_n 2, 1) := by decide +kernel
theorem dMd_use_15 : decode cMd_use 15 = .ok (.iload_n 3, 1) := by decide +kernel
theorem dMd_use_16 : decode cMd_use 16 = .ok (.invokevirtual 182, 3) := by decide +kernel
theorem dMd_use_19 : decode cMd_use 19 = .ok (.ifCond .eq 7, 3) := by decide +kernel
theorem dMd_use_22 : decode cMd_use 22 = .ok (.iconst 2, 1) := by decide +kernel
theorem dMd_use_23 : decode cMd_use 23 = .ok (.goto 4, 3) := by decide +kernel
theorem dMd_use_26 : decode cMd_use 26 = .ok (.iconst 0, 1) := by decide +kernel
theorem dMd_use_27 : decode cMd_use 27 = .ok (.putfield 99, 3) := by decide +kernel
theorem dMd_use_30 : decode cMd_use 30 = .ok (.aload_n 0, 1) := by decide +kernel
theorem dMd_use_31 : decode cMd_use 31 = .ok (.getfield 99, 3) := by decide +kernel
theorem dMd_use_34 : decode cMd_use 34 = .ok (.ifCond .ne 13, 3) := by decide +kernel
theorem dMd_use_37 : decode cMd_use 37 = .ok (.aload_n 0, 1) := by decide +kernel
theorem dMd_use_38 : decode cMd_use 38 = .ok (.iload_n 1, 1) := by decide +kernel
theorem dMd_use_39 : decode cMd_use 39 = .ok (.iload_n 2, 1) := by decide +kernel
theorem dMd_use_40 : decode cMd_use 40 = .ok (.iload_n 3, 1) := by decide +kernel
theorem dMd_use_41 : decode cMd_use 41 = .ok (.invokevirtual 185, 3) := by decide +kernel
theorem dMd_use_44 : decode cMd_use 44 = .ok (.goto 4, 3) := by decide +kernel
theorem dMd_use_47 : decode cMd_use 47 = .ok (.iconst 0, 1) := by decide +kernel
theorem dMd_use_48 : decode cMd_use 48 = .ok (.ireturn, 1) := by decide +kernel
theorem dMd_noName_0 : decode cMd_noName 0 = .ok (.iload_n 1, 1) := by decide +kernel
theorem dMd_noName_1 : decode cMd_noName 1 = .ok (.ifCond .lt 19, 3) := by decide +kernel
theorem dMd_noName_4 : decode cMd_noName 4 = .ok (.iload_n 1, 1) := by decide +kernel
theorem dMd_noName_5 : decode cMd_noName 5 = .ok (.sipush 599, 3) := by decide +kernel
theorem dMd_noName_8 : decode cMd_noName 8 = .ok (.if_icmp .gt 12, 3) := by decide +kernel
theorem dMd_noName_11 : decode cMd_noName 11 = .ok (.aload_n 0, 1) := by decide +kernel
theorem dMd_noName_12 : decode cMd_noName 12 = .ok (.getfield 65, 3) := by decide +kernel
theorem dMd_noName_15 : decode cMd_noName 15 = .ok (.iload_n 1, 1) := by decide +kernel
theorem dMd_noName_16 : decode cMd_noName 16 = .ok (.baload, 1) := by decide +kernel
theorem dMd_noName_17 : decode cMd_noName 17 = .ok (.ifCond .ne 7, 3) := by decide +kernel
theorem dMd_noName_20 : decode cMd_noName 20 = .ok (.iconst 1, 1) := by decide +kernel
theorem dMd_noName_21 : decode cMd_noName 21 = .ok (.goto 4, 3) := by decide +kernel
theorem dMd_noName_24 : decode cMd_noName 24 = .ok (.iconst 0, 1) := by decide +kernel
theorem dMd_noName_25 : decode cMd_noName 25 = .ok (.ireturn, 1) := by decide +kernel
theorem dMd_alter_0 : decode cMd_alter 0 = .ok (.aload_n 0, 1) := by decide +kernel
theorem dMd_alter_1 : decode cMd_alter 1 = .ok (.aload_n 0, 1) := by decide +kernel
theorem dMd_alter_2 : decode cMd_alter 2 = .ok (.getfield 109, 3) := by decide +kernel
theorem dMd_alter_5 : decode cMd_alter 5 = .ok (.ifCond .ne 7, 3) := by decide +kernel
theorem dMd_alter_8 : decode cMd_alter 8 = .ok (.iconst 1, 1) := by decide +kernel
theorem dMd_alter_9 : decode cMd_alter 9 = .ok (.goto 41, 3) := by decide +kernel
theorem dMd_alter_12 : decode cMd_alter 12 = .ok (.aload_n 0, 1) := by decide +kernel
theorem dMd_alter_13 : decode cMd_alter 13 = .ok (.iload_n 1, 1) := by decide +kernel
theorem dMd_alter_14 : decode cMd_alter 14 = .ok (.iload_n 2, 1) := by decide +kernel
theorem dMd_alter_15 : decode cMd_alter 15 = .ok (.iload_n 3, 1) := by decide +kernel
theorem dMd_alter_16 : decode cMd_alter 16 = .ok (.invokevirtual 182, 3) := by decide +kernel
theorem dMd_alter_19 : decode cMd_alter 19 = .ok (.ifCond .eq 7, 3) := by decide +kernel
theorem dMd_alter_22 : decode cMd_alter 22 = .ok (.iconst 2, 1) := by decide +kernel
theorem dMd_alter_23 : decode cMd_alter 23 = .ok (.goto 27, 3) := by decide +kernel
theorem dMd_alter_26 : decode cMd_alter 26 = .ok (.aload_n 0, 1) := by decide +kernel
theorem dMd_alter_27 : decode cMd_alter 27 = .ok (.iload_n 1, 1) := by decide +kernel
theorem dMd_alter_28 : decode cMd_alter 28 = .ok (.iload_n 2, 1) := by decide +kernel
theorem dMd_alter_29 : decode cMd_alter 29 = .ok (.iload_n 3, 1) := by decide +kernel
theorem dMd_alter_30 : decode cMd_alter 30 = .ok (.invokevirtual 185, 3) := by decide +kernel
theorem dMd_alter_33 : decode cMd_alter 33 = .ok (.ifCond .lt 12, 3) := by decide +kernel
theorem dMd_alter_36 : decode cMd_alter 36 = .ok (.aload_n 0, 1) := by decide +kernel
theorem dMd_alter_37 : decode cMd_alter 37 = .ok (.iload 4, 2) := by decide +kernel
theorem dMd_alter_39 : decode cMd_alter 39 = .ok (.invokevirtual 188, 3) := by decide +kernel
theorem dMd_alter_42 : decode cMd_alter 42 = .ok (.ifCond .eq 7, 3) := by decide +kernel
theorem dMd_alter_45 : decode cMd_alter 45 = .ok (.iconst 2, 1) := by decide +kernel
theorem dMd_alter_46 : decode cMd_alter 46 = .ok (.goto 4, 3) := by decide +kernel
theorem dMd_alter_49 : decode cMd_alter 49 = .ok (.iconst 0, 1) := by decide +kernel
theorem dMd_alter_50 : decode cMd_alter 50 = .ok (.putfield 99, 3) := by decide +kernel
theorem dMd_alter_53 : decode cMd_alter 53 = .ok (.aload_n 0, 1) := by decide +kernel
theorem dMd_alter_54 : decode cMd_alter 54 = .ok (.getfield 99, 3) := by decide +kernel
theorem dMd_alter_57 : decode cMd_alter 57 = .ok (.ifCond .eq 4, 3) := by decide +kernel
theorem dMd_alter_60 : decode cMd_alter 60 = .ok (.return_, 1) := by decide +kernel
theorem dMd_alter_61 : decode cMd_alter 61 = .ok (.iload_n 2, 1) := by decide +kernel
theorem dMd_alter_62 : decode cMd_alter 62 = .ok (.iconst (-1), 1) := by decide +kernel
theorem dMd_alter_63 : decode cMd_alter 63 = .ok (.if_icmp .ne 14, 3) := by decide +kernel
theorem dMd_alter_66 : decode cMd_alter 66 = .ok (.aload_n 0, 1) := by decide +kernel
theorem dMd_alter_67 : decode cMd_alter 67 = .ok (.getfield 58, 3) := by decide +kernel
theorem dMd_alter_70 : decode cMd_alter 70 = .ok (.iload_n 1, 1) := by decide +kernel
theorem dMd_alter_71 : decode cMd_alter 71 = .ok (.iload 4, 2) := by decide +kernel
theorem dMd_alter_73 : decode cMd_alter 73 = .ok (.iastore, 1) := by decide +kernel
theorem dMd_alter_74 : decode cMd_alter 74 = .ok (.goto 36, 3) := by decide +kernel
theorem dMd_alter_77 : decode cMd_alter 77 = .ok (.iload_n 3, 1) := by decide +kernel
theorem dMd_alter_78 : decode cMd_alter 78 = .ok (.ifCond .ne 19, 3) := by decide +kernel
theorem dMd_alter_81 : decode cMd_alter 81 = .ok (.aload_n 0, 1) := by decide +kernel
theorem dMd_alter_82 : decode cMd_alter 82 = .ok (.getfield 52, 3) := by decide +kernel
theorem dMd_alter_85 : decode cMd_alter 85 = .ok (.bipush 6, 2) := by decide +kernel
theorem dMd_alter_87 : decode cMd_alter 87 = .ok (.iload_n 1, 1) := by decide +kernel
theorem dMd_alter_88 : decode cMd_alter 88 = .ok (.imul, 1) := by decide +kernel
theorem dMd_alter_89 : decode cMd_alter 89 = .ok (.iload_n 2, 1) := by decide +kernel
theorem dMd_alter_90 : decode cMd_alter 90 = .ok (.iadd, 1) := by decide +kernel
theorem dMd_alter_91 : decode cMd_alter 91 = .ok (.iload 4, 2) := by decide +kernel
theorem dMd_alter_93 : decode cMd_alter 93 = .ok (.iastore, 1) := by decide +kernel
theorem dMd_alter_94 : decode cMd_alter 94 = .ok (.goto 16, 3) := by decide +kernel
theorem dMd_alter_97 : decode cMd_alter 97 = .ok (.aload_n 0, 1) := by decide +kernel
theorem dMd_alter_98 : decode cMd_alter 98 = .ok (.getfield 55, 3) := by decide +kernel
theorem dMd_alter_101 : decode cMd_alter 101 = .ok (.bipush 6, 2) := by decide +kernel
theorem dMd_alter_103 : decode cMd_alter 103 = .ok (.iload_n 1, 1) := by decide +kernel
theorem dMd_alter_104 : decode cMd_alter 104 = .ok (.imul, 1) := by decide +kernel
theorem dMd_alter_105 : decode cMd_alter 105 = .ok (.iload_n 2, 1) := by decide +kernel
theorem dMd_alter_106 : decode cMd_alter 106 = .ok (.iadd, 1) := by decide +kernel
theorem dMd_alter_107 : decode cMd_alter 107 = .ok (.iload 4, 2) := by decide +kernel
theorem dMd_alter_109 : decode cMd_alter 109 = .ok (.iastore, 1) := by decide +kernel
theorem dMd_alter_110 : decode cMd_alter 110 = .ok (.return_, 1) := by decide +kernel
theorem dMd_turn_0 : decode cMd_turn 0 = .ok (.aload_n 0, 1) := by decide +kernel
theorem dMd_turn_1 : decode cMd_turn 1 = .ok (.aload_n 0, 1) := by decide +kernel
theorem dMd_turn_2 : decode cMd_turn 2 = .ok (.getfield 109, 3) := by decide +kernel
theorem dMd_turn_5 : decode cMd_turn 5 = .ok (.ifCond .ne 7, 3) := by decide +kernel
theorem dMd_turn_8 : decode cMd_turn 8 = .ok (.iconst 1, 1) := by decide +kernel
theorem dMd_turn_9 : decode cMd_turn 9 = .ok (.goto 59, 3) := by decide +kernel
theorem dMd_turn_12 : decode cMd_turn 12 = .ok (.aload_n 0, 1) := by decide +kernel
theorem dMd_turn_13 : decode cMd_turn 13 = .ok (.iload_n 1, 1) := by decide +kernel
theorem dMd_turn_14 : decode cMd_turn 14 = .ok (.invokevirtual 102, 3) := by decide +kernel
theorem dMd_turn_17 : decode cMd_turn 17 = .ok (.ifCond .ne 23, 3) := by decide +kernel
theorem dMd_turn_20 : decode cMd_turn 20 = .ok (.aload_n 0, 1) := by decide +kernel
theorem dMd_turn_21 : decode cMd_turn 21 = .ok (.iload_n 2, 1) := by decide +kernel
theorem dMd_turn_22 : decode cMd_turn 22 = .ok (.invokevirtual 106, 3) := by decide +kernel
theorem dMd_turn_25 : decode cMd_turn 25 = .ok (.ifCond .ne 15, 3) := by decide +kernel
theorem dMd_turn_28 : decode cMd_turn 28 = .ok (.iload_n 3, 1) := by decide +kernel
theorem dMd_turn_29 : decode cMd_turn 29 = .ok (.ifCond .lt 11, 3) := by decide +kernel
theorem dMd_turn_32 : decode cMd_turn 32 = .ok (.iload_n 3, 1) := by decide +kernel
theorem dMd_turn_33 : decode cMd_turn 33 = .ok (.aload_n 0, 1) := by decide +kernel
theorem dMd_turn_34 : decode cMd_turn 34 = .ok (.getfield 95, 3) := by decide +kernel
theorem dMd_turn_37 : decode cMd_turn 37 = .ok (.if_icmp .le 7, 3) := by decide +kernel
theorem dMd_turn_40 : decode cMd_turn 40 = .ok (.iconst 2, 1) := by decide +kernel
theorem dMd_turn_41 : decode cMd_turn 41 = .ok (.goto 27, 3) := by decide +kernel
theorem dMd_turn_44 : decode cMd_turn 44 = .ok (.aload_n 0, 1) := by decide +kernel
theorem dMd_turn_45 : decode cMd_turn 45 = .ok (.iload_n 1, 1) := by decide +kernel
theorem dMd_turn_46 : decode cMd_turn 46 = .ok (.iload_n 2, 1) := by decide +kernel
theorem dMd_turn_47 : decode cMd_turn 47 = .ok (.iload_n 3, 1) := by decide +kernel
theorem dMd_turn_48 : decode cMd_turn 48 = .ok (.invokevirtual 176, 3) := by decide +kernel
theorem dMd_turn_51 : decode cMd_turn 51 = .ok (.ifCond .lt 12, 3) := by decide +kernel
theorem dMd_turn_54 : decode cMd_turn 54 = .ok (.aload_n 0, 1) := by decide +kernel
theorem dMd_turn_55 : decode cMd_turn 55 = .ok (.iload 4, 2) := by decide +kernel
theorem dMd_turn_57 : decode cMd_turn 57 = .ok (.invokevirtual 188, 3) := by decide +kernel
theorem dMd_turn_60 : decode cMd_turn 60 = .ok (.ifCond .eq 7, 3) := by decide +kernel
theorem dMd_turn_63 : decode cMd_turn 63 = .ok (.iconst 2, 1) := by decide +kernel
theorem dMd_turn_64 : decode cMd_turn 64 = .ok (.goto 4, 3) := by decide +kernel
theorem dMd_turn_67 : decode cMd_turn 67 = .ok (.iconst 0, 1) := by decide +kernel
theorem dMd_turn_68 : decode cMd_turn 68 = .ok (.putfield 99, 3) := by decide +kernel
theorem dMd_turn_71 : decode cMd_turn 71 = .ok (.aload_n 0, 1) := by decide +kernel
theorem dMd_turn_72 : decode cMd_turn 72 = .ok (.getfield 99, 3) := by decide +kernel
theorem dMd_turn_75 : decode cMd_turn 75 = .ok (.ifCond .ne 21, 3) := by decide +kernel
theorem dMd_turn_78 : decode cMd_turn 78 = .ok (.aload_n 0, 1) := by decide +kernel
theorem dMd_turn_79 : decode cMd_turn 79 = .ok (.getfield 46, 3) := by decide +kernel
theorem dMd_turn_82 : decode cMd_turn 82 = .ok (.bipush 13, 2) := by decide +kernel
theorem dMd_turn_84 : decode cMd_turn 84 = .ok (.bipush 6, 2) := by decide +kernel
theorem dMd_turn_86 : decode cMd_turn 86 = .ok (.iload_n 1, 1) := by decide +kernel
theorem dMd_turn_87 : decode cMd_turn 87 = .ok (.imul, 1) := by decide +kernel
theorem dMd_turn_88 : decode cMd_turn 88 = .ok (.iload_n 2, 1) := by decide +kernel
theorem dMd_turn_89 : decode cMd_turn 89 = .ok (.iadd, 1) := by decide +kernel
theorem dMd_turn_90 : decode cMd_turn 90 = .ok (.imul, 1) := by decide +kernel
theorem dMd_turn_91 : decode cMd_turn 91 = .ok (.iload_n 3, 1) := by decide +kernel
theorem dMd_turn_92 : decode cMd_turn 92 = .ok (.iadd, 1) := by decide +kernel
theorem dMd_turn_93 : decode cMd_turn 93 = .ok (.iload 4, 2) := by decide +kernel
theorem dMd_turn_95 : decode cMd_turn 95 = .ok (.iastore, 1) := by decide +kernel
theorem dMd_turn_96 : decode cMd_turn 96 = .ok (.return_, 1) := by decide +kernel
theorem dMd_meetingWith_0 : decode cMd_meetingWith 0 = .ok (.iconst 0, 1) := by decide +kernel
theorem dMd_meetingWith_1 : decode cMd_meetingWith 1 = .ok (.istore_n 3, 1) := by decide +kernel
theorem dMd_meetingWith_2 : decode cMd_meetingWith 2 = .ok (.iload_n 3, 1) := by decide +kernel
theorem dMd_meetingWith_3 : decode cMd_meetingWith 3 = .ok (.bipush 6, 2) := by decide +kernel
theorem dMd_meetingWith_5 : decode cMd_meetingWith 5 = .ok (.if_icmp .ge 26, 3) := by decide +kernel
theorem dMd_meetingWith_8 : decode cMd_meetingWith 8 = .ok (.aload_n 0, 1) := by decide +kernel
theorem dMd_meetingWith_9 : decode cMd_meetingWith 9 = .ok (.getfield 43, 3) := by decide +kernel
theorem dMd_meetingWith_12 : decode cMd_meetingWith 12 = .ok (.bipush 6, 2) := by decide +kernel
theorem dMd_meetingWith_14 : decode cMd_meetingWith 14 = .ok (.iload_n 1, 1) := by decide +kernel
theorem dMd_meetingWith_15 : decode cMd_meetingWith 15 = .ok (.imul, 1) := by decide +kernel
theorem dMd_meetingWith_16 : decode cMd_meetingWith 16 = .ok (.iload_n 3, 1) := by decide +kernel
theorem dMd_meetingWith_17 : decode cMd_meetingWith 17 = .ok (.iadd, 1) := by decide +kernel
theorem dMd_meetingWith_18 : decode cMd_meetingWith 18 = .ok (.iaload, 1) := by decide +kernel
theorem dMd_meetingWith_19 : decode cMd_meetingWith 19 = .ok (.iload_n 2, 1) := by decide +kernel
theorem dMd_meetingWith_20 : decode cMd_meetingWith 20 = .ok (.if_icmp .ne 5, 3) := by decide +kernel
theorem dMd_meetingWith_23 : decode cMd_meetingWith 23 = .ok (.iload_n 3, 1) := by decide +kernel
theorem dMd_meetingWith_24 : decode cMd_meetingWith 24 = .ok (.ireturn, 1) := by decide +kernel
theorem dMd_meetingWith_25 : decode cMd_meetingWith 25 = .ok (.iinc 3 1, 3) := by decide +kernel
theorem dMd_meetingWith_28 : decode cMd_meetingWith 28 = .ok (.goto (-26), 3) := by decide +kernel
theorem dMd_meetingWith_31 : decode cMd_meetingWith 31 = .ok (.iconst (-1), 1) := by decide +kernel
theorem dMd_meetingWith_32 : decode cMd_meetingWith 32 = .ok (.ireturn, 1) := by decide +kernel
theorem dMd_copies_0 : decode cMd_copies 0 = .ok (.aload_n 0, 1) := by decide +kernel
theorem dMd_copies_1 : decode cMd_copies 1 = .ok (.aload_n 0, 1) := by decide +kernel
theorem dMd_copies_2 : decode cMd_copies 2 = .ok (.getfield 109, 3) := by decide +kernel
theorem dMd_copies_5 : decode cMd_copies 5 = .ok (.ifCond .ne 7, 3) := by decide +kernel
theorem dMd_copies_8 : decode cMd_copies 8 = .ok (.iconst 1, 1) := by decide +kernel
theorem dMd_copies_9 : decode cMd_copies 9 = .ok (.goto 28, 3) := by decide +kernel
theorem dMd_copies_12 : decode cMd_copies 12 = .ok (.aload_n 0, 1) := by decide +kernel
theorem dMd_copies_13 : decode cMd_copies 13 = .ok (.iload_n 1, 1) := by decide +kernel
theorem dMd_copies_14 : decode cMd_copies 14 = .ok (.invokevirtual 102, 3) := by decide +kernel
theorem dMd_copies_17 : decode cMd_copies 17 = .ok (.ifCond .ne 15, 3) := by decide +kernel
theorem dMd_copies_20 : decode cMd_copies 20 = .ok (.iload_n 2, 1) := by decide +kernel
theorem dMd_copies_21 : decode cMd_copies 21 = .ok (.ifCond .lt 11, 3) := by decide +kernel
theorem dMd_copies_24 : decode cMd_copies 24 = .ok (.iload_n 2, 1) := by decide +kernel
theorem dMd_copies_25 : decode cMd_copies 25 = .ok (.aload_n 0, 1) := by decide +kernel
theorem dMd_copies_26 : decode cMd_copies 26 = .ok (.getfield 95, 3) := by decide +kernel
theorem dMd_copies_29 : decode cMd_copies 29 = .ok (.if_icmp .le 7, 3) := by decide +kernel
theorem dMd_copies_32 : decode cMd_copies 32 = .ok (.iconst 2, 1) := by decide +kernel
theorem dMd_copies_33 : decode cMd_copies 33 = .ok (.goto 4, 3) := by decide +kernel
theorem dMd_copies_36 : decode cMd_copies 36 = .ok (.iconst 0, 1) := by decide +kernel
theorem dMd_copies_37 : decode cMd_copies 37 = .ok (.putfield 99, 3) := by decide +kernel
theorem dMd_copies_40 : decode cMd_copies 40 = .ok (.aload_n 0, 1) := by decide +kernel
theorem dMd_copies_41 : decode cMd_copies 41 = .ok (.getfield 99, 3) := by decide +kernel
theorem dMd_copies_44 : decode cMd_copies 44 = .ok (.ifCond .eq 5, 3) := by decide +kernel
theorem dMd_copies_47 : decode cMd_copies 47 = .ok (.iconst 0, 1) := by decide +kernel
theorem dMd_copies_48 : decode cMd_copies 48 = .ok (.ireturn, 1) := by decide +kernel
theorem dMd_copies_49 : decode cMd_copies 49 = .ok (.iconst 0, 1) := by decide +kernel
theorem dMd_copies_50 : decode cMd_copies 50 = .ok (.istore_n 3, 1) := by decide +kernel
theorem dMd_copies_51 : decode cMd_copies 51 = .ok (.iconst 0, 1) := by decide +kernel
theorem dMd_copies_52 : decode cMd_copies 52 = .ok (.istore 4, 2) := by decide +kernel
theorem dMd_copies_54 : decode cMd_copies 54 = .ok (.iconst 0, 1) := by decide +kernel
theorem dMd_copies_55 : decode cMd_copies 55 = .ok (.istore 5, 2) := by decide +kernel
theorem dMd_copies_57 : decode cMd_copies 57 = .ok (.iload 5, 2) := by decide +kernel
theorem dMd_copies_59 : decode cMd_copies 59 = .ok (.bipush 6, 2) := by decide +kernel
theorem dMd_copies_61 : decode cMd_copies 61 = .ok (.if_icmp .ge 302, 3) := by decide +kernel
theorem dMd_copies_64 : decode cMd_copies 64 = .ok (.aload_n 0, 1) := by decide +kernel
theorem dMd_copies_65 : decode cMd_copies 65 = .ok (.iload_n 1, 1) := by decide +kernel
theorem dMd_copies_66 : decode cMd_copies 66 = .ok (.iload 5, 2) := by decide +kernel
theorem dMd_copies_68 : decode cMd_copies 68 = .ok (.iload_n 2, 1) := by decide +kernel
theorem dMd_copies_69 : decode cMd_copies 69 = .ok (.invokevirtual 176, 3) := by decide +kernel
theorem dMd_copies_72 : decode cMd_copies 72 = .ok (.istore 6, 2) := by decide +kernel
theorem dMd_copies_74 : decode cMd_copies 74 = .ok (.iload_n 3, 1) := by decide +kernel
theorem dMd_copies_75 : decode cMd_copies 75 = .ok (.iload 6, 2) := by decide +kernel
theorem dMd_copies_77 : decode cMd_copies 77 = .ok (.ifCond .lt 24, 3) := by decide +kernel
theorem dMd_copies_80 : decode cMd_copies 80 = .ok (.iload 6, 2) := by decide +kernel
theorem dMd_copies_82 : decode cMd_copies 82 = .ok (.aload_n 0, 1) := by decide +kernel
theorem dMd_copies_83 : decode cMd_copies 83 = .ok (.getfield 43, 3) := by decide +kernel
theorem dMd_copies_86 : decode cMd_copies 86 = .ok (.bipush 6, 2) := by decide +kernel
theorem dMd_copies_88 : decode cMd_copies 88 = .ok (.iload_n 1, 1) := by decide +kernel
theorem dMd_copies_89 : decode cMd_copies 89 = .ok (.imul, 1) := by decide +kernel
theorem dMd_copies_90 : decode cMd_copies 90 = .ok (.iload 5, 2) := by decide +kernel
theorem dMd_copies_92 : decode cMd_copies 92 = .ok (.iadd, 1) := by decide +kernel
theorem dMd_copies_93 : decode cMd_copies 93 = .ok (.iaload, 1) := by decide +kernel
theorem dMd_copies_94 : decode cMd_copies 94 = .ok (.if_icmp .eq 7, 3) := by decide +kernel
theorem dMd_copies_97 : decode cMd_copies 97 = .ok (.iconst 1, 1) := by decide +kernel
theorem dMd_copies_98 : decode cMd_copies 98 = .ok (.goto 4, 3) := by decide +kernel
theorem dMd_copies_101 : decode cMd_copies 101 = .ok (.iconst 0, 1) := by decide +kernel
theorem dMd_copies_102 : decode cMd_copies 102 = .ok (.iadd, 1) := by decide +kernel
theorem dMd_copies_103 : decode cMd_copies 103 = .ok (.istore_n 3, 1) := by decide +kernel
theorem dMd_copies_104 : decode cMd_copies 104 = .ok (.iconst 0, 1) := by decide +kernel
theorem dMd_copies_105 : decode cMd_copies 105 = .ok (.istore 7, 2) := by decide +kernel
theorem dMd_copies_107 : decode cMd_copies 107 = .ok (.iload 5, 2) := by decide +kernel
theorem dMd_copies_109 : decode cMd_copies 109 = .ok (.istore 8, 2) := by decide +kernel
theorem dMd_copies_111 : decode cMd_copies 111 = .ok (.iconst 0, 1) := by decide +kernel
theorem dMd_copies_112 : decode cMd_copies 112 = .ok (.istore 9, 2) := by decide +kernel
theorem dMd_copies_114 : decode cMd_copies 114 = .ok (.iload 9, 2) := by decide +kernel
theorem dMd_copies_116 : decode cMd_copies 116 = .ok (.bipush 6, 2) := by decide +kernel
theorem dMd_copies_118 : decode cMd_copies 118 = .ok (.if_icmp .ge 64, 3) := by decide +kernel
theorem dMd_copies_121 : decode cMd_copies 121 = .ok (.iload 8, 2) := by decide +kernel
theorem dMd_copies_123 : decode cMd_copies 123 = .ok (.ifCond .lt 59, 3) := by decide +kernel
theorem dMd_copies_126 : decode cMd_copies 126 = .ok (.aload_n 0, 1) := by decide +kernel
theorem dMd_copies_127 : decode cMd_copies 127 = .ok (.iload 7, 2) := by decide +kernel
theorem dMd_copies_129 : decode cMd_copies 129 = .ok (.iload 8, 2) := by decide +kernel
theorem dMd_copies_131 : decode cMd_copies 131 = .ok (.invokevirtual 113, 3) := by decide +kernel
theorem dMd_copies_134 : decode cMd_copies 134 = .ok (.ifCond .ne 48, 3) := by decide +kernel
theorem dMd_copies_137 : decode cMd_copies 137 = .ok (.iload 7, 2) := by decide +kernel
theorem dMd_copies_139 : decode cMd_copies 139 = .ok (.iconst 1, 1) := by decide +kernel
theorem dMd_copies_140 : decode cMd_copies 140 = .ok (.iload 8, 2) := by decide +kernel
theorem dMd_copies_142 : decode cMd_copies 142 = .ok (.ishl, 1) := by decide +kernel
theorem dMd_copies_143 : decode cMd_copies 143 = .ok (.ior, 1) := by decide +kernel
theorem dMd_copies_144 : decode cMd_copies 144 = .ok (.istore 7, 2) := by decide +kernel
theorem dMd_copies_146 : decode cMd_copies 146 = .ok (.aload_n 0, 1) := by decide +kernel
theorem dMd_copies_147 : decode cMd_copies 147 = .ok (.iload_n 1, 1) := by decide +kernel
theorem dMd_copies_148 : decode cMd_copies 148 = .ok (.iload 8, 2) := by decide +kernel
theorem dMd_copies_150 : decode cMd_copies 150 = .ok (.iload_n 2, 1) := by decide +kernel
theorem dMd_copies_151 : decode cMd_copies 151 = .ok (.invokevirtual 176, 3) := by decide +kernel
theorem dMd_copies_154 : decode cMd_copies 154 = .ok (.ifCond .ge 7, 3) := by decide +kernel
theorem dMd_copies_157 : decode cMd_copies 157 = .ok (.iconst (-1), 1) := by decide +kernel
theorem dMd_copies_158 : decode cMd_copies 158 = .ok (.goto 16, 3) := by decide +kernel
theorem dMd_copies_161 : decode cMd_copies 161 = .ok (.aload_n 0, 1) := by decide +kernel
theorem dMd_copies_162 : decode cMd_copies 162 = .ok (.iload_n 1, 1) := by decide +kernel
theorem dMd_copies_163 : decode cMd_copies 163 = .ok (.aload_n 0, 1) := by decide +kernel
theorem dMd_copies_164 : decode cMd_copies 164 = .ok (.iload_n 1, 1) := by decide +kernel
theorem dMd_copies_165 : decode cMd_copies 165 = .ok (.iload 8, 2) := by decide +kernel
theorem dMd_copies_167 : decode cMd_copies 167 = .ok (.iload_n 2, 1) := by decide +kernel
theorem dMd_copies_168 : decode cMd_copies 168 = .ok (.invokevirtual 176, 3) := by decide +kernel
theorem dMd_copies_171 : decode cMd_copies 171 = .ok (.invokevirtual 191, 3) := by decide +kernel
theorem dMd_copies_174 : decode cMd_copies 174 = .ok (.istore 8, 2) := by decide +kernel
theorem dMd_copies_176 : decode cMd_copies 176 = .ok (.iinc 9 1, 3) := by decide +kernel
theorem dMd_copies_179 : decode cMd_copies 179 = .ok (.goto (-65), 3) := by decide +kernel
theorem dMd_copies_182 : decode cMd_copies 182 = .ok (.iload 8, 2) := by decide +kernel
theorem dMd_copies_184 : decode cMd_copies 184 = .ok (.iload 5, 2) := by decide +kernel
theorem dMd_copies_186 : decode cMd_copies 186 = .ok (.if_icmp .ne 40, 3) := by decide +kernel
theorem dMd_copies_189 : decode cMd_copies 189 = .ok (.iload 6, 2) := by decide +kernel
theorem dMd_copies_191 : decode cMd_copies 191 = .ok (.ifCond .lt 35, 3) := by decide +kernel
theorem dMd_copies_194 : decode cMd_copies 194 = .ok (.iload 6, 2) := by decide +kernel
theorem dMd_copies_196 : decode cMd_copies 196 = .ok (.aload_n 0, 1) := by decide +kernel
theorem dMd_copies_197 : decode cMd_copies 197 = .ok (.getfield 43, 3) := by decide +kernel
theorem dMd_copies_200 : decode cMd_copies 200 = .ok (.bipush 6, 2) := by decide +kernel
theorem dMd_copies_202 : decode cMd_copies 202 = .ok (.iload_n 1, 1) := by decide +kernel
theorem dMd_copies_203 : decode cMd_copies 203 = .ok (.imul, 1) := by decide +kernel
theorem dMd_copies_204 : decode cMd_copies 204 = .ok (.iload 5, 2) := by decide +kernel
theorem dMd_copies_206 : decode cMd_copies 206 = .ok (.iadd, 1) := by decide +kernel
theorem dMd_copies_207 : decode cMd_copies 207 = .ok (.iaload, 1) := by decide +kernel
theorem dMd_copies_208 : decode cMd_copies 208 = .ok (.if_icmp .eq 18, 3) := by decide +kernel
theorem dMd_copies_211 : decode cMd_copies 211 = .ok (.aload_n 0, 1) := by decide +kernel
theorem dMd_copies_212 : decode cMd_copies 212 = .ok (.iload 4, 2) := by decide +kernel
theorem dMd_copies_214 : decode cMd_copies 214 = .ok (.iload 5, 2) := by decide +kernel
theorem dMd_copies_216 : decode cMd_copies 216 = .ok (.invokevirtual 113, 3) := by decide +kernel
theorem dMd_copies_219 : decode cMd_copies 219 = .ok (.ifCond .ne 7, 3) := by decide +kernel
theorem dMd_copies_222 : decode cMd_copies 222 = .ok (.iconst 1, 1) := by decide +kernel
theorem dMd_copies_223 : decode cMd_copies 223 = .ok (.goto 4, 3) := by decide +kernel
theorem dMd_copies_226 : decode cMd_copies 226 = .ok (.iconst 0, 1) := by decide +kernel
theorem dMd_copies_227 : decode cMd_copies 227 = .ok (.istore 9, 2) := by decide +kernel
theorem dMd_copies_229 : decode cMd_copies 229 = .ok (.iconst 1, 1) := by decide +kernel
theorem dMd_copies_230 : decode cMd_copies 230 = .ok (.istore 10, 2) := by decide +kernel
theorem dMd_copies_232 : decode cMd_copies 232 = .ok (.iconst 0, 1) := by decide +kernel
theorem dMd_copies_233 : decode cMd_copies 233 = .ok (.istore 11, 2) := by decide +kernel
theorem dMd_copies_235 : decode cMd_copies 235 = .ok (.iload 11, 2) := by decide +kernel
theorem dMd_copies_237 : decode cMd_copies 237 = .ok (.bipush 6, 2) := by decide +kernel
theorem dMd_copies_239 : decode cMd_copies 239 = .ok (.if_icmp .ge 83, 3) := by decide +kernel
theorem dMd_copies_242 : decode cMd_copies 242 = .ok (.iload 9, 2) := by decide +kernel
theorem dMd_copies_244 : decode cMd_copies 244 = .ok (.ifCond .eq 78, 3) := by decide +kernel
theorem dMd_copies_247 : decode cMd_copies 247 = .ok (.aload_n 0, 1) := by decide +kernel
theorem dMd_copies_248 : decode cMd_copies 248 = .ok (.iload_n 1, 1) := by decide +kernel
theorem dMd_copies_249 : decode cMd_copies 249 = .ok (.iload 11, 2) := by decide +kernel
theorem dMd_copies_251 : decode cMd_copies 251 = .ok (.iload_n 2, 1) := by decide +kernel
theorem dMd_copies_252 : decode cMd_copies 252 = .ok (.invokevirtual 176, 3) := by decide +kernel
theorem dMd_copies_255 : decode cMd_copies 255 = .ok (.ifCond .ge 7, 3) := by decide +kernel
theorem dMd_copies_258 : decode cMd_copies 258 = .ok (.iconst (-1), 1) := by decide +kernel
theorem dMd_copies_259 : decode cMd_copies 259 = .ok (.goto 16, 3) := by decide +kernel
theorem dMd_copies_262 : decode cMd_copies 262 = .ok (.aload_n 0, 1) := by decide +kernel
theorem dMd_copies_263 : decode cMd_copies 263 = .ok (.iload_n 1, 1) := by decide +kernel
theorem dMd_copies_264 : decode cMd_copies 264 = .ok (.aload_n 0, 1) := by decide +kernel
theorem dMd_copies_265 : decode cMd_copies 265 = .ok (.iload_n 1, 1) := by decide +kernel
theorem dMd_copies_266 : decode cMd_copies 266 = .ok (.iload 11, 2) := by decide +kernel
theorem dMd_copies_268 : decode cMd_copies 268 = .ok (.iload_n 2, 1) := by decide +kernel
theorem dMd_copies_269 : decode cMd_copies 269 = .ok (.invokevirtual 176, 3) := by decide +kernel
theorem dMd_copies_272 : decode cMd_copies 272 = .ok (.invokevirtual 191, 3) := by decide +kernel
theorem dMd_copies_275 : decode cMd_copies 275 = .ok (.istore 12, 2) := by decide +kernel
theorem dMd_copies_277 : decode cMd_copies 277 = .ok (.iload 10, 2) := by decide +kernel
theorem dMd_copies_279 : decode cMd_copies 279 = .ok (.ifCond .eq 34, 3) := by decide +kernel
theorem dMd_copies_282 : decode cMd_copies 282 = .ok (.aload_n 0, 1) := by decide +kernel
theorem dMd_copies_283 : decode cMd_copies 283 = .ok (.iload 7, 2) := by decide +kernel
theorem dMd_copies_285 : decode cMd_copies 285 = .ok (.iload 11, 2) := by decide +kernel
theorem dMd_copies_287 : decode cMd_copies 287 = .ok (.invokevirtual 113, 3) := by decide +kernel
theorem dMd_copies_290 : decode cMd_copies 290 = .ok (.ifCond .ne 19, 3) := by decide +kernel
theorem dMd_copies_293 : decode cMd_copies 293 = .ok (.iload 12, 2) := by decide +kernel
theorem dMd_copies_295 : decode cMd_copies 295 = .ok (.ifCond .lt 14, 3) := by decide +kernel
theorem dMd_copies_298 : decode cMd_copies 298 = .ok (.aload_n 0, 1) := by decide +kernel
theorem dMd_copies_299 : decode cMd_copies 299 = .ok (.iload 7, 2) := by decide +kernel
theorem dMd_copies_301 : decode cMd_copies 301 = .ok (.iload 12, 2) := by decide +kernel
theorem dMd_copies_303 : decode cMd_copies 303 = .ok (.invokevirtual 113, 3) := by decide +kernel
theorem dMd_copies_306 : decode cMd_copies 306 = .ok (.ifCond .ne 7, 3) := by decide +kernel
theorem dMd_copies_309 : decode cMd_copies 309 = .ok (.iconst 1, 1) := by decide +kernel
theorem dMd_copies_310 : decode cMd_copies 310 = .ok (.goto 4, 3) := by decide +kernel
theorem dMd_copies_313 : decode cMd_copies 313 = .ok (.iconst 0, 1) := by decide +kernel
theorem dMd_copies_314 : decode cMd_copies 314 = .ok (.istore 10, 2) := by decide +kernel
theorem dMd_copies_316 : decode cMd_copies 316 = .ok (.iinc 11 1, 3) := by decide +kernel
theorem dMd_copies_319 : decode cMd_copies 319 = .ok (.goto (-84), 3) := by decide +kernel
theorem dMd_copies_322 : decode cMd_copies 322 = .ok (.iload 9, 2) := by decide +kernel
theorem dMd_copies_324 : decode cMd_copies 324 = .ok (.ifCond .eq 11, 3) := by decide +kernel
theorem dMd_copies_327 : decode cMd_copies 327 = .ok (.iload 4, 2) := by decide +kernel
theorem dMd_copies_329 : decode cMd_copies 329 = .ok (.iload 7, 2) := by decide +kernel
theorem dMd_copies_331 : decode cMd_copies 331 = .ok (.ior, 1) := by decide +kernel
theorem dMd_copies_332 : decode cMd_copies 332 = .ok (.goto 5, 3) := by decide +kernel
theorem dMd_copies_335 : decode cMd_copies 335 = .ok (.iload 4, 2) := by decide +kernel
theorem dMd_copies_337 : decode cMd_copies 337 = .ok (.istore 4, 2) := by decide +kernel
theorem dMd_copies_339 : decode cMd_copies 339 = .ok (.iload_n 3, 1) := by decide +kernel
theorem dMd_copies_340 : decode cMd_copies 340 = .ok (.iload 9, 2) := by decide +kernel
theorem dMd_copies_342 : decode cMd_copies 342 = .ok (.ifCond .eq 12, 3) := by decide +kernel
theorem dMd_copies_345 : decode cMd_copies 345 = .ok (.iload 10, 2) := by decide +kernel
theorem dMd_copies_347 : decode cMd_copies 347 = .ok (.ifCond .eq 7, 3) := by decide +kernel
theorem dMd_copies_350 : decode cMd_copies 350 = .ok (.iconst 1, 1) := by decide +kernel
theorem dMd_copies_351 : decode cMd_copies 351 = .ok (.goto 4, 3) := by decide +kernel
theorem dMd_copies_354 : decode cMd_copies 354 = .ok (.iconst 0, 1) := by decide +kernel
theorem dMd_copies_355 : decode cMd_copies 355 = .ok (.iadd, 1) := by decide +kernel
theorem dMd_copies_356 : decode cMd_copies 356 = .ok (.istore_n 3, 1) := by decide +kernel
theorem dMd_copies_357 : decode cMd_copies 357 = .ok (.iinc 5 1, 3) := by decide +kernel
theorem dMd_copies_360 : decode cMd_copies 360 = .ok (.goto (-303), 3) := by decide +kernel
theorem dMd_copies_363 : decode cMd_copies 363 = .ok (.iload_n 3, 1) := by decide +kernel
theorem dMd_copies_364 : decode cMd_copies 364 = .ok (.ireturn, 1) := by decide +kernel
theorem dMd_fail_0 : decode cMd_fail 0 = .ok (.aload_n 0, 1) := by decide +kernel
theorem dMd_fail_1 : decode cMd_fail 1 = .ok (.getfield 83, 3) := by decide +kernel
theorem dMd_fail_4 : decode cMd_fail 4 = .ok (.aload_n 0, 1) := by decide +kernel
theorem dMd_fail_5 : decode cMd_fail 5 = .ok (.getfield 195, 3) := by decide +kernel
theorem dMd_fail_8 : decode cMd_fail 8 = .ok (.iload_n 1, 1) := by decide +kernel
theorem dMd_fail_9 : decode cMd_fail 9 = .ok (.iastore, 1) := by decide +kernel
theorem dMd_fail_10 : decode cMd_fail 10 = .ok (.aload_n 0, 1) := by decide +kernel
theorem dMd_fail_11 : decode cMd_fail 11 = .ok (.iconst 1, 1) := by decide +kernel
theorem dMd_fail_12 : decode cMd_fail 12 = .ok (.putfield 198, 3) := by decide +kernel
theorem dMd_fail_15 : decode cMd_fail 15 = .ok (.return_, 1) := by decide +kernel
theorem dMd_say_0 : decode cMd_say 0 = .ok (.aload_n 0, 1) := by decide +kernel
theorem dMd_say_1 : decode cMd_say 1 = .ok (.getfield 80, 3) := by decide +kernel
theorem dMd_say_4 : decode cMd_say 4 = .ok (.aload_n 0, 1) := by decide +kernel
theorem dMd_say_5 : decode cMd_say 5 = .ok (.getfield 195, 3) := by decide +kernel
theorem dMd_say_8 : decode cMd_say 8 = .ok (.iaload, 1) := by decide +kernel
theorem dMd_say_9 : decode cMd_say 9 = .ok (.bipush 50, 2) := by decide +kernel
theorem dMd_say_11 : decode cMd_say 11 = .ok (.if_icmp .ne 11, 3) := by decide +kernel
theorem dMd_say_14 : decode cMd_say 14 = .ok (.aload_n 0, 1) := by decide +kernel
theorem dMd_say_15 : decode cMd_say 15 = .ok (.iconst 2, 1) := by decide +kernel
theorem dMd_say_16 : decode cMd_say 16 = .ok (.invokevirtual 201, 3) := by decide +kernel
theorem dMd_say_19 : decode cMd_say 19 = .ok (.goto 39, 3) := by decide +kernel
theorem dMd_say_22 : decode cMd_say 22 = .ok (.aload_n 0, 1) := by decide +kernel
theorem dMd_say_23 : decode cMd_say 23 = .ok (.getfield 77, 3) := by decide +kernel
theorem dMd_say_26 : decode cMd_say 26 = .ok (.bipush 50, 2) := by decide +kernel
theorem dMd_say_28 : decode cMd_say 28 = .ok (.aload_n 0, 1) := by decide +kernel
theorem dMd_say_29 : decode cMd_say 29 = .ok (.getfield 195, 3) := by decide +kernel
theorem dMd_say_32 : decode cMd_say 32 = .ok (.imul, 1) := by decide +kernel
theorem dMd_say_33 : decode cMd_say 33 = .ok (.aload_n 0, 1) := by decide +kernel
theorem dMd_say_34 : decode cMd_say 34 = .ok (.getfield 80, 3) := by decide +kernel
theorem dMd_say_37 : decode cMd_say 37 = .ok (.aload_n 0, 1) := by decide +kernel
theorem dMd_say_38 : decode cMd_say 38 = .ok (.getfield 195, 3) := by decide +kernel
theorem dMd_say_41 : decode cMd_say 41 = .ok (.iaload, 1) := by decide +kernel
theorem dMd_say_42 : decode cMd_say 42 = .ok (.iadd, 1) := by decide +kernel
theorem dMd_say_43 : decode cMd_say 43 = .ok (.iload_n 1, 1) := by decide +kernel
theorem dMd_say_44 : decode cMd_say 44 = .ok (.iastore, 1) := by decide +kernel
theorem dMd_say_45 : decode cMd_say 45 = .ok (.aload_n 0, 1) := by decide +kernel
theorem dMd_say_46 : decode cMd_say 46 = .ok (.getfield 80, 3) := by decide +kernel
theorem dMd_say_49 : decode cMd_say 49 = .ok (.aload_n 0, 1) := by decide +kernel
theorem dMd_say_50 : decode cMd_say 50 = .ok (.getfield 195, 3) := by decide +kernel
theorem dMd_say_53 : decode cMd_say 53 = .ok (.dup2, 1) := by decide +kernel
theorem dMd_say_54 : decode cMd_say 54 = .ok (.iaload, 1) := by decide +kernel
theorem dMd_say_55 : decode cMd_say 55 = .ok (.iconst 1, 1) := by decide +kernel
theorem dMd_say_56 : decode cMd_say 56 = .ok (.iadd, 1) := by decide +kernel
theorem dMd_say_57 : decode cMd_say 57 = .ok (.iastore, 1) := by decide +kernel
theorem dMd_say_58 : decode cMd_say 58 = .ok (.return_, 1) := by decide +kernel
theorem dMd_result_0 : decode cMd_result 0 = .ok (.iload_n 1, 1) := by decide +kernel
theorem dMd_result_1 : decode cMd_result 1 = .ok (.iconst 5, 1) := by decide +kernel
theorem dMd_result_2 : decode cMd_result 2 = .ok (.if_icmp .ne 14, 3) := by decide +kernel
theorem dMd_result_5 : decode cMd_result 5 = .ok (.iload_n 3, 1) := by decide +kernel
theorem dMd_result_6 : decode cMd_result 6 = .ok (.ifCond .ne 10, 3) := by decide +kernel
theorem dMd_result_9 : decode cMd_result 9 = .ok (.aload_n 0, 1) := by decide +kernel
theorem dMd_result_10 : decode cMd_result 10 = .ok (.iconst 1, 1) := by decide +kernel
theorem dMd_result_11 : decode cMd_result 11 = .ok (.invokevirtual 201, 3) := by decide +kernel
theorem dMd_result_14 : decode cMd_result 14 = .ok (.iconst 0, 1) := by decide +kernel
theorem dMd_result_15 : decode cMd_result 15 = .ok (.ireturn, 1) := by decide +kernel
theorem dMd_result_16 : decode cMd_result 16 = .ok (.iload_n 1, 1) := by decide +kernel
theorem dMd_result_17 : decode cMd_result 17 = .ok (.iconst 1, 1) := by decide +kernel
theorem dMd_result_18 : decode cMd_result 18 = .ok (.if_icmp .ne 7, 3) := by decide +kernel
theorem dMd_result_21 : decode cMd_result 21 = .ok (.iload_n 2, 1) := by decide +kernel
theorem dMd_result_22 : decode cMd_result 22 = .ok (.goto 57, 3) := by decide +kernel
theorem dMd_result_25 : decode cMd_result 25 = .ok (.iload_n 1, 1) := by decide +kernel
theorem dMd_result_26 : decode cMd_result 26 = .ok (.iconst 2, 1) := by decide +kernel
theorem dMd_result_27 : decode cMd_result 27 = .ok (.if_icmp .ne 9, 3) := by decide +kernel
theorem dMd_result_30 : decode cMd_result 30 = .ok (.iload_n 2, 1) := by decide +kernel
theorem dMd_result_31 : decode cMd_result 31 = .ok (.iload_n 3, 1) := by decide +kernel
theorem dMd_result_32 : decode cMd_result 32 = .ok (.iadd, 1) := by decide +kernel
theorem dMd_result_33 : decode cMd_result 33 = .ok (.goto 46, 3) := by decide +kernel
theorem dMd_result_36 : decode cMd_result 36 = .ok (.iload_n 1, 1) := by decide +kernel
theorem dMd_result_37 : decode cMd_result 37 = .ok (.iconst 3, 1) := by decide +kernel
theorem dMd_result_38 : decode cMd_result 38 = .ok (.if_icmp .ne 9, 3) := by decide +kernel
theorem dMd_result_41 : decode cMd_result 41 = .ok (.iload_n 2, 1) := by decide +kernel
theorem dMd_result_42 : decode cMd_result 42 = .ok (.iload_n 3, 1) := by decide +kernel
theorem dMd_result_43 : decode cMd_result 43 = .ok (.isub, 1) := by decide +kernel
theorem dMd_result_44 : decode cMd_result 44 = .ok (.goto 35, 3) := by decide +kernel
theorem dMd_result_47 : decode cMd_result 47 = .ok (.iload_n 1, 1) := by decide +kernel
theorem dMd_result_48 : decode cMd_result 48 = .ok (.iconst 4, 1) := by decide +kernel
theorem dMd_result_49 : decode cMd_result 49 = .ok (.if_icmp .ne 9, 3) := by decide +kernel
theorem dMd_result_52 : decode cMd_result 52 = .ok (.iload_n 2, 1) := by decide +kernel
theorem dMd_result_53 : decode cMd_result 53 = .ok (.iload_n 3, 1) := by decide +kernel
theorem dMd_result_54 : decode cMd_result 54 = .ok (.imul, 1) := by decide +kernel
theorem dMd_result_55 : decode cMd_result 55 = .ok (.goto 24, 3) := by decide +kernel
theorem dMd_result_58 : decode cMd_result 58 = .ok (.iload_n 1, 1) := by decide +kernel
theorem dMd_result_59 : decode cMd_result 59 = .ok (.iconst 5, 1) := by decide +kernel
theorem dMd_result_60 : decode cMd_result 60 = .ok (.if_icmp .ne 9, 3) := by decide +kernel
theorem dMd_result_63 : decode cMd_result 63 = .ok (.iload_n 2, 1) := by decide +kernel
theorem dMd_result_64 : decode cMd_result 64 = .ok (.iload_n 3, 1) := by decide +kernel
theorem dMd_result_65 : decode cMd_result 65 = .ok (.idiv, 1) := by decide +kernel
theorem dMd_result_66 : decode cMd_result 66 = .ok (.goto 13, 3) := by decide +kernel
theorem dMd_result_69 : decode cMd_result 69 = .ok (.iload_n 2, 1) := by decide +kernel
theorem dMd_result_70 : decode cMd_result 70 = .ok (.iload_n 3, 1) := by decide +kernel
theorem dMd_result_71 : decode cMd_result 71 = .ok (.if_icmp .ge 7, 3) := by decide +kernel
theorem dMd_result_74 : decode cMd_result 74 = .ok (.iconst 1, 1) := by decide +kernel
theorem dMd_result_75 : decode cMd_result 75 = .ok (.goto 4, 3) := by decide +kernel
theorem dMd_result_78 : decode cMd_result 78 = .ok (.iconst 0, 1) := by decide +kernel
theorem dMd_result_79 : decode cMd_result 79 = .ok (.ireturn, 1) := by decide +kernel
theorem dMd_doSteps_0 : decode cMd_doSteps 0 = .ok (.bipush 6, 2) := by decide +kernel
theorem dMd_doSteps_2 : decode cMd_doSteps 2 = .ok (.iload_n 1, 1) := by decide +kernel
theorem dMd_doSteps_3 : decode cMd_doSteps 3 = .ok (.imul, 1) := by decide +kernel
theorem dMd_doSteps_4 : decode cMd_doSteps 4 = .ok (.istore_n 3, 1) := by decide +kernel
theorem dMd_doSteps_5 : decode cMd_doSteps 5 = .ok (.iload_n 3, 1) := by decide +kernel
theorem dMd_doSteps_6 : decode cMd_doSteps 6 = .ok (.bipush 6, 2) := by decide +kernel
theorem dMd_doSteps_8 : decode cMd_doSteps 8 = .ok (.iload_n 1, 1) := by decide +kernel
theorem dMd_doSteps_9 : decode cMd_doSteps 9 = .ok (.imul, 1) := by decide +kernel
theorem dMd_doSteps_10 : decode cMd_doSteps 10 = .ok (.aload_n 0, 1) := by decide +kernel
theorem dMd_doSteps_11 : decode cMd_doSteps 11 = .ok (.getfield 7, 3) := by decide +kernel
theorem dMd_doSteps_14 : decode cMd_doSteps 14 = .ok (.iload_n 1, 1) := by decide +kernel
theorem dMd_doSteps_15 : decode cMd_doSteps 15 = .ok (.iaload, 1) := by decide +kernel
theorem dMd_doSteps_16 : decode cMd_doSteps 16 = .ok (.iadd, 1) := by decide +kernel
theorem dMd_doSteps_17 : decode cMd_doSteps 17 = .ok (.if_icmp .ge 215, 3) := by decide +kernel
theorem dMd_doSteps_20 : decode cMd_doSteps 20 = .ok (.aload_n 0, 1) := by decide +kernel
theorem dMd_doSteps_21 : decode cMd_doSteps 21 = .ok (.getfield 198, 3) := by decide +kernel
theorem dMd_doSteps_24 : decode cMd_doSteps 24 = .ok (.ifCond .ne 208, 3) := by decide +kernel
theorem dMd_doSteps_27 : decode cMd_doSteps 27 = .ok (.iload_n 2, 1) := by decide +kernel
theorem dMd_doSteps_28 : decode cMd_doSteps 28 = .ok (.ifCond .eq 12, 3) := by decide +kernel
theorem dMd_doSteps_31 : decode cMd_doSteps 31 = .ok (.aload_n 0, 1) := by decide +kernel
theorem dMd_doSteps_32 : decode cMd_doSteps 32 = .ok (.getfield 61, 3) := by decide +kernel
theorem dMd_doSteps_35 : decode cMd_doSteps 35 = .ok (.iload_n 3, 1) := by decide +kernel
theorem dMd_doSteps_36 : decode cMd_doSteps 36 = .ok (.baload, 1) := by decide +kernel
theorem dMd_doSteps_37 : decode cMd_doSteps 37 = .ok (.ifCond .ne 189, 3) := by decide +kernel
theorem dMd_doSteps_40 : decode cMd_doSteps 40 = .ok (.aload_n 0, 1) := by decide +kernel
theorem dMd_doSteps_41 : decode cMd_doSteps 41 = .ok (.getfield 13, 3) := by decide +kernel
theorem dMd_doSteps_44 : decode cMd_doSteps 44 = .ok (.iload_n 3, 1) := by decide +kernel
theorem dMd_doSteps_45 : decode cMd_doSteps 45 = .ok (.iaload, 1) := by decide +kernel
theorem dMd_doSteps_46 : decode cMd_doSteps 46 = .ok (.ifCond .le 33, 3) := by decide +kernel
theorem dMd_doSteps_49 : decode cMd_doSteps 49 = .ok (.aload_n 0, 1) := by decide +kernel
theorem dMd_doSteps_50 : decode cMd_doSteps 50 = .ok (.getfield 86, 3) := by decide +kernel
theorem dMd_doSteps_53 : decode cMd_doSteps 53 = .ok (.iload_n 2, 1) := by decide +kernel
theorem dMd_doSteps_54 : decode cMd_doSteps 54 = .ok (.ifCond .eq 12, 3) := by decide +kernel
theorem dMd_doSteps_57 : decode cMd_doSteps 57 = .ok (.aload_n 0, 1) := by decide +kernel
theorem dMd_doSteps_58 : decode cMd_doSteps 58 = .ok (.getfield 52, 3) := by decide +kernel
theorem dMd_doSteps_61 : decode cMd_doSteps 61 = .ok (.iload_n 3, 1) := by decide +kernel
theorem dMd_doSteps_62 : decode cMd_doSteps 62 = .ok (.iaload, 1) := by decide +kernel
theorem dMd_doSteps_63 : decode cMd_doSteps 63 = .ok (.goto 12, 3) := by decide +kernel
theorem dMd_doSteps_66 : decode cMd_doSteps 66 = .ok (.bipush 100, 2) := by decide +kernel
theorem dMd_doSteps_68 : decode cMd_doSteps 68 = .ok (.aload_n 0, 1) := by decide +kernel
theorem dMd_doSteps_69 : decode cMd_doSteps 69 = .ok (.getfield 19, 3) := by decide +kernel
theorem dMd_doSteps_72 : decode cMd_doSteps 72 = .ok (.iload_n 3, 1) := by decide +kernel
theorem dMd_doSteps_73 : decode cMd_doSteps 73 = .ok (.iaload, 1) := by decide +kernel
theorem dMd_doSteps_74 : decode cMd_doSteps 74 = .ok (.imul, 1) := by decide +kernel
theorem dMd_doSteps_75 : decode cMd_doSteps 75 = .ok (.iaload, 1) := by decide +kernel
theorem dMd_doSteps_76 : decode cMd_doSteps 76 = .ok (.goto 4, 3) := by decide +kernel
theorem dMd_doSteps_79 : decode cMd_doSteps 79 = .ok (.iconst 0, 1) := by decide +kernel
theorem dMd_doSteps_80 : decode cMd_doSteps 80 = .ok (.istore 4, 2) := by decide +kernel
theorem dMd_doSteps_82 : decode cMd_doSteps 82 = .ok (.aload_n 0, 1) := by decide +kernel
theorem dMd_doSteps_83 : decode cMd_doSteps 83 = .ok (.getfield 13, 3) := by decide +kernel
theorem dMd_doSteps_86 : decode cMd_doSteps 86 = .ok (.iload_n 3, 1) := by decide +kernel
theorem dMd_doSteps_87 : decode cMd_doSteps 87 = .ok (.iaload, 1) := by decide +kernel
theorem dMd_doSteps_88 : decode cMd_doSteps 88 = .ok (.iconst 1, 1) := by decide +kernel
theorem dMd_doSteps_89 : decode cMd_doSteps 89 = .ok (.if_icmp .le 44, 3) := by decide +kernel
theorem dMd_doSteps_92 : decode cMd_doSteps 92 = .ok (.aload_n 0, 1) := by decide +kernel
theorem dMd_doSteps_93 : decode cMd_doSteps 93 = .ok (.getfield 13, 3) := by decide +kernel
theorem dMd_doSteps_96 : decode cMd_doSteps 96 = .ok (.iload_n 3, 1) := by decide +kernel
theorem dMd_doSteps_97 : decode cMd_doSteps 97 = .ok (.iaload, 1) := by decide +kernel
theorem dMd_doSteps_98 : decode cMd_doSteps 98 = .ok (.bipush 7, 2) := by decide +kernel
theorem dMd_doSteps_100 : decode cMd_doSteps 100 = .ok (.if_icmp .ge 33, 3) := by decide +kernel
theorem dMd_doSteps_103 : decode cMd_doSteps 103 = .ok (.aload_n 0, 1) := by decide +kernel
theorem dMd_doSteps_104 : decode cMd_doSteps 104 = .ok (.getfield 86, 3) := by decide +kernel
theorem dMd_doSteps_107 : decode cMd_doSteps 107 = .ok (.iload_n 2, 1) := by decide +kernel
theorem dMd_doSteps_108 : decode cMd_doSteps 108 = .ok (.ifCond .eq 12, 3) := by decide +kernel
theorem dMd_doSteps_111 : decode cMd_doSteps 111 = .ok (.aload_n 0, 1) := by decide +kernel
theorem dMd_doSteps_112 : decode cMd_doSteps 112 = .ok (.getfield 55, 3) := by decide +kernel
theorem dMd_doSteps_115 : decode cMd_doSteps 115 = .ok (.iload_n 3, 1) := by decide +kernel
theorem dMd_doSteps_116 : decode cMd_doSteps 116 = .ok (.iaload, 1) := by decide +kernel
theorem dMd_doSteps_117 : decode cMd_doSteps 117 = .ok (.goto 12, 3) := by decide +kernel
theorem dMd_doSteps_120 : decode cMd_doSteps 120 = .ok (.bipush 100, 2) := by decide +kernel
theorem dMd_doSteps_122 : decode cMd_doSteps 122 = .ok (.aload_n 0, 1) := by decide +kernel
theorem dMd_doSteps_123 : decode cMd_doSteps 123 = .ok (.getfield 22, 3) := by decide +kernel
theorem dMd_doSteps_126 : decode cMd_doSteps 126 = .ok (.iload_n 3, 1) := by decide +kernel
theorem dMd_doSteps_127 : decode cMd_doSteps 127 = .ok (.iaload, 1) := by decide +kernel
theorem dMd_doSteps_128 : decode cMd_doSteps 128 = .ok (.imul, 1) := by decide +kernel
theorem dMd_doSteps_129 : decode cMd_doSteps 129 = .ok (.iaload, 1) := by decide +kernel
theorem dMd_doSteps_130 : decode cMd_doSteps 130 = .ok (.goto 4, 3) := by decide +kernel
theorem dMd_doSteps_133 : decode cMd_doSteps 133 = .ok (.iconst 0, 1) := by decide +kernel
theorem dMd_doSteps_134 : decode cMd_doSteps 134 = .ok (.istore 5, 2) := by decide +kernel
theorem dMd_doSteps_136 : decode cMd_doSteps 136 = .ok (.aload_n 0, 1) := by decide +kernel
theorem dMd_doSteps_137 : decode cMd_doSteps 137 = .ok (.getfield 13, 3) := by decide +kernel
theorem dMd_doSteps_140 : decode cMd_doSteps 140 = .ok (.iload_n 3, 1) := by decide +kernel
theorem dMd_doSteps_141 : decode cMd_doSteps 141 = .ok (.iaload, 1) := by decide +kernel
theorem dMd_doSteps_142 : decode cMd_doSteps 142 = .ok (.bipush 7, 2) := by decide +kernel
theorem dMd_doSteps_144 : decode cMd_doSteps 144 = .ok (.if_icmp .ne 12, 3) := by decide +kernel
theorem dMd_doSteps_147 : decode cMd_doSteps 147 = .ok (.aload_n 0, 1) := by decide +kernel
theorem dMd_doSteps_148 : decode cMd_doSteps 148 = .ok (.iload 4, 2) := by decide +kernel
theorem dMd_doSteps_150 : decode cMd_doSteps 150 = .ok (.invokevirtual 204, 3) := by decide +kernel
theorem dMd_doSteps_153 : decode cMd_doSteps 153 = .ok (.goto 73, 3) := by decide +kernel
theorem dMd_doSteps_156 : decode cMd_doSteps 156 = .ok (.aload_n 0, 1) := by decide +kernel
theorem dMd_doSteps_157 : decode cMd_doSteps 157 = .ok (.getfield 13, 3) := by decide +kernel
theorem dMd_doSteps_160 : decode cMd_doSteps 160 = .ok (.iload_n 3, 1) := by decide +kernel
theorem dMd_doSteps_161 : decode cMd_doSteps 161 = .ok (.iaload, 1) := by decide +kernel
theorem dMd_doSteps_162 : decode cMd_doSteps 162 = .ok (.ifCond .ne 12, 3) := by decide +kernel
theorem dMd_doSteps_165 : decode cMd_doSteps 165 = .ok (.aload_n 0, 1) := by decide +kernel
theorem dMd_doSteps_166 : decode cMd_doSteps 166 = .ok (.getfield 19, 3) := by decide +kernel
theorem dMd_doSteps_169 : decode cMd_doSteps 169 = .ok (.iload_n 3, 1) := by decide +kernel
theorem dMd_doSteps_170 : decode cMd_doSteps 170 = .ok (.iaload, 1) := by decide +kernel
theorem dMd_doSteps_171 : decode cMd_doSteps 171 = .ok (.goto 17, 3) := by decide +kernel
theorem dMd_doSteps_174 : decode cMd_doSteps 174 = .ok (.aload_n 0, 1) := by decide +kernel
theorem dMd_doSteps_175 : decode cMd_doSteps 175 = .ok (.aload_n 0, 1) := by decide +kernel
theorem dMd_doSteps_176 : decode cMd_doSteps 176 = .ok (.getfield 13, 3) := by decide +kernel
theorem dMd_doSteps_179 : decode cMd_doSteps 179 = .ok (.iload_n 3, 1) := by decide +kernel
theorem dMd_doSteps_180 : decode cMd_doSteps 180 = .ok (.iaload, 1) := by decide +kernel
theorem dMd_doSteps_181 : decode cMd_doSteps 181 = .ok (.iload 4, 2) := by decide +kernel
theorem dMd_doSteps_183 : decode cMd_doSteps 183 = .ok (.iload 5, 2) := by decide +kernel
theorem dMd_doSteps_185 : decode cMd_doSteps 185 = .ok (.invokevirtual 207, 3) := by decide +kernel
theorem dMd_doSteps_188 : decode cMd_doSteps 188 = .ok (.istore 6, 2) := by decide +kernel
theorem dMd_doSteps_190 : decode cMd_doSteps 190 = .ok (.aload_n 0, 1) := by decide +kernel
theorem dMd_doSteps_191 : decode cMd_doSteps 191 = .ok (.getfield 198, 3) := by decide +kernel
theorem dMd_doSteps_194 : decode cMd_doSteps 194 = .ok (.ifCond .ne 32, 3) := by decide +kernel
theorem dMd_doSteps_197 : decode cMd_doSteps 197 = .ok (.aload_n 0, 1) := by decide +kernel
theorem dMd_doSteps_198 : decode cMd_doSteps 198 = .ok (.getfield 86, 3) := by decide +kernel
theorem dMd_doSteps_201 : decode cMd_doSteps 201 = .ok (.iload_n 2, 1) := by decide +kernel
theorem dMd_doSteps_202 : decode cMd_doSteps 202 = .ok (.ifCond .eq 12, 3) := by decide +kernel
theorem dMd_doSteps_205 : decode cMd_doSteps 205 = .ok (.aload_n 0, 1) := by decide +kernel
theorem dMd_doSteps_206 : decode cMd_doSteps 206 = .ok (.getfield 49, 3) := by decide +kernel
theorem dMd_doSteps_209 : decode cMd_doSteps 209 = .ok (.iload_n 3, 1) := by decide +kernel
theorem dMd_doSteps_210 : decode cMd_doSteps 210 = .ok (.iaload, 1) := by decide +kernel
theorem dMd_doSteps_211 : decode cMd_doSteps 211 = .ok (.goto 12, 3) := by decide +kernel
theorem dMd_doSteps_214 : decode cMd_doSteps 214 = .ok (.bipush 100, 2) := by decide +kernel
theorem dMd_doSteps_216 : decode cMd_doSteps 216 = .ok (.aload_n 0, 1) := by decide +kernel
theorem dMd_doSteps_217 : decode cMd_doSteps 217 = .ok (.getfield 16, 3) := by decide +kernel
theorem dMd_doSteps_220 : decode cMd_doSteps 220 = .ok (.iload_n 3, 1) := by decide +kernel
theorem dMd_doSteps_221 : decode cMd_doSteps 221 = .ok (.iaload, 1) := by decide +kernel
theorem dMd_doSteps_222 : decode cMd_doSteps 222 = .ok (.imul, 1) := by decide +kernel
theorem dMd_doSteps_223 : decode cMd_doSteps 223 = .ok (.iload 6, 2) := by decide +kernel
theorem dMd_doSteps_225 : decode cMd_doSteps 225 = .ok (.iastore, 1) := by decide +kernel
theorem dMd_doSteps_226 : decode cMd_doSteps 226 = .ok (.iinc 3 1, 3) := by decide +kernel
theorem dMd_doSteps_229 : decode cMd_doSteps 229 = .ok (.goto (-224), 3) := by decide +kernel
theorem dMd_doSteps_232 : decode cMd_doSteps 232 = .ok (.return_, 1) := by decide +kernel
theorem dMd_meet_0 : decode cMd_meet 0 = .ok (.iconst 0, 1) := by decide +kernel
theorem dMd_meet_1 : decode cMd_meet 1 = .ok (.istore_n 3, 1) := by decide +kernel
theorem dMd_meet_2 : decode cMd_meet 2 = .ok (.iload_n 3, 1) := by decide +kernel
theorem dMd_meet_3 : decode cMd_meet 3 = .ok (.bipush 6, 2) := by decide +kernel
theorem dMd_meet_5 : decode cMd_meet 5 = .ok (.if_icmp .ge 40, 3) := by decide +kernel
theorem dMd_meet_8 : decode cMd_meet 8 = .ok (.aload_n 0, 1) := by decide +kernel
theorem dMd_meet_9 : decode cMd_meet 9 = .ok (.iload_n 1, 1) := by decide +kernel
theorem dMd_meet_10 : decode cMd_meet 10 = .ok (.iload_n 3, 1) := by decide +kernel
theorem dMd_meet_11 : decode cMd_meet 11 = .ok (.iload_n 2, 1) := by decide +kernel
theorem dMd_meet_12 : decode cMd_meet 12 = .ok (.invokevirtual 176, 3) := by decide +kernel
theorem dMd_meet_15 : decode cMd_meet 15 = .ok (.istore 4, 2) := by decide +kernel
theorem dMd_meet_17 : decode cMd_meet 17 = .ok (.aload_n 0, 1) := by decide +kernel
theorem dMd_meet_18 : decode cMd_meet 18 = .ok (.getfield 89, 3) := by decide +kernel
theorem dMd_meet_21 : decode cMd_meet 21 = .ok (.iload_n 3, 1) := by decide +kernel
theorem dMd_meet_22 : decode cMd_meet 22 = .ok (.iload 4, 2) := by decide +kernel
theorem dMd_meet_24 : decode cMd_meet 24 = .ok (.ifCond .ge 7, 3) := by decide +kernel
theorem dMd_meet_27 : decode cMd_meet 27 = .ok (.iconst 0, 1) := by decide +kernel
theorem dMd_meet_28 : decode cMd_meet 28 = .ok (.goto 10, 3) := by decide +kernel
theorem dMd_meet_31 : decode cMd_meet 31 = .ok (.aload_n 0, 1) := by decide +kernel
theorem dMd_meet_32 : decode cMd_meet 32 = .ok (.getfield 86, 3) := by decide +kernel
theorem dMd_meet_35 : decode cMd_meet 35 = .ok (.iload 4, 2) := by decide +kernel
theorem dMd_meet_37 : decode cMd_meet 37 = .ok (.iaload, 1) := by decide +kernel
theorem dMd_meet_38 : decode cMd_meet 38 = .ok (.iastore, 1) := by decide +kernel
theorem dMd_meet_39 : decode cMd_meet 39 = .ok (.iinc 3 1, 3) := by decide +kernel
theorem dMd_meet_42 : decode cMd_meet 42 = .ok (.goto (-40), 3) := by decide +kernel
theorem dMd_meet_45 : decode cMd_meet 45 = .ok (.iconst 0, 1) := by decide +kernel
theorem dMd_meet_46 : decode cMd_meet 46 = .ok (.istore_n 3, 1) := by decide +kernel
theorem dMd_meet_47 : decode cMd_meet 47 = .ok (.iload_n 3, 1) := by decide +kernel
theorem dMd_meet_48 : decode cMd_meet 48 = .ok (.bipush 6, 2) := by decide +kernel
theorem dMd_meet_50 : decode cMd_meet 50 = .ok (.if_icmp .ge 45, 3) := by decide +kernel
theorem dMd_meet_53 : decode cMd_meet 53 = .ok (.aload_n 0, 1) := by decide +kernel
theorem dMd_meet_54 : decode cMd_meet 54 = .ok (.getfield 43, 3) := by decide +kernel
theorem dMd_meet_57 : decode cMd_meet 57 = .ok (.bipush 6, 2) := by decide +kernel
theorem dMd_meet_59 : decode cMd_meet 59 = .ok (.iload_n 1, 1) := by decide +kernel
theorem dMd_meet_60 : decode cMd_meet 60 = .ok (.imul, 1) := by decide +kernel
theorem dMd_meet_61 : decode cMd_meet 61 = .ok (.iload_n 3, 1) := by decide +kernel
theorem dMd_meet_62 : decode cMd_meet 62 = .ok (.iadd, 1) := by decide +kernel
theorem dMd_meet_63 : decode cMd_meet 63 = .ok (.iaload, 1) := by decide +kernel
theorem dMd_meet_64 : decode cMd_meet 64 = .ok (.ifCond .lt 25, 3) := by decide +kernel
theorem dMd_meet_67 : decode cMd_meet 67 = .ok (.aload_n 0, 1) := by decide +kernel
theorem dMd_meet_68 : decode cMd_meet 68 = .ok (.getfield 86, 3) := by decide +kernel
theorem dMd_meet_71 : decode cMd_meet 71 = .ok (.aload_n 0, 1) := by decide +kernel
theorem dMd_meet_72 : decode cMd_meet 72 = .ok (.getfield 43, 3) := by decide +kernel
theorem dMd_meet_75 : decode cMd_meet 75 = .ok (.bipush 6, 2) := by decide +kernel
theorem dMd_meet_77 : decode cMd_meet 77 = .ok (.iload_n 1, 1) := by decide +kernel
theorem dMd_meet_78 : decode cMd_meet 78 = .ok (.imul, 1) := by decide +kernel
theorem dMd_meet_79 : decode cMd_meet 79 = .ok (.iload_n 3, 1) := by decide +kernel
theorem dMd_meet_80 : decode cMd_meet 80 = .ok (.iadd, 1) := by decide +kernel
theorem dMd_meet_81 : decode cMd_meet 81 = .ok (.iaload, 1) := by decide +kernel
theorem dMd_meet_82 : decode cMd_meet 82 = .ok (.aload_n 0, 1) := by decide +kernel
theorem dMd_meet_83 : decode cMd_meet 83 = .ok (.getfield 89, 3) := by decide +kernel
theorem dMd_meet_86 : decode cMd_meet 86 = .ok (.iload_n 3, 1) := by decide +kernel
theorem dMd_meet_87 : decode cMd_meet 87 = .ok (.iaload, 1) := by decide +kernel
theorem dMd_meet_88 : decode cMd_meet 88 = .ok (.iastore, 1) := by decide +kernel
theorem dMd_meet_89 : decode cMd_meet 89 = .ok (.iinc 3 1, 3) := by decide +kernel
theorem dMd_meet_92 : decode cMd_meet 92 = .ok (.goto (-45), 3) := by decide +kernel
theorem dMd_meet_95 : decode cMd_meet 95 = .ok (.return_, 1) := by decide +kernel
theorem dMd_runInto_0 : decode cMd_runInto 0 = .ok (.aload_n 0, 1) := by decide +kernel
theorem dMd_runInto_1 : decode cMd_runInto 1 = .ok (.iload_n 1, 1) := by decide +kernel
theorem dMd_runInto_2 : decode cMd_runInto 2 = .ok (.putfield 195, 3) := by decide +kernel
theorem dMd_runInto_5 : decode cMd_runInto 5 = .ok (.aload_n 0, 1) := by decide +kernel
theorem dMd_runInto_6 : decode cMd_runInto 6 = .ok (.iconst 0, 1) := by decide +kernel
theorem dMd_runInto_7 : decode cMd_runInto 7 = .ok (.putfield 198, 3) := by decide +kernel
theorem dMd_runInto_10 : decode cMd_runInto 10 = .ok (.aload_n 0, 1) := by decide +kernel
theorem dMd_runInto_11 : decode cMd_runInto 11 = .ok (.getfield 80, 3) := by decide +kernel
theorem dMd_runInto_14 : decode cMd_runInto 14 = .ok (.iload_n 1, 1) := by decide +kernel
theorem dMd_runInto_15 : decode cMd_runInto 15 = .ok (.iconst 0, 1) := by decide +kernel
theorem dMd_runInto_16 : decode cMd_runInto 16 = .ok (.iastore, 1) := by decide +kernel
theorem dMd_runInto_17 : decode cMd_runInto 17 = .ok (.aload_n 0, 1) := by decide +kernel
theorem dMd_runInto_18 : decode cMd_runInto 18 = .ok (.getfield 83, 3) := by decide +kernel
theorem dMd_runInto_21 : decode cMd_runInto 21 = .ok (.iload_n 1, 1) := by decide +kernel
theorem dMd_runInto_22 : decode cMd_runInto 22 = .ok (.iconst 0, 1) := by decide +kernel
theorem dMd_runInto_23 : decode cMd_runInto 23 = .ok (.iastore, 1) := by decide +kernel
theorem dMd_runInto_24 : decode cMd_runInto 24 = .ok (.iconst 0, 1) := by decide +kernel
theorem dMd_runInto_25 : decode cMd_runInto 25 = .ok (.istore_n 3, 1) := by decide +kernel
theorem dMd_runInto_26 : decode cMd_runInto 26 = .ok (.iload_n 3, 1) := by decide +kernel
theorem dMd_runInto_27 : decode cMd_runInto 27 = .ok (.sipush 600, 3) := by decide +kernel
theorem dMd_runInto_30 : decode cMd_runInto 30 = .ok (.if_icmp .ge 16, 3) := by decide +kernel
theorem dMd_runInto_33 : decode cMd_runInto 33 = .ok (.aload_n 0, 1) := by decide +kernel
theorem dMd_runInto_34 : decode cMd_runInto 34 = .ok (.getfield 86, 3) := by decide +kernel
theorem dMd_runInto_37 : decode cMd_runInto 37 = .ok (.iload_n 3, 1) := by decide +kernel
theorem dMd_runInto_38 : decode cMd_runInto 38 = .ok (.iconst 0, 1) := by decide +kernel
theorem dMd_runInto_39 : decode cMd_runInto 39 = .ok (.iastore, 1) := by decide +kernel
theorem dMd_runInto_40 : decode cMd_runInto 40 = .ok (.iinc 3 1, 3) := by decide +kernel
theorem dMd_runInto_43 : decode cMd_runInto 43 = .ok (.goto (-17), 3) := by decide +kernel
theorem dMd_runInto_46 : decode cMd_runInto 46 = .ok (.iconst 0, 1) := by decide +kernel
theorem dMd_runInto_47 : decode cMd_runInto 47 = .ok (.istore_n 3, 1) := by decide +kernel
theorem dMd_runInto_48 : decode cMd_runInto 48 = .ok (.iload_n 3, 1) := by decide +kernel
theorem dMd_runInto_49 : decode cMd_runInto 49 = .ok (.bipush 6, 2) := by decide +kernel
theorem dMd_runInto_51 : decode cMd_runInto 51 = .ok (.if_icmp .ge 24, 3) := by decide +kernel
theorem dMd_runInto_54 : decode cMd_runInto 54 = .ok (.aload_n 0, 1) := by decide +kernel
theorem dMd_runInto_55 : decode cMd_runInto 55 = .ok (.getfield 86, 3) := by decide +kernel
theorem dMd_runInto_58 : decode cMd_runInto 58 = .ok (.bipush 100, 2) := by decide +kernel
theorem dMd_runInto_60 : decode cMd_runInto 60 = .ok (.iload_n 3, 1) := by decide +kernel
theorem dMd_runInto_61 : decode cMd_runInto 61 = .ok (.imul, 1) := by decide +kernel
theorem dMd_runInto_62 : decode cMd_runInto 62 = .ok (.aload_n 0, 1) := by decide +kernel
theorem dMd_runInto_63 : decode cMd_runInto 63 = .ok (.getfield 37, 3) := by decide +kernel
theorem dMd_runInto_66 : decode cMd_runInto 66 = .ok (.iload_n 3, 1) := by decide +kernel
theorem dMd_runInto_67 : decode cMd_runInto 67 = .ok (.iaload, 1) := by decide +kernel
theorem dMd_runInto_68 : decode cMd_runInto 68 = .ok (.iastore, 1) := by decide +kernel
theorem dMd_runInto_69 : decode cMd_runInto 69 = .ok (.iinc 3 1, 3) := by decide +kernel
theorem dMd_runInto_72 : decode cMd_runInto 72 = .ok (.goto (-24), 3) := by decide +kernel
theorem dMd_runInto_75 : decode cMd_runInto 75 = .ok (.aload_n 0, 1) := by decide +kernel
theorem dMd_runInto_76 : decode cMd_runInto 76 = .ok (.getfield 95, 3) := by decide +kernel
theorem dMd_runInto_79 : decode cMd_runInto 79 = .ok (.istore_n 3, 1) := by decide +kernel
theorem dMd_runInto_80 : decode cMd_runInto 80 = .ok (.iconst 0, 1) := by decide +kernel
theorem dMd_runInto_81 : decode cMd_runInto 81 = .ok (.istore 4, 2) := by decide +kernel
theorem dMd_runInto_83 : decode cMd_runInto 83 = .ok (.iconst 0, 1) := by decide +kernel
theorem dMd_runInto_84 : decode cMd_runInto 84 = .ok (.istore 5, 2) := by decide +kernel
theorem dMd_runInto_86 : decode cMd_runInto 86 = .ok (.iload 4, 2) := by decide +kernel
theorem dMd_runInto_88 : decode cMd_runInto 88 = .ok (.ifCond .lt 134, 3) := by decide +kernel
theorem dMd_runInto_91 : decode cMd_runInto 91 = .ok (.aload_n 0, 1) := by decide +kernel
theorem dMd_runInto_92 : decode cMd_runInto 92 = .ok (.getfield 198, 3) := by decide +kernel
theorem dMd_runInto_95 : decode cMd_runInto 95 = .ok (.ifCond .ne 127, 3) := by decide +kernel
theorem dMd_runInto_98 : decode cMd_runInto 98 = .ok (.iinc 5 1, 3) := by decide +kernel
theorem dMd_runInto_101 : decode cMd_runInto 101 = .ok (.iload 5, 2) := by decide +kernel
theorem dMd_runInto_103 : decode cMd_runInto 103 = .ok (.bipush 100, 2) := by decide +kernel
theorem dMd_runInto_105 : decode cMd_runInto 105 = .ok (.if_icmp .le 9, 3) := by decide +kernel
theorem dMd_runInto_108 : decode cMd_runInto 108 = .ok (.aload_n 0, 1) := by decide +kernel
theorem dMd_runInto_109 : decode cMd_runInto 109 = .ok (.iconst 2, 1) := by decide +kernel
theorem dMd_runInto_110 : decode cMd_runInto 110 = .ok (.invokevirtual 201, 3) := by decide +kernel
theorem dMd_runInto_113 : decode cMd_runInto 113 = .ok (.return_, 1) := by decide +kernel
theorem dMd_runInto_114 : decode cMd_runInto 114 = .ok (.iload_n 2, 1) := by decide +kernel
theorem dMd_runInto_115 : decode cMd_runInto 115 = .ok (.ifCond .eq 10, 3) := by decide +kernel
theorem dMd_runInto_118 : decode cMd_runInto 118 = .ok (.aload_n 0, 1) := by decide +kernel
theorem dMd_runInto_119 : decode cMd_runInto 119 = .ok (.iload 4, 2) := by decide +kernel
theorem dMd_runInto_121 : decode cMd_runInto 121 = .ok (.iload_n 3, 1) := by decide +kernel
theorem dMd_runInto_122 : decode cMd_runInto 122 = .ok (.invokevirtual 210, 3) := by decide +kernel
theorem dMd_runInto_125 : decode cMd_runInto 125 = .ok (.aload_n 0, 1) := by decide +kernel
theorem dMd_runInto_126 : decode cMd_runInto 126 = .ok (.iload 4, 2) := by decide +kernel
theorem dMd_runInto_128 : decode cMd_runInto 128 = .ok (.iload_n 2, 1) := by decide +kernel
theorem dMd_runInto_129 : decode cMd_runInto 129 = .ok (.invokevirtual 214, 3) := by decide +kernel
theorem dMd_runInto_132 : decode cMd_runInto 132 = .ok (.iload 4, 2) := by decide +kernel
theorem dMd_runInto_134 : decode cMd_runInto 134 = .ok (.istore_n 3, 1) := by decide +kernel
theorem dMd_runInto_135 : decode cMd_runInto 135 = .ok (.aload_n 0, 1) := by decide +kernel
theorem dMd_runInto_136 : decode cMd_runInto 136 = .ok (.getfield 25, 3) := by decide +kernel
theorem dMd_runInto_139 : decode cMd_runInto 139 = .ok (.iload 4, 2) := by decide +kernel
theorem dMd_runInto_141 : decode cMd_runInto 141 = .ok (.iaload, 1) := by decide +kernel
theorem dMd_runInto_142 : decode cMd_runInto 142 = .ok (.iconst 2, 1) := by decide +kernel
theorem dMd_runInto_143 : decode cMd_runInto 143 = .ok (.if_icmp .ne 35, 3) := by decide +kernel
theorem dMd_runInto_146 : decode cMd_runInto 146 = .ok (.aload_n 0, 1) := by decide +kernel
theorem dMd_runInto_147 : decode cMd_runInto 147 = .ok (.getfield 86, 3) := by decide +kernel
theorem dMd_runInto_150 : decode cMd_runInto 150 = .ok (.iload_n 2, 1) := by decide +kernel
theorem dMd_runInto_151 : decode cMd_runInto 151 = .ok (.ifCond .eq 13, 3) := by decide +kernel
theorem dMd_runInto_154 : decode cMd_runInto 154 = .ok (.aload_n 0, 1) := by decide +kernel
theorem dMd_runInto_155 : decode cMd_runInto 155 = .ok (.getfield 58, 3) := by decide +kernel
theorem dMd_runInto_158 : decode cMd_runInto 158 = .ok (.iload 4, 2) := by decide +kernel
theorem dMd_runInto_160 : decode cMd_runInto 160 = .ok (.iaload, 1) := by decide +kernel
theorem dMd_runInto_161 : decode cMd_runInto 161 = .ok (.goto 13, 3) := by decide +kernel
theorem dMd_runInto_164 : decode cMd_runInto 164 = .ok (.bipush 100, 2) := by decide +kernel
theorem dMd_runInto_166 : decode cMd_runInto 166 = .ok (.aload_n 0, 1) := by decide +kernel
theorem dMd_runInto_167 : decode cMd_runInto 167 = .ok (.getfield 28, 3) := by decide +kernel
theorem dMd_runInto_170 : decode cMd_runInto 170 = .ok (.iload 4, 2) := by decide +kernel
theorem dMd_runInto_172 : decode cMd_runInto 172 = .ok (.iaload, 1) := by decide +kernel
theorem dMd_runInto_173 : decode cMd_runInto 173 = .ok (.imul, 1) := by decide +kernel
theorem dMd_runInto_174 : decode cMd_runInto 174 = .ok (.iaload, 1) := by decide +kernel
theorem dMd_runInto_175 : decode cMd_runInto 175 = .ok (.goto 4, 3) := by decide +kernel
theorem dMd_runInto_178 : decode cMd_runInto 178 = .ok (.iconst 0, 1) := by decide +kernel
theorem dMd_runInto_179 : decode cMd_runInto 179 = .ok (.istore 6, 2) := by decide +kernel
theorem dMd_runInto_181 : decode cMd_runInto 181 = .ok (.aload_n 0, 1) := by decide +kernel
theorem dMd_runInto_182 : decode cMd_runInto 182 = .ok (.getfield 25, 3) := by decide +kernel
theorem dMd_runInto_185 : decode cMd_runInto 185 = .ok (.iload 4, 2) := by decide +kernel
theorem dMd_runInto_187 : decode cMd_runInto 187 = .ok (.iaload, 1) := by decide +kernel
theorem dMd_runInto_188 : decode cMd_runInto 188 = .ok (.ifCond .ne 7, 3) := by decide +kernel
theorem dMd_runInto_191 : decode cMd_runInto 191 = .ok (.iconst (-1), 1) := by decide +kernel
theorem dMd_runInto_192 : decode cMd_runInto 192 = .ok (.goto 25, 3) := by decide +kernel
theorem dMd_runInto_195 : decode cMd_runInto 195 = .ok (.iload 6, 2) := by decide +kernel
theorem dMd_runInto_197 : decode cMd_runInto 197 = .ok (.ifCond .eq 13, 3) := by decide +kernel
theorem dMd_runInto_200 : decode cMd_runInto 200 = .ok (.aload_n 0, 1) := by decide +kernel
theorem dMd_runInto_201 : decode cMd_runInto 201 = .ok (.getfield 31, 3) := by decide +kernel
theorem dMd_runInto_204 : decode cMd_runInto 204 = .ok (.iload 4, 2) := by decide +kernel
theorem dMd_runInto_206 : decode cMd_runInto 206 = .ok (.iaload, 1) := by decide +kernel
theorem dMd_runInto_207 : decode cMd_runInto 207 = .ok (.goto 10, 3) := by decide +kernel
theorem dMd_runInto_210 : decode cMd_runInto 210 = .ok (.aload_n 0, 1) := by decide +kernel
theorem dMd_runInto_211 : decode cMd_runInto 211 = .ok (.getfield 34, 3) := by decide +kernel
theorem dMd_runInto_214 : decode cMd_runInto 214 = .ok (.iload 4, 2) := by decide +kernel
theorem dMd_runInto_216 : decode cMd_runInto 216 = .ok (.iaload, 1) := by decide +kernel
theorem dMd_runInto_217 : decode cMd_runInto 217 = .ok (.istore 4, 2) := by decide +kernel
theorem dMd_runInto_219 : decode cMd_runInto 219 = .ok (.goto (-133), 3) := by decide +kernel
theorem dMd_runInto_222 : decode cMd_runInto 222 = .ok (.return_, 1) := by decide +kernel
theorem dMd_run_0 : decode cMd_run 0 = .ok (.aload_n 0, 1) := by decide +kernel
theorem dMd_run_1 : decode cMd_run 1 = .ok (.iload_n 1, 1) := by decide +kernel
theorem dMd_run_2 : decode cMd_run 2 = .ok (.ifCond .lt 8, 3) := by decide +kernel
theorem dMd_run_5 : decode cMd_run 5 = .ok (.iload_n 1, 1) := by decide +kernel
theorem dMd_run_6 : decode cMd_run 6 = .ok (.iconst 2, 1) := by decide +kernel
theorem dMd_run_7 : decode cMd_run 7 = .ok (.if_icmp .le 7, 3) := by decide +kernel
theorem dMd_run_10 : decode cMd_run 10 = .ok (.iconst 1, 1) := by decide +kernel
theorem dMd_run_11 : decode cMd_run 11 = .ok (.goto 19, 3) := by decide +kernel
theorem dMd_run_14 : decode cMd_run 14 = .ok (.iload_n 1, 1) := by decide +kernel
theorem dMd_run_15 : decode cMd_run 15 = .ok (.ifCond .le 14, 3) := by decide +kernel
theorem dMd_run_18 : decode cMd_run 18 = .ok (.aload_n 0, 1) := by decide +kernel
theorem dMd_run_19 : decode cMd_run 19 = .ok (.getfield 109, 3) := by decide +kernel
theorem dMd_run_22 : decode cMd_run 22 = .ok (.ifCond .ne 7, 3) := by decide +kernel
theorem dMd_run_25 : decode cMd_run 25 = .ok (.iconst 2, 1) := by decide +kernel
theorem dMd_run_26 : decode cMd_run 26 = .ok (.goto 4, 3) := by decide +kernel
theorem dMd_run_29 : decode cMd_run 29 = .ok (.iconst 0, 1) := by decide +kernel
theorem dMd_run_30 : decode cMd_run 30 = .ok (.putfield 99, 3) := by decide +kernel
theorem dMd_run_33 : decode cMd_run 33 = .ok (.aload_n 0, 1) := by decide +kernel
theorem dMd_run_34 : decode cMd_run 34 = .ok (.getfield 99, 3) := by decide +kernel
theorem dMd_run_37 : decode cMd_run 37 = .ok (.ifCond .eq 5, 3) := by decide +kernel
theorem dMd_run_40 : decode cMd_run 40 = .ok (.iconst 0, 1) := by decide +kernel
theorem dMd_run_41 : decode cMd_run 41 = .ok (.ireturn, 1) := by decide +kernel
theorem dMd_run_42 : decode cMd_run 42 = .ok (.aload_n 0, 1) := by decide +kernel
theorem dMd_run_43 : decode cMd_run 43 = .ok (.iconst 0, 1) := by decide +kernel
theorem dMd_run_44 : decode cMd_run 44 = .ok (.iload_n 1, 1) := by decide +kernel
theorem dMd_run_45 : decode cMd_run 45 = .ok (.ifCond .le 7, 3) := by decide +kernel
theorem dMd_run_48 : decode cMd_run 48 = .ok (.iconst 1, 1) := by decide +kernel
theorem dMd_run_49 : decode cMd_run 49 = .ok (.goto 4, 3) := by decide +kernel
theorem dMd_run_52 : decode cMd_run 52 = .ok (.iconst 0, 1) := by decide +kernel
theorem dMd_run_53 : decode cMd_run 53 = .ok (.invokevirtual 218, 3) := by decide +kernel
theorem dMd_run_56 : decode cMd_run 56 = .ok (.aload_n 0, 1) := by decide +kernel
theorem dMd_run_57 : decode cMd_run 57 = .ok (.aload_n 0, 1) := by decide +kernel
theorem dMd_run_58 : decode cMd_run 58 = .ok (.getfield 83, 3) := by decide +kernel
theorem dMd_run_61 : decode cMd_run 61 = .ok (.iconst 0, 1) := by decide +kernel
theorem dMd_run_62 : decode cMd_run 62 = .ok (.iaload, 1) := by decide +kernel
theorem dMd_run_63 : decode cMd_run 63 = .ok (.ifCond .ne 7, 3) := by decide +kernel
theorem dMd_run_66 : decode cMd_run 66 = .ok (.iconst 0, 1) := by decide +kernel
theorem dMd_run_67 : decode cMd_run 67 = .ok (.goto 11, 3) := by decide +kernel
theorem dMd_run_70 : decode cMd_run 70 = .ok (.aload_n 0, 1) := by decide +kernel
theorem dMd_run_71 : decode cMd_run 71 = .ok (.getfield 83, 3) := by decide +kernel
theorem dMd_run_74 : decode cMd_run 74 = .ok (.iconst 0, 1) := by decide +kernel
theorem dMd_run_75 : decode cMd_run 75 = .ok (.iaload, 1) := by decide +kernel
theorem dMd_run_76 : decode cMd_run 76 = .ok (.iconst 2, 1) := by decide +kernel
theorem dMd_run_77 : decode cMd_run 77 = .ok (.iadd, 1) := by decide +kernel
theorem dMd_run_78 : decode cMd_run 78 = .ok (.putfield 99, 3) := by decide +kernel
theorem dMd_run_81 : decode cMd_run 81 = .ok (.aload_n 0, 1) := by decide +kernel
theorem dMd_run_82 : decode cMd_run 82 = .ok (.getfield 99, 3) := by decide +kernel
theorem dMd_run_85 : decode cMd_run 85 = .ok (.ifCond .ne 12, 3) := by decide +kernel
theorem dMd_run_88 : decode cMd_run 88 = .ok (.aload_n 0, 1) := by decide +kernel
theorem dMd_run_89 : decode cMd_run 89 = .ok (.getfield 80, 3) := by decide +kernel
theorem dMd_run_92 : decode cMd_run 92 = .ok (.iconst 0, 1) := by decide +kernel
theorem dMd_run_93 : decode cMd_run 93 = .ok (.iaload, 1) := by decide +kernel
theorem dMd_run_94 : decode cMd_run 94 = .ok (.goto 4, 3) := by decide +kernel
theorem dMd_run_97 : decode cMd_run 97 = .ok (.iconst 0, 1) := by decide +kernel
theorem dMd_run_98 : decode cMd_run 98 = .ok (.ireturn, 1) := by decide +kernel
theorem dMd_said_0 : decode cMd_said 0 = .ok (.aload_n 0, 1) := by decide +kernel
theorem dMd_said_1 : decode cMd_said 1 = .ok (.iload_n 1, 1) := by decide +kernel
theorem dMd_said_2 : decode cMd_said 2 = .ok (.ifCond .lt 13, 3) := by decide +kernel
theorem dMd_said_5 : decode cMd_said 5 = .ok (.iload_n 1, 1) := by decide +kernel
theorem dMd_said_6 : decode cMd_said 6 = .ok (.aload_n 0, 1) := by decide +kernel
theorem dMd_said_7 : decode cMd_said 7 = .ok (.getfield 80, 3) := by decide +kernel
theorem dMd_said_10 : decode cMd_said 10 = .ok (.iconst 0, 1) := by decide +kernel
theorem dMd_said_11 : decode cMd_said 11 = .ok (.iaload, 1) := by decide +kernel
theorem dMd_said_12 : decode cMd_said 12 = .ok (.if_icmp .lt 7, 3) := by decide +kernel
theorem dMd_said_15 : decode cMd_said 15 = .ok (.iconst 1, 1) := by decide +kernel
theorem dMd_said_16 : decode cMd_said 16 = .ok (.goto 4, 3) := by decide +kernel
theorem dMd_said_19 : decode cMd_said 19 = .ok (.iconst 0, 1) := by decide +kernel
theorem dMd_said_20 : decode cMd_said 20 = .ok (.putfield 99, 3) := by decide +kernel
theorem dMd_said_23 : decode cMd_said 23 = .ok (.aload_n 0, 1) := by decide +kernel
theorem dMd_said_24 : decode cMd_said 24 = .ok (.getfield 99, 3) := by decide +kernel
theorem dMd_said_27 : decode cMd_said 27 = .ok (.ifCond .ne 12, 3) := by decide +kernel
theorem dMd_said_30 : decode cMd_said 30 = .ok (.aload_n 0, 1) := by decide +kernel
theorem dMd_said_31 : decode cMd_said 31 = .ok (.getfield 77, 3) := by decide +kernel
theorem dMd_said_34 : decode cMd_said 34 = .ok (.iload_n 1, 1) := by decide +kernel
theorem dMd_said_35 : decode cMd_said 35 = .ok (.iaload, 1) := by decide +kernel
theorem dMd_said_36 : decode cMd_said 36 = .ok (.goto 4, 3) := by decide +kernel
theorem dMd_said_39 : decode cMd_said 39 = .ok (.iconst 0, 1) := by decide +kernel
theorem dMd_said_40 : decode cMd_said 40 = .ok (.ireturn, 1) := by decide +kernel
theorem dMd_same_0 : decode cMd_same 0 = .ok (.aload_n 0, 1) := by decide +kernel
theorem dMd_same_1 : decode cMd_same 1 = .ok (.iload_n 1, 1) := by decide +kernel
theorem dMd_same_2 : decode cMd_same 2 = .ok (.ifCond .lt 8, 3) := by decide +kernel
theorem dMd_same_5 : decode cMd_same 5 = .ok (.iload_n 1, 1) := by decide +kernel
theorem dMd_same_6 : decode cMd_same 6 = .ok (.iconst 2, 1) := by decide +kernel
theorem dMd_same_7 : decode cMd_same 7 = .ok (.if_icmp .le 7, 3) := by decide +kernel
theorem dMd_same_10 : decode cMd_same 10 = .ok (.iconst 1, 1) := by decide +kernel
theorem dMd_same_11 : decode cMd_same 11 = .ok (.goto 19, 3) := by decide +kernel
theorem dMd_same_14 : decode cMd_same 14 = .ok (.iload_n 1, 1) := by decide +kernel
theorem dMd_same_15 : decode cMd_same 15 = .ok (.ifCond .le 14, 3) := by decide +kernel
theorem dMd_same_18 : decode cMd_same 18 = .ok (.aload_n 0, 1) := by decide +kernel
theorem dMd_same_19 : decode cMd_same 19 = .ok (.getfield 109, 3) := by decide +kernel
theorem dMd_same_22 : decode cMd_same 22 = .ok (.ifCond .ne 7, 3) := by decide +kernel
theorem dMd_same_25 : decode cMd_same 25 = .ok (.iconst 2, 1) := by decide +kernel
theorem dMd_same_26 : decode cMd_same 26 = .ok (.goto 4, 3) := by decide +kernel
theorem dMd_same_29 : decode cMd_same 29 = .ok (.iconst 0, 1) := by decide +kernel
theorem dMd_same_30 : decode cMd_same 30 = .ok (.putfield 99, 3) := by decide +kernel
theorem dMd_same_33 : decode cMd_same 33 = .ok (.aload_n 0, 1) := by decide +kernel
theorem dMd_same_34 : decode cMd_same 34 = .ok (.getfield 99, 3) := by decide +kernel
theorem dMd_same_37 : decode cMd_same 37 = .ok (.ifCond .eq 5, 3) := by decide +kernel
theorem dMd_same_40 : decode cMd_same 40 = .ok (.iconst 0, 1) := by decide +kernel
theorem dMd_same_41 : decode cMd_same 41 = .ok (.ireturn, 1) := by decide +kernel
theorem dMd_same_42 : decode cMd_same 42 = .ok (.aload_n 0, 1) := by decide +kernel
theorem dMd_same_43 : decode cMd_same 43 = .ok (.iconst 1, 1) := by decide +kernel
theorem dMd_same_44 : decode cMd_same 44 = .ok (.iconst 0, 1) := by decide +kernel
theorem dMd_same_45 : decode cMd_same 45 = .ok (.invokevirtual 218, 3) := by decide +kernel
theorem dMd_same_48 : decode cMd_same 48 = .ok (.aload_n 0, 1) := by decide +kernel
theorem dMd_same_49 : decode cMd_same 49 = .ok (.iconst 2, 1) := by decide +kernel
theorem dMd_same_50 : decode cMd_same 50 = .ok (.iload_n 1, 1) := by decide +kernel
theorem dMd_same_51 : decode cMd_same 51 = .ok (.ifCond .le 7, 3) := by decide +kernel
theorem dMd_same_54 : decode cMd_same 54 = .ok (.iconst 1, 1) := by decide +kernel
theorem dMd_same_55 : decode cMd_same 55 = .ok (.goto 4, 3) := by decide +kernel
theorem dMd_same_58 : decode cMd_same 58 = .ok (.iconst 0, 1) := by decide +kernel
theorem dMd_same_59 : decode cMd_same 59 = .ok (.invokevirtual 218, 3) := by decide +kernel
theorem dMd_same_62 : decode cMd_same 62 = .ok (.aload_n 0, 1) := by decide +kernel
theorem dMd_same_63 : decode cMd_same 63 = .ok (.getfield 83, 3) := by decide +kernel
theorem dMd_same_66 : decode cMd_same 66 = .ok (.iconst 1, 1) := by decide +kernel
theorem dMd_same_67 : decode cMd_same 67 = .ok (.iaload, 1) := by decide +kernel
theorem dMd_same_68 : decode cMd_same 68 = .ok (.aload_n 0, 1) := by decide +kernel
theorem dMd_same_69 : decode cMd_same 69 = .ok (.getfield 83, 3) := by decide +kernel
theorem dMd_same_72 : decode cMd_same 72 = .ok (.iconst 2, 1) := by decide +kernel
theorem dMd_same_73 : decode cMd_same 73 = .ok (.iaload, 1) := by decide +kernel
theorem dMd_same_74 : decode cMd_same 74 = .ok (.if_icmp .ne 22, 3) := by decide +kernel
theorem dMd_same_77 : decode cMd_same 77 = .ok (.aload_n 0, 1) := by decide +kernel
theorem dMd_same_78 : decode cMd_same 78 = .ok (.getfield 80, 3) := by decide +kernel
theorem dMd_same_81 : decode cMd_same 81 = .ok (.iconst 1, 1) := by decide +kernel
theorem dMd_same_82 : decode cMd_same 82 = .ok (.iaload, 1) := by decide +kernel
theorem dMd_same_83 : decode cMd_same 83 = .ok (.aload_n 0, 1) := by decide +kernel
theorem dMd_same_84 : decode cMd_same 84 = .ok (.getfield 80, 3) := by decide +kernel
theorem dMd_same_87 : decode cMd_same 87 = .ok (.iconst 2, 1) := by decide +kernel
theorem dMd_same_88 : decode cMd_same 88 = .ok (.iaload, 1) := by decide +kernel
theorem dMd_same_89 : decode cMd_same 89 = .ok (.if_icmp .ne 7, 3) := by decide +kernel
theorem dMd_same_92 : decode cMd_same 92 = .ok (.iconst 1, 1) := by decide +kernel
theorem dMd_same_93 : decode cMd_same 93 = .ok (.goto 4, 3) := by decide +kernel
theorem dMd_same_96 : decode cMd_same 96 = .ok (.iconst 0, 1) := by decide +kernel
theorem dMd_same_97 : decode cMd_same 97 = .ok (.istore_n 2, 1) := by decide +kernel
theorem dMd_same_98 : decode cMd_same 98 = .ok (.iconst 0, 1) := by decide +kernel
theorem dMd_same_99 : decode cMd_same 99 = .ok (.istore_n 3, 1) := by decide +kernel
theorem dMd_same_100 : decode cMd_same 100 = .ok (.iload_n 3, 1) := by decide +kernel
theorem dMd_same_101 : decode cMd_same 101 = .ok (.aload_n 0, 1) := by decide +kernel
theorem dMd_same_102 : decode cMd_same 102 = .ok (.getfield 80, 3) := by decide +kernel
theorem dMd_same_105 : decode cMd_same 105 = .ok (.iconst 1, 1) := by decide +kernel
theorem dMd_same_106 : decode cMd_same 106 = .ok (.iaload, 1) := by decide +kernel
theorem dMd_same_107 : decode cMd_same 107 = .ok (.if_icmp .ge 40, 3) := by decide +kernel
theorem dMd_same_110 : decode cMd_same 110 = .ok (.iload_n 2, 1) := by decide +kernel
theorem dMd_same_111 : decode cMd_same 111 = .ok (.ifCond .eq 36, 3) := by decide +kernel
theorem dMd_same_114 : decode cMd_same 114 = .ok (.aload_n 0, 1) := by decide +kernel
theorem dMd_same_115 : decode cMd_same 115 = .ok (.getfield 77, 3) := by decide +kernel
theorem dMd_same_118 : decode cMd_same 118 = .ok (.bipush 50, 2) := by decide +kernel
theorem dMd_same_120 : decode cMd_same 120 = .ok (.iload_n 3, 1) := by decide +kernel
theorem dMd_same_121 : decode cMd_same 121 = .ok (.iadd, 1) := by decide +kernel
theorem dMd_same_122 : decode cMd_same 122 = .ok (.iaload, 1) := by decide +kernel
theorem dMd_same_123 : decode cMd_same 123 = .ok (.aload_n 0, 1) := by decide +kernel
theorem dMd_same_124 : decode cMd_same 124 = .ok (.getfield 77, 3) := by decide +kernel
theorem dMd_same_127 : decode cMd_same 127 = .ok (.bipush 100, 2) := by decide +kernel
theorem dMd_same_129 : decode cMd_same 129 = .ok (.iload_n 3, 1) := by decide +kernel
theorem dMd_same_130 : decode cMd_same 130 = .ok (.iadd, 1) := by decide +kernel
theorem dMd_same_131 : decode cMd_same 131 = .ok (.iaload, 1) := by decide +kernel
theorem dMd_same_132 : decode cMd_same 132 = .ok (.if_icmp .ne 7, 3) := by decide +kernel
theorem dMd_same_135 : decode cMd_same 135 = .ok (.iconst 1, 1) := by decide +kernel
theorem dMd_same_136 : decode cMd_same 136 = .ok (.goto 4, 3) := by decide +kernel
theorem dMd_same_139 : decode cMd_same 139 = .ok (.iconst 0, 1) := by decide +kernel
theorem dMd_same_140 : decode cMd_same 140 = .ok (.istore_n 2, 1) := by decide +kernel
theorem dMd_same_141 : decode cMd_same 141 = .ok (.iinc 3 1, 3) := by decide +kernel
theorem dMd_same_144 : decode cMd_same 144 = .ok (.goto (-44), 3) := by decide +kernel
theorem dMd_same_147 : decode cMd_same 147 = .ok (.iload_n 2, 1) := by decide +kernel
theorem dMd_same_148 : decode cMd_same 148 = .ok (.ireturn, 1) := by decide +kernel
