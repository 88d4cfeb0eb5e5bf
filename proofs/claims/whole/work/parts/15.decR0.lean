/-! decode rows (written by program) -/
theorem d_R_thrown_0 : decode b_R_thrown 0 = .ok (.aload_n 0, 1) := by decide +kernel
theorem d_R_thrown_1 : decode b_R_thrown 1 = .ok (.getfield 77, 3) := by decide +kernel
theorem d_R_thrown_4 : decode b_R_thrown 4 = .ok (.ireturn, 1) := by decide +kernel
theorem d_R_parameters_0 : decode b_R_parameters 0 = .ok (.aload_n 0, 1) := by decide +kernel
theorem d_R_parameters_1 : decode b_R_parameters 1 = .ok (.iload_n 1, 1) := by decide +kernel
theorem d_R_parameters_2 : decode b_R_parameters 2 = .ok (.invokestatic 81, 3) := by decide +kernel
theorem d_R_parameters_5 : decode b_R_parameters 5 = .ok (.ifCond .eq (12), 3) := by decide +kernel
theorem d_R_parameters_8 : decode b_R_parameters 8 = .ok (.iload_n 2, 1) := by decide +kernel
theorem d_R_parameters_9 : decode b_R_parameters 9 = .ok (.ifCond .lt (8), 3) := by decide +kernel
theorem d_R_parameters_12 : decode b_R_parameters 12 = .ok (.iload_n 2, 1) := by decide +kernel
theorem d_R_parameters_13 : decode b_R_parameters 13 = .ok (.iconst 2, 1) := by decide +kernel
theorem d_R_parameters_14 : decode b_R_parameters 14 = .ok (.if_icmp .le (7), 3) := by decide +kernel
theorem d_R_parameters_17 : decode b_R_parameters 17 = .ok (.iconst 1, 1) := by decide +kernel
theorem d_R_parameters_18 : decode b_R_parameters 18 = .ok (.goto (4), 3) := by decide +kernel
theorem d_R_parameters_21 : decode b_R_parameters 21 = .ok (.iconst 0, 1) := by decide +kernel
theorem d_R_parameters_22 : decode b_R_parameters 22 = .ok (.putfield 77, 3) := by decide +kernel
theorem d_R_parameters_25 : decode b_R_parameters 25 = .ok (.aload_n 0, 1) := by decide +kernel
theorem d_R_parameters_26 : decode b_R_parameters 26 = .ok (.getfield 77, 3) := by decide +kernel
theorem d_R_parameters_29 : decode b_R_parameters 29 = .ok (.ifCond .le (5), 3) := by decide +kernel
theorem d_R_parameters_32 : decode b_R_parameters 32 = .ok (.iconst 0, 1) := by decide +kernel
theorem d_R_parameters_33 : decode b_R_parameters 33 = .ok (.ireturn, 1) := by decide +kernel
theorem d_R_parameters_34 : decode b_R_parameters 34 = .ok (.aload_n 0, 1) := by decide +kernel
theorem d_R_parameters_35 : decode b_R_parameters 35 = .ok (.getfield 7, 3) := by decide +kernel
theorem d_R_parameters_38 : decode b_R_parameters 38 = .ok (.iload_n 1, 1) := by decide +kernel
theorem d_R_parameters_39 : decode b_R_parameters 39 = .ok (.iload_n 2, 1) := by decide +kernel
theorem d_R_parameters_40 : decode b_R_parameters 40 = .ok (.iastore, 1) := by decide +kernel
theorem d_R_parameters_41 : decode b_R_parameters 41 = .ok (.aload_n 0, 1) := by decide +kernel
theorem d_R_parameters_42 : decode b_R_parameters 42 = .ok (.iconst 0, 1) := by decide +kernel
theorem d_R_parameters_43 : decode b_R_parameters 43 = .ok (.putfield 85, 3) := by decide +kernel
theorem d_R_parameters_46 : decode b_R_parameters 46 = .ok (.iconst 1, 1) := by decide +kernel
theorem d_R_parameters_47 : decode b_R_parameters 47 = .ok (.ireturn, 1) := by decide +kernel
theorem d_R_isMethod_0 : decode b_R_isMethod 0 = .ok (.iload_n 0, 1) := by decide +kernel
theorem d_R_isMethod_1 : decode b_R_isMethod 1 = .ok (.ifCond .lt (12), 3) := by decide +kernel
theorem d_R_isMethod_4 : decode b_R_isMethod 4 = .ok (.iload_n 0, 1) := by decide +kernel
theorem d_R_isMethod_5 : decode b_R_isMethod 5 = .ok (.iconst 4, 1) := by decide +kernel
theorem d_R_isMethod_6 : decode b_R_isMethod 6 = .ok (.if_icmp .gt (7), 3) := by decide +kernel
theorem d_R_isMethod_9 : decode b_R_isMethod 9 = .ok (.iconst 1, 1) := by decide +kernel
theorem d_R_isMethod_10 : decode b_R_isMethod 10 = .ok (.goto (4), 3) := by decide +kernel
theorem d_R_isMethod_13 : decode b_R_isMethod 13 = .ok (.iconst 0, 1) := by decide +kernel
theorem d_R_isMethod_14 : decode b_R_isMethod 14 = .ok (.ireturn, 1) := by decide +kernel
theorem d_R_put_0 : decode b_R_put 0 = .ok (.iload_n 1, 1) := by decide +kernel
theorem d_R_put_1 : decode b_R_put 1 = .ok (.invokestatic 81, 3) := by decide +kernel
theorem d_R_put_4 : decode b_R_put 4 = .ok (.ifCond .eq (71), 3) := by decide +kernel
theorem d_R_put_7 : decode b_R_put 7 = .ok (.iload_n 2, 1) := by decide +kernel
theorem d_R_put_8 : decode b_R_put 8 = .ok (.ifCond .lt (67), 3) := by decide +kernel
theorem d_R_put_11 : decode b_R_put 11 = .ok (.iload_n 2, 1) := by decide +kernel
theorem d_R_put_12 : decode b_R_put 12 = .ok (.bipush (18), 2) := by decide +kernel
theorem d_R_put_14 : decode b_R_put 14 = .ok (.if_icmp .gt (61), 3) := by decide +kernel
theorem d_R_put_17 : decode b_R_put 17 = .ok (.iload_n 3, 1) := by decide +kernel
theorem d_R_put_18 : decode b_R_put 18 = .ok (.invokestatic 89, 3) := by decide +kernel
theorem d_R_put_21 : decode b_R_put 21 = .ok (.ifCond .eq (54), 3) := by decide +kernel
theorem d_R_put_24 : decode b_R_put 24 = .ok (.iload 4, 2) := by decide +kernel
theorem d_R_put_26 : decode b_R_put 26 = .ok (.invokestatic 89, 3) := by decide +kernel
theorem d_R_put_29 : decode b_R_put 29 = .ok (.ifCond .eq (46), 3) := by decide +kernel
theorem d_R_put_32 : decode b_R_put 32 = .ok (.iload 5, 2) := by decide +kernel
theorem d_R_put_34 : decode b_R_put 34 = .ok (.invokestatic 89, 3) := by decide +kernel
theorem d_R_put_37 : decode b_R_put 37 = .ok (.ifCond .eq (38), 3) := by decide +kernel
theorem d_R_put_40 : decode b_R_put 40 = .ok (.iload_n 2, 1) := by decide +kernel
theorem d_R_put_41 : decode b_R_put 41 = .ok (.iconst 3, 1) := by decide +kernel
theorem d_R_put_42 : decode b_R_put 42 = .ok (.if_icmp .lt (15), 3) := by decide +kernel
theorem d_R_put_45 : decode b_R_put 45 = .ok (.iload_n 2, 1) := by decide +kernel
theorem d_R_put_46 : decode b_R_put 46 = .ok (.bipush (6), 2) := by decide +kernel
theorem d_R_put_48 : decode b_R_put 48 = .ok (.if_icmp .gt (9), 3) := by decide +kernel
theorem d_R_put_51 : decode b_R_put 51 = .ok (.iload 5, 2) := by decide +kernel
theorem d_R_put_53 : decode b_R_put 53 = .ok (.iconst 1, 1) := by decide +kernel
theorem d_R_put_54 : decode b_R_put 54 = .ok (.if_icmp .gt (21), 3) := by decide +kernel
theorem d_R_put_57 : decode b_R_put 57 = .ok (.iload_n 2, 1) := by decide +kernel
theorem d_R_put_58 : decode b_R_put 58 = .ok (.bipush (16), 2) := by decide +kernel
theorem d_R_put_60 : decode b_R_put 60 = .ok (.if_icmp .ne (11), 3) := by decide +kernel
theorem d_R_put_63 : decode b_R_put 63 = .ok (.iload 6, 2) := by decide +kernel
theorem d_R_put_65 : decode b_R_put 65 = .ok (.invokestatic 81, 3) := by decide +kernel
theorem d_R_put_68 : decode b_R_put 68 = .ok (.ifCond .eq (7), 3) := by decide +kernel
theorem d_R_put_71 : decode b_R_put 71 = .ok (.iconst 1, 1) := by decide +kernel
theorem d_R_put_72 : decode b_R_put 72 = .ok (.goto (4), 3) := by decide +kernel
theorem d_R_put_75 : decode b_R_put 75 = .ok (.iconst 0, 1) := by decide +kernel
theorem d_R_put_76 : decode b_R_put 76 = .ok (.istore 7, 2) := by decide +kernel
theorem d_R_put_78 : decode b_R_put 78 = .ok (.aload_n 0, 1) := by decide +kernel
theorem d_R_put_79 : decode b_R_put 79 = .ok (.iload 7, 2) := by decide +kernel
theorem d_R_put_81 : decode b_R_put 81 = .ok (.ifCond .ne (7), 3) := by decide +kernel
theorem d_R_put_84 : decode b_R_put 84 = .ok (.iconst 1, 1) := by decide +kernel
theorem d_R_put_85 : decode b_R_put 85 = .ok (.goto (19), 3) := by decide +kernel
theorem d_R_put_88 : decode b_R_put 88 = .ok (.aload_n 0, 1) := by decide +kernel
theorem d_R_put_89 : decode b_R_put 89 = .ok (.getfield 13, 3) := by decide +kernel
theorem d_R_put_92 : decode b_R_put 92 = .ok (.iload_n 1, 1) := by decide +kernel
theorem d_R_put_93 : decode b_R_put 93 = .ok (.iaload, 1) := by decide +kernel
theorem d_R_put_94 : decode b_R_put 94 = .ok (.bipush (24), 2) := by decide +kernel
theorem d_R_put_96 : decode b_R_put 96 = .ok (.if_icmp .ne (7), 3) := by decide +kernel
theorem d_R_put_99 : decode b_R_put 99 = .ok (.iconst 2, 1) := by decide +kernel
theorem d_R_put_100 : decode b_R_put 100 = .ok (.goto (4), 3) := by decide +kernel
theorem d_R_put_103 : decode b_R_put 103 = .ok (.iconst 0, 1) := by decide +kernel
theorem d_R_put_104 : decode b_R_put 104 = .ok (.putfield 77, 3) := by decide +kernel
theorem d_R_put_107 : decode b_R_put 107 = .ok (.aload_n 0, 1) := by decide +kernel
theorem d_R_put_108 : decode b_R_put 108 = .ok (.getfield 77, 3) := by decide +kernel
theorem d_R_put_111 : decode b_R_put 111 = .ok (.ifCond .le (5), 3) := by decide +kernel
theorem d_R_put_114 : decode b_R_put 114 = .ok (.iconst 0, 1) := by decide +kernel
theorem d_R_put_115 : decode b_R_put 115 = .ok (.ireturn, 1) := by decide +kernel
theorem d_R_put_116 : decode b_R_put 116 = .ok (.bipush (24), 2) := by decide +kernel
theorem d_R_put_118 : decode b_R_put 118 = .ok (.iload_n 1, 1) := by decide +kernel
theorem d_R_put_119 : decode b_R_put 119 = .ok (.imul, 1) := by decide +kernel
theorem d_R_put_120 : decode b_R_put 120 = .ok (.aload_n 0, 1) := by decide +kernel
theorem d_R_put_121 : decode b_R_put 121 = .ok (.getfield 13, 3) := by decide +kernel
theorem d_R_put_124 : decode b_R_put 124 = .ok (.iload_n 1, 1) := by decide +kernel
theorem d_R_put_125 : decode b_R_put 125 = .ok (.iaload, 1) := by decide +kernel
theorem d_R_put_126 : decode b_R_put 126 = .ok (.iadd, 1) := by decide +kernel
theorem d_R_put_127 : decode b_R_put 127 = .ok (.istore 8, 2) := by decide +kernel
theorem d_R_put_129 : decode b_R_put 129 = .ok (.aload_n 0, 1) := by decide +kernel
theorem d_R_put_130 : decode b_R_put 130 = .ok (.getfield 16, 3) := by decide +kernel
theorem d_R_put_133 : decode b_R_put 133 = .ok (.iload 8, 2) := by decide +kernel
theorem d_R_put_135 : decode b_R_put 135 = .ok (.iload_n 2, 1) := by decide +kernel
theorem d_R_put_136 : decode b_R_put 136 = .ok (.iastore, 1) := by decide +kernel
theorem d_R_put_137 : decode b_R_put 137 = .ok (.aload_n 0, 1) := by decide +kernel
theorem d_R_put_138 : decode b_R_put 138 = .ok (.getfield 19, 3) := by decide +kernel
theorem d_R_put_141 : decode b_R_put 141 = .ok (.iload 8, 2) := by decide +kernel
theorem d_R_put_143 : decode b_R_put 143 = .ok (.iload_n 3, 1) := by decide +kernel
theorem d_R_put_144 : decode b_R_put 144 = .ok (.iastore, 1) := by decide +kernel
theorem d_R_put_145 : decode b_R_put 145 = .ok (.aload_n 0, 1) := by decide +kernel
theorem d_R_put_146 : decode b_R_put 146 = .ok (.getfield 22, 3) := by decide +kernel
theorem d_R_put_149 : decode b_R_put 149 = .ok (.iload 8, 2) := by decide +kernel
theorem d_R_put_151 : decode b_R_put 151 = .ok (.iload 4, 2) := by decide +kernel
theorem d_R_put_153 : decode b_R_put 153 = .ok (.iastore, 1) := by decide +kernel
theorem d_R_put_154 : decode b_R_put 154 = .ok (.aload_n 0, 1) := by decide +kernel
theorem d_R_put_155 : decode b_R_put 155 = .ok (.getfield 25, 3) := by decide +kernel
theorem d_R_put_158 : decode b_R_put 158 = .ok (.iload 8, 2) := by decide +kernel
theorem d_R_put_160 : decode b_R_put 160 = .ok (.iload 5, 2) := by decide +kernel
theorem d_R_put_162 : decode b_R_put 162 = .ok (.iastore, 1) := by decide +kernel
theorem d_R_put_163 : decode b_R_put 163 = .ok (.aload_n 0, 1) := by decide +kernel
theorem d_R_put_164 : decode b_R_put 164 = .ok (.getfield 28, 3) := by decide +kernel
theorem d_R_put_167 : decode b_R_put 167 = .ok (.iload 8, 2) := by decide +kernel
theorem d_R_put_169 : decode b_R_put 169 = .ok (.iload 6, 2) := by decide +kernel
theorem d_R_put_171 : decode b_R_put 171 = .ok (.iastore, 1) := by decide +kernel
theorem d_R_put_172 : decode b_R_put 172 = .ok (.aload_n 0, 1) := by decide +kernel
theorem d_R_put_173 : decode b_R_put 173 = .ok (.getfield 13, 3) := by decide +kernel
theorem d_R_put_176 : decode b_R_put 176 = .ok (.iload_n 1, 1) := by decide +kernel
theorem d_R_put_177 : decode b_R_put 177 = .ok (.dup2, 1) := by decide +kernel
theorem d_R_put_178 : decode b_R_put 178 = .ok (.iaload, 1) := by decide +kernel
theorem d_R_put_179 : decode b_R_put 179 = .ok (.iconst 1, 1) := by decide +kernel
theorem d_R_put_180 : decode b_R_put 180 = .ok (.iadd, 1) := by decide +kernel
theorem d_R_put_181 : decode b_R_put 181 = .ok (.iastore, 1) := by decide +kernel
theorem d_R_put_182 : decode b_R_put 182 = .ok (.aload_n 0, 1) := by decide +kernel
theorem d_R_put_183 : decode b_R_put 183 = .ok (.iconst 0, 1) := by decide +kernel
theorem d_R_put_184 : decode b_R_put 184 = .ok (.putfield 85, 3) := by decide +kernel
theorem d_R_put_187 : decode b_R_put 187 = .ok (.aload_n 0, 1) := by decide +kernel
theorem d_R_put_188 : decode b_R_put 188 = .ok (.getfield 13, 3) := by decide +kernel
theorem d_R_put_191 : decode b_R_put 191 = .ok (.iload_n 1, 1) := by decide +kernel
theorem d_R_put_192 : decode b_R_put 192 = .ok (.iaload, 1) := by decide +kernel
theorem d_R_put_193 : decode b_R_put 193 = .ok (.iconst 1, 1) := by decide +kernel
theorem d_R_put_194 : decode b_R_put 194 = .ok (.isub, 1) := by decide +kernel
theorem d_R_put_195 : decode b_R_put 195 = .ok (.ireturn, 1) := by decide +kernel
theorem d_R_four_0 : decode b_R_four 0 = .ok (.iload_n 0, 1) := by decide +kernel
theorem d_R_four_1 : decode b_R_four 1 = .ok (.ifCond .lt (12), 3) := by decide +kernel
theorem d_R_four_4 : decode b_R_four 4 = .ok (.iload_n 0, 1) := by decide +kernel
theorem d_R_four_5 : decode b_R_four 5 = .ok (.iconst 3, 1) := by decide +kernel
theorem d_R_four_6 : decode b_R_four 6 = .ok (.if_icmp .gt (7), 3) := by decide +kernel
theorem d_R_four_9 : decode b_R_four 9 = .ok (.iconst 1, 1) := by decide +kernel
theorem d_R_four_10 : decode b_R_four 10 = .ok (.goto (4), 3) := by decide +kernel
theorem d_R_four_13 : decode b_R_four 13 = .ok (.iconst 0, 1) := by decide +kernel
theorem d_R_four_14 : decode b_R_four 14 = .ok (.ireturn, 1) := by decide +kernel
theorem d_R_clear_0 : decode b_R_clear 0 = .ok (.aload_n 0, 1) := by decide +kernel
theorem d_R_clear_1 : decode b_R_clear 1 = .ok (.iload_n 1, 1) := by decide +kernel
theorem d_R_clear_2 : decode b_R_clear 2 = .ok (.invokestatic 81, 3) := by decide +kernel
theorem d_R_clear_5 : decode b_R_clear 5 = .ok (.ifCond .eq (7), 3) := by decide +kernel
theorem d_R_clear_8 : decode b_R_clear 8 = .ok (.iconst 0, 1) := by decide +kernel
theorem d_R_clear_9 : decode b_R_clear 9 = .ok (.goto (4), 3) := by decide +kernel
theorem d_R_clear_12 : decode b_R_clear 12 = .ok (.iconst 1, 1) := by decide +kernel
theorem d_R_clear_13 : decode b_R_clear 13 = .ok (.putfield 77, 3) := by decide +kernel
theorem d_R_clear_16 : decode b_R_clear 16 = .ok (.aload_n 0, 1) := by decide +kernel
theorem d_R_clear_17 : decode b_R_clear 17 = .ok (.getfield 77, 3) := by decide +kernel
theorem d_R_clear_20 : decode b_R_clear 20 = .ok (.ifCond .le (5), 3) := by decide +kernel
theorem d_R_clear_23 : decode b_R_clear 23 = .ok (.iconst 0, 1) := by decide +kernel
theorem d_R_clear_24 : decode b_R_clear 24 = .ok (.ireturn, 1) := by decide +kernel
theorem d_R_clear_25 : decode b_R_clear 25 = .ok (.aload_n 0, 1) := by decide +kernel
theorem d_R_clear_26 : decode b_R_clear 26 = .ok (.getfield 13, 3) := by decide +kernel
theorem d_R_clear_29 : decode b_R_clear 29 = .ok (.iload_n 1, 1) := by decide +kernel
theorem d_R_clear_30 : decode b_R_clear 30 = .ok (.iaload, 1) := by decide +kernel
theorem d_R_clear_31 : decode b_R_clear 31 = .ok (.istore_n 2, 1) := by decide +kernel
theorem d_R_clear_32 : decode b_R_clear 32 = .ok (.aload_n 0, 1) := by decide +kernel
theorem d_R_clear_33 : decode b_R_clear 33 = .ok (.getfield 13, 3) := by decide +kernel
theorem d_R_clear_36 : decode b_R_clear 36 = .ok (.iload_n 1, 1) := by decide +kernel
theorem d_R_clear_37 : decode b_R_clear 37 = .ok (.iconst 0, 1) := by decide +kernel
theorem d_R_clear_38 : decode b_R_clear 38 = .ok (.iastore, 1) := by decide +kernel
theorem d_R_clear_39 : decode b_R_clear 39 = .ok (.aload_n 0, 1) := by decide +kernel
theorem d_R_clear_40 : decode b_R_clear 40 = .ok (.iconst 0, 1) := by decide +kernel
theorem d_R_clear_41 : decode b_R_clear 41 = .ok (.putfield 85, 3) := by decide +kernel
theorem d_R_clear_44 : decode b_R_clear 44 = .ok (.iload_n 2, 1) := by decide +kernel
theorem d_R_clear_45 : decode b_R_clear 45 = .ok (.ireturn, 1) := by decide +kernel
theorem d_R_run_0 : decode b_R_run 0 = .ok (.aload_n 0, 1) := by decide +kernel
theorem d_R_run_1 : decode b_R_run 1 = .ok (.iconst 0, 1) := by decide +kernel
theorem d_R_run_2 : decode b_R_run 2 = .ok (.putfield 77, 3) := by decide +kernel
theorem d_R_run_5 : decode b_R_run 5 = .ok (.aload_n 0, 1) := by decide +kernel
theorem d_R_run_6 : decode b_R_run 6 = .ok (.invokevirtual 195, 3) := by decide +kernel
theorem d_R_run_9 : decode b_R_run 9 = .ok (.iconst 0, 1) := by decide +kernel
theorem d_R_run_10 : decode b_R_run 10 = .ok (.istore_n 2, 1) := by decide +kernel
theorem d_R_run_11 : decode b_R_run 11 = .ok (.iload_n 2, 1) := by decide +kernel
theorem d_R_run_12 : decode b_R_run 12 = .ok (.iconst 5, 1) := by decide +kernel
theorem d_R_run_13 : decode b_R_run 13 = .ok (.if_icmp .ge (56), 3) := by decide +kernel
theorem d_R_run_16 : decode b_R_run 16 = .ok (.iconst 0, 1) := by decide +kernel
theorem d_R_run_17 : decode b_R_run 17 = .ok (.istore_n 3, 1) := by decide +kernel
theorem d_R_run_18 : decode b_R_run 18 = .ok (.iload_n 3, 1) := by decide +kernel
theorem d_R_run_19 : decode b_R_run 19 = .ok (.aload_n 0, 1) := by decide +kernel
theorem d_R_run_20 : decode b_R_run 20 = .ok (.getfield 13, 3) := by decide +kernel
theorem d_R_run_23 : decode b_R_run 23 = .ok (.iload_n 2, 1) := by decide +kernel
theorem d_R_run_24 : decode b_R_run 24 = .ok (.iaload, 1) := by decide +kernel
theorem d_R_run_25 : decode b_R_run 25 = .ok (.if_icmp .ge (38), 3) := by decide +kernel
theorem d_R_run_28 : decode b_R_run 28 = .ok (.iload_n 1, 1) := by decide +kernel
theorem d_R_run_29 : decode b_R_run 29 = .ok (.ifCond .eq (12), 3) := by decide +kernel
theorem d_R_run_32 : decode b_R_run 32 = .ok (.aload_n 0, 1) := by decide +kernel
theorem d_R_run_33 : decode b_R_run 33 = .ok (.iload_n 2, 1) := by decide +kernel
theorem d_R_run_34 : decode b_R_run 34 = .ok (.iload_n 3, 1) := by decide +kernel
theorem d_R_run_35 : decode b_R_run 35 = .ok (.invokevirtual 198, 3) := by decide +kernel
theorem d_R_run_38 : decode b_R_run 38 = .ok (.goto (4), 3) := by decide +kernel
theorem d_R_run_41 : decode b_R_run 41 = .ok (.iconst 0, 1) := by decide +kernel
theorem d_R_run_42 : decode b_R_run 42 = .ok (.istore 4, 2) := by decide +kernel
theorem d_R_run_44 : decode b_R_run 44 = .ok (.aload_n 0, 1) := by decide +kernel
theorem d_R_run_45 : decode b_R_run 45 = .ok (.getfield 74, 3) := by decide +kernel
theorem d_R_run_48 : decode b_R_run 48 = .ok (.bipush (24), 2) := by decide +kernel
theorem d_R_run_50 : decode b_R_run 50 = .ok (.iload_n 2, 1) := by decide +kernel
theorem d_R_run_51 : decode b_R_run 51 = .ok (.imul, 1) := by decide +kernel
theorem d_R_run_52 : decode b_R_run 52 = .ok (.iload_n 3, 1) := by decide +kernel
theorem d_R_run_53 : decode b_R_run 53 = .ok (.iadd, 1) := by decide +kernel
theorem d_R_run_54 : decode b_R_run 54 = .ok (.iload 4, 2) := by decide +kernel
theorem d_R_run_56 : decode b_R_run 56 = .ok (.iastore, 1) := by decide +kernel
theorem d_R_run_57 : decode b_R_run 57 = .ok (.iinc 3 (1), 3) := by decide +kernel
theorem d_R_run_60 : decode b_R_run 60 = .ok (.goto (-42), 3) := by decide +kernel
theorem d_R_run_63 : decode b_R_run 63 = .ok (.iinc 2 (1), 3) := by decide +kernel
theorem d_R_run_66 : decode b_R_run 66 = .ok (.goto (-55), 3) := by decide +kernel
theorem d_R_run_69 : decode b_R_run 69 = .ok (.aload_n 0, 1) := by decide +kernel
theorem d_R_run_70 : decode b_R_run 70 = .ok (.iconst 0, 1) := by decide +kernel
theorem d_R_run_71 : decode b_R_run 71 = .ok (.putfield 157, 3) := by decide +kernel
theorem d_R_run_74 : decode b_R_run 74 = .ok (.aload_n 0, 1) := by decide +kernel
theorem d_R_run_75 : decode b_R_run 75 = .ok (.iconst 0, 1) := by decide +kernel
theorem d_R_run_76 : decode b_R_run 76 = .ok (.putfield 170, 3) := by decide +kernel
theorem d_R_run_79 : decode b_R_run 79 = .ok (.aload_n 0, 1) := by decide +kernel
theorem d_R_run_80 : decode b_R_run 80 = .ok (.iconst 0, 1) := by decide +kernel
theorem d_R_run_81 : decode b_R_run 81 = .ok (.putfield 160, 3) := by decide +kernel
theorem d_R_run_84 : decode b_R_run 84 = .ok (.aload_n 0, 1) := by decide +kernel
theorem d_R_run_85 : decode b_R_run 85 = .ok (.iconst 0, 1) := by decide +kernel
theorem d_R_run_86 : decode b_R_run 86 = .ok (.putfield 179, 3) := by decide +kernel
theorem d_R_run_89 : decode b_R_run 89 = .ok (.aload_n 0, 1) := by decide +kernel
theorem d_R_run_90 : decode b_R_run 90 = .ok (.iconst 0, 1) := by decide +kernel
theorem d_R_run_91 : decode b_R_run 91 = .ok (.putfield 201, 3) := by decide +kernel
theorem d_R_run_94 : decode b_R_run 94 = .ok (.aload_n 0, 1) := by decide +kernel
theorem d_R_run_95 : decode b_R_run 95 = .ok (.iconst 0, 1) := by decide +kernel
theorem d_R_run_96 : decode b_R_run 96 = .ok (.putfield 167, 3) := by decide +kernel
theorem d_R_run_99 : decode b_R_run 99 = .ok (.iconst 0, 1) := by decide +kernel
theorem d_R_run_100 : decode b_R_run 100 = .ok (.istore_n 2, 1) := by decide +kernel
theorem d_R_run_101 : decode b_R_run 101 = .ok (.iload_n 2, 1) := by decide +kernel
theorem d_R_run_102 : decode b_R_run 102 = .ok (.iconst 4, 1) := by decide +kernel
theorem d_R_run_103 : decode b_R_run 103 = .ok (.if_icmp .ge (16), 3) := by decide +kernel
theorem d_R_run_106 : decode b_R_run 106 = .ok (.aload_n 0, 1) := by decide +kernel
theorem d_R_run_107 : decode b_R_run 107 = .ok (.getfield 68, 3) := by decide +kernel
theorem d_R_run_110 : decode b_R_run 110 = .ok (.iload_n 2, 1) := by decide +kernel
theorem d_R_run_111 : decode b_R_run 111 = .ok (.iconst 0, 1) := by decide +kernel
theorem d_R_run_112 : decode b_R_run 112 = .ok (.iastore, 1) := by decide +kernel
theorem d_R_run_113 : decode b_R_run 113 = .ok (.iinc 2 (1), 3) := by decide +kernel
theorem d_R_run_116 : decode b_R_run 116 = .ok (.goto (-15), 3) := by decide +kernel
theorem d_R_run_119 : decode b_R_run 119 = .ok (.aload_n 0, 1) := by decide +kernel
theorem d_R_run_120 : decode b_R_run 120 = .ok (.iconst 0, 1) := by decide +kernel
theorem d_R_run_121 : decode b_R_run 121 = .ok (.iconst 0, 1) := by decide +kernel
theorem d_R_run_122 : decode b_R_run 122 = .ok (.iconst 0, 1) := by decide +kernel
theorem d_R_run_123 : decode b_R_run 123 = .ok (.iconst 0, 1) := by decide +kernel
theorem d_R_run_124 : decode b_R_run 124 = .ok (.invokevirtual 173, 3) := by decide +kernel
theorem d_R_run_127 : decode b_R_run 127 = .ok (.aload_n 0, 1) := by decide +kernel
theorem d_R_run_128 : decode b_R_run 128 = .ok (.getfield 157, 3) := by decide +kernel
theorem d_R_run_131 : decode b_R_run 131 = .ok (.ifCond .le (108), 3) := by decide +kernel
theorem d_R_run_134 : decode b_R_run 134 = .ok (.aload_n 0, 1) := by decide +kernel
theorem d_R_run_135 : decode b_R_run 135 = .ok (.getfield 160, 3) := by decide +kernel
theorem d_R_run_138 : decode b_R_run 138 = .ok (.ifCond .ne (101), 3) := by decide +kernel
theorem d_R_run_141 : decode b_R_run 141 = .ok (.aload_n 0, 1) := by decide +kernel
theorem d_R_run_142 : decode b_R_run 142 = .ok (.getfield 47, 3) := by decide +kernel
theorem d_R_run_145 : decode b_R_run 145 = .ok (.aload_n 0, 1) := by decide +kernel
theorem d_R_run_146 : decode b_R_run 146 = .ok (.getfield 157, 3) := by decide +kernel
theorem d_R_run_149 : decode b_R_run 149 = .ok (.iconst 1, 1) := by decide +kernel
theorem d_R_run_150 : decode b_R_run 150 = .ok (.isub, 1) := by decide +kernel
theorem d_R_run_151 : decode b_R_run 151 = .ok (.iaload, 1) := by decide +kernel
theorem d_R_run_152 : decode b_R_run 152 = .ok (.istore_n 2, 1) := by decide +kernel
theorem d_R_run_153 : decode b_R_run 153 = .ok (.aload_n 0, 1) := by decide +kernel
theorem d_R_run_154 : decode b_R_run 154 = .ok (.getfield 50, 3) := by decide +kernel
theorem d_R_run_157 : decode b_R_run 157 = .ok (.aload_n 0, 1) := by decide +kernel
theorem d_R_run_158 : decode b_R_run 158 = .ok (.getfield 157, 3) := by decide +kernel
theorem d_R_run_161 : decode b_R_run 161 = .ok (.iconst 1, 1) := by decide +kernel
theorem d_R_run_162 : decode b_R_run 162 = .ok (.isub, 1) := by decide +kernel
theorem d_R_run_163 : decode b_R_run 163 = .ok (.iaload, 1) := by decide +kernel
theorem d_R_run_164 : decode b_R_run 164 = .ok (.istore_n 3, 1) := by decide +kernel
theorem d_R_run_165 : decode b_R_run 165 = .ok (.iload_n 3, 1) := by decide +kernel
theorem d_R_run_166 : decode b_R_run 166 = .ok (.ifCond .lt (13), 3) := by decide +kernel
theorem d_R_run_169 : decode b_R_run 169 = .ok (.iload_n 3, 1) := by decide +kernel
theorem d_R_run_170 : decode b_R_run 170 = .ok (.aload_n 0, 1) := by decide +kernel
theorem d_R_run_171 : decode b_R_run 171 = .ok (.getfield 13, 3) := by decide +kernel
theorem d_R_run_174 : decode b_R_run 174 = .ok (.iload_n 2, 1) := by decide +kernel
theorem d_R_run_175 : decode b_R_run 175 = .ok (.iaload, 1) := by decide +kernel
theorem d_R_run_176 : decode b_R_run 176 = .ok (.if_icmp .lt (11), 3) := by decide +kernel
theorem d_R_run_179 : decode b_R_run 179 = .ok (.aload_n 0, 1) := by decide +kernel
theorem d_R_run_180 : decode b_R_run 180 = .ok (.iconst 0, 1) := by decide +kernel
theorem d_R_run_181 : decode b_R_run 181 = .ok (.invokevirtual 176, 3) := by decide +kernel
theorem d_R_run_184 : decode b_R_run 184 = .ok (.goto (52), 3) := by decide +kernel
theorem d_R_run_187 : decode b_R_run 187 = .ok (.aload_n 0, 1) := by decide +kernel
theorem d_R_run_188 : decode b_R_run 188 = .ok (.getfield 201, 3) := by decide +kernel
theorem d_R_run_191 : decode b_R_run 191 = .ok (.sipush (400), 3) := by decide +kernel
theorem d_R_run_194 : decode b_R_run 194 = .ok (.if_icmp .ne (11), 3) := by decide +kernel
theorem d_R_run_197 : decode b_R_run 197 = .ok (.aload_n 0, 1) := by decide +kernel
theorem d_R_run_198 : decode b_R_run 198 = .ok (.iconst 4, 1) := by decide +kernel
theorem d_R_run_199 : decode b_R_run 199 = .ok (.putfield 160, 3) := by decide +kernel
theorem d_R_run_202 : decode b_R_run 202 = .ok (.goto (34), 3) := by decide +kernel
theorem d_R_run_205 : decode b_R_run 205 = .ok (.aload_n 0, 1) := by decide +kernel
theorem d_R_run_206 : decode b_R_run 206 = .ok (.dup, 1) := by decide +kernel
theorem d_R_run_207 : decode b_R_run 207 = .ok (.getfield 201, 3) := by decide +kernel
theorem d_R_run_210 : decode b_R_run 210 = .ok (.iconst 1, 1) := by decide +kernel
theorem d_R_run_211 : decode b_R_run 211 = .ok (.iadd, 1) := by decide +kernel
theorem d_R_run_212 : decode b_R_run 212 = .ok (.putfield 201, 3) := by decide +kernel
theorem d_R_run_215 : decode b_R_run 215 = .ok (.aload_n 0, 1) := by decide +kernel
theorem d_R_run_216 : decode b_R_run 216 = .ok (.bipush (24), 2) := by decide +kernel
theorem d_R_run_218 : decode b_R_run 218 = .ok (.iload_n 2, 1) := by decide +kernel
theorem d_R_run_219 : decode b_R_run 219 = .ok (.imul, 1) := by decide +kernel
theorem d_R_run_220 : decode b_R_run 220 = .ok (.iload_n 3, 1) := by decide +kernel
theorem d_R_run_221 : decode b_R_run 221 = .ok (.iadd, 1) := by decide +kernel
theorem d_R_run_222 : decode b_R_run 222 = .ok (.aload_n 0, 1) := by decide +kernel
theorem d_R_run_223 : decode b_R_run 223 = .ok (.getfield 74, 3) := by decide +kernel
theorem d_R_run_226 : decode b_R_run 226 = .ok (.bipush (24), 2) := by decide +kernel
theorem d_R_run_228 : decode b_R_run 228 = .ok (.iload_n 2, 1) := by decide +kernel
theorem d_R_run_229 : decode b_R_run 229 = .ok (.imul, 1) := by decide +kernel
theorem d_R_run_230 : decode b_R_run 230 = .ok (.iload_n 3, 1) := by decide +kernel
theorem d_R_run_231 : decode b_R_run 231 = .ok (.iadd, 1) := by decide +kernel
theorem d_R_run_232 : decode b_R_run 232 = .ok (.iaload, 1) := by decide +kernel
theorem d_R_run_233 : decode b_R_run 233 = .ok (.invokevirtual 204, 3) := by decide +kernel
theorem d_R_run_236 : decode b_R_run 236 = .ok (.goto (-109), 3) := by decide +kernel
theorem d_R_run_239 : decode b_R_run 239 = .ok (.aload_n 0, 1) := by decide +kernel
theorem d_R_run_240 : decode b_R_run 240 = .ok (.getfield 160, 3) := by decide +kernel
theorem d_R_run_243 : decode b_R_run 243 = .ok (.ireturn, 1) := by decide +kernel
theorem d_R_know_0 : decode b_R_know 0 = .ok (.iconst 4, 1) := by decide +kernel
theorem d_R_know_1 : decode b_R_know 1 = .ok (.istore_n 1, 1) := by decide +kernel
theorem d_R_know_2 : decode b_R_know 2 = .ok (.iload_n 1, 1) := by decide +kernel
theorem d_R_know_3 : decode b_R_know 3 = .ok (.ifCond .lt (21), 3) := by decide +kernel
theorem d_R_know_6 : decode b_R_know 6 = .ok (.aload_n 0, 1) := by decide +kernel
theorem d_R_know_7 : decode b_R_know 7 = .ok (.getfield 85, 3) := by decide +kernel
theorem d_R_know_10 : decode b_R_know 10 = .ok (.ifCond .ne (14), 3) := by decide +kernel
theorem d_R_know_13 : decode b_R_know 13 = .ok (.aload_n 0, 1) := by decide +kernel
theorem d_R_know_14 : decode b_R_know 14 = .ok (.iload_n 1, 1) := by decide +kernel
theorem d_R_know_15 : decode b_R_know 15 = .ok (.invokevirtual 121, 3) := by decide +kernel
theorem d_R_know_18 : decode b_R_know 18 = .ok (.iinc 1 (-1), 3) := by decide +kernel
theorem d_R_know_21 : decode b_R_know 21 = .ok (.goto (-19), 3) := by decide +kernel
theorem d_R_know_24 : decode b_R_know 24 = .ok (.aload_n 0, 1) := by decide +kernel
theorem d_R_know_25 : decode b_R_know 25 = .ok (.iconst 1, 1) := by decide +kernel
theorem d_R_know_26 : decode b_R_know 26 = .ok (.putfield 85, 3) := by decide +kernel
theorem d_R_know_29 : decode b_R_know 29 = .ok (.return_, 1) := by decide +kernel
theorem d_R_analyse_0 : decode b_R_analyse 0 = .ok (.iconst 0, 1) := by decide +kernel
theorem d_R_analyse_1 : decode b_R_analyse 1 = .ok (.istore_n 2, 1) := by decide +kernel
theorem d_R_analyse_2 : decode b_R_analyse 2 = .ok (.iload_n 2, 1) := by decide +kernel
theorem d_R_analyse_3 : decode b_R_analyse 3 = .ok (.iconst 4, 1) := by decide +kernel
theorem d_R_analyse_4 : decode b_R_analyse 4 = .ok (.if_icmp .ge (20), 3) := by decide +kernel
theorem d_R_analyse_7 : decode b_R_analyse 7 = .ok (.aload_n 0, 1) := by decide +kernel
theorem d_R_analyse_8 : decode b_R_analyse 8 = .ok (.getfield 31, 3) := by decide +kernel
theorem d_R_analyse_11 : decode b_R_analyse 11 = .ok (.iconst 4, 1) := by decide +kernel
theorem d_R_analyse_12 : decode b_R_analyse 12 = .ok (.iload_n 1, 1) := by decide +kernel
theorem d_R_analyse_13 : decode b_R_analyse 13 = .ok (.imul, 1) := by decide +kernel
theorem d_R_analyse_14 : decode b_R_analyse 14 = .ok (.iload_n 2, 1) := by decide +kernel
theorem d_R_analyse_15 : decode b_R_analyse 15 = .ok (.iadd, 1) := by decide +kernel
theorem d_R_analyse_16 : decode b_R_analyse 16 = .ok (.iconst 0, 1) := by decide +kernel
theorem d_R_analyse_17 : decode b_R_analyse 17 = .ok (.iastore, 1) := by decide +kernel
theorem d_R_analyse_18 : decode b_R_analyse 18 = .ok (.iinc 2 (1), 3) := by decide +kernel
theorem d_R_analyse_21 : decode b_R_analyse 21 = .ok (.goto (-19), 3) := by decide +kernel
theorem d_R_analyse_24 : decode b_R_analyse 24 = .ok (.iconst 0, 1) := by decide +kernel
theorem d_R_analyse_25 : decode b_R_analyse 25 = .ok (.istore_n 2, 1) := by decide +kernel
theorem d_R_analyse_26 : decode b_R_analyse 26 = .ok (.iload_n 2, 1) := by decide +kernel
theorem d_R_analyse_27 : decode b_R_analyse 27 = .ok (.bipush (54), 2) := by decide +kernel
theorem d_R_analyse_29 : decode b_R_analyse 29 = .ok (.if_icmp .ge (21), 3) := by decide +kernel
theorem d_R_analyse_32 : decode b_R_analyse 32 = .ok (.aload_n 0, 1) := by decide +kernel
theorem d_R_analyse_33 : decode b_R_analyse 33 = .ok (.getfield 34, 3) := by decide +kernel
theorem d_R_analyse_36 : decode b_R_analyse 36 = .ok (.bipush (54), 2) := by decide +kernel
theorem d_R_analyse_38 : decode b_R_analyse 38 = .ok (.iload_n 1, 1) := by decide +kernel
theorem d_R_analyse_39 : decode b_R_analyse 39 = .ok (.imul, 1) := by decide +kernel
theorem d_R_analyse_40 : decode b_R_analyse 40 = .ok (.iload_n 2, 1) := by decide +kernel
theorem d_R_analyse_41 : decode b_R_analyse 41 = .ok (.iadd, 1) := by decide +kernel
theorem d_R_analyse_42 : decode b_R_analyse 42 = .ok (.iconst 0, 1) := by decide +kernel
theorem d_R_analyse_43 : decode b_R_analyse 43 = .ok (.iastore, 1) := by decide +kernel
theorem d_R_analyse_44 : decode b_R_analyse 44 = .ok (.iinc 2 (1), 3) := by decide +kernel
theorem d_R_analyse_47 : decode b_R_analyse 47 = .ok (.goto (-21), 3) := by decide +kernel
theorem d_R_analyse_50 : decode b_R_analyse 50 = .ok (.aload_n 0, 1) := by decide +kernel
theorem d_R_analyse_51 : decode b_R_analyse 51 = .ok (.getfield 37, 3) := by decide +kernel
theorem d_R_analyse_54 : decode b_R_analyse 54 = .ok (.iload_n 1, 1) := by decide +kernel
theorem d_R_analyse_55 : decode b_R_analyse 55 = .ok (.iconst 0, 1) := by decide +kernel
theorem d_R_analyse_56 : decode b_R_analyse 56 = .ok (.iastore, 1) := by decide +kernel
theorem d_R_analyse_57 : decode b_R_analyse 57 = .ok (.aload_n 0, 1) := by decide +kernel
theorem d_R_analyse_58 : decode b_R_analyse 58 = .ok (.getfield 40, 3) := by decide +kernel
theorem d_R_analyse_61 : decode b_R_analyse 61 = .ok (.iconst 2, 1) := by decide +kernel
theorem d_R_analyse_62 : decode b_R_analyse 62 = .ok (.iload_n 1, 1) := by decide +kernel
theorem d_R_analyse_63 : decode b_R_analyse 63 = .ok (.imul, 1) := by decide +kernel
theorem d_R_analyse_64 : decode b_R_analyse 64 = .ok (.iconst 0, 1) := by decide +kernel
theorem d_R_analyse_65 : decode b_R_analyse 65 = .ok (.iastore, 1) := by decide +kernel
theorem d_R_analyse_66 : decode b_R_analyse 66 = .ok (.aload_n 0, 1) := by decide +kernel
theorem d_R_analyse_67 : decode b_R_analyse 67 = .ok (.getfield 40, 3) := by decide +kernel
theorem d_R_analyse_70 : decode b_R_analyse 70 = .ok (.iconst 2, 1) := by decide +kernel
theorem d_R_analyse_71 : decode b_R_analyse 71 = .ok (.iload_n 1, 1) := by decide +kernel
theorem d_R_analyse_72 : decode b_R_analyse 72 = .ok (.imul, 1) := by decide +kernel
theorem d_R_analyse_73 : decode b_R_analyse 73 = .ok (.iconst 1, 1) := by decide +kernel
theorem d_R_analyse_74 : decode b_R_analyse 74 = .ok (.iadd, 1) := by decide +kernel
theorem d_R_analyse_75 : decode b_R_analyse 75 = .ok (.iconst 0, 1) := by decide +kernel
theorem d_R_analyse_76 : decode b_R_analyse 76 = .ok (.iastore, 1) := by decide +kernel
theorem d_R_analyse_77 : decode b_R_analyse 77 = .ok (.aload_n 0, 1) := by decide +kernel
theorem d_R_analyse_78 : decode b_R_analyse 78 = .ok (.getfield 13, 3) := by decide +kernel
theorem d_R_analyse_81 : decode b_R_analyse 81 = .ok (.iload_n 1, 1) := by decide +kernel
theorem d_R_analyse_82 : decode b_R_analyse 82 = .ok (.iaload, 1) := by decide +kernel
theorem d_R_analyse_83 : decode b_R_analyse 83 = .ok (.ifCond .ne (4), 3) := by decide +kernel
theorem d_R_analyse_86 : decode b_R_analyse 86 = .ok (.return_, 1) := by decide +kernel
theorem d_R_analyse_87 : decode b_R_analyse 87 = .ok (.aload_n 0, 1) := by decide +kernel
theorem d_R_analyse_88 : decode b_R_analyse 88 = .ok (.iload_n 1, 1) := by decide +kernel
theorem d_R_analyse_89 : decode b_R_analyse 89 = .ok (.ldc 92, 2) := by decide +kernel
theorem d_R_analyse_91 : decode b_R_analyse 91 = .ok (.iconst 2, 1) := by decide +kernel
theorem d_R_analyse_92 : decode b_R_analyse 92 = .ok (.ldc 92, 2) := by decide +kernel
theorem d_R_analyse_94 : decode b_R_analyse 94 = .ok (.invokevirtual 97, 3) := by decide +kernel
theorem d_R_analyse_97 : decode b_R_analyse 97 = .ok (.iconst 0, 1) := by decide +kernel
theorem d_R_analyse_98 : decode b_R_analyse 98 = .ok (.istore_n 2, 1) := by decide +kernel
theorem d_R_analyse_99 : decode b_R_analyse 99 = .ok (.iload_n 2, 1) := by decide +kernel
theorem d_R_analyse_100 : decode b_R_analyse 100 = .ok (.aload_n 0, 1) := by decide +kernel
theorem d_R_analyse_101 : decode b_R_analyse 101 = .ok (.getfield 7, 3) := by decide +kernel
theorem d_R_analyse_104 : decode b_R_analyse 104 = .ok (.iload_n 1, 1) := by decide +kernel
theorem d_R_analyse_105 : decode b_R_analyse 105 = .ok (.iaload, 1) := by decide +kernel
theorem d_R_analyse_106 : decode b_R_analyse 106 = .ok (.if_icmp .ge (43), 3) := by decide +kernel
theorem d_R_analyse_109 : decode b_R_analyse 109 = .ok (.aload_n 0, 1) := by decide +kernel
theorem d_R_analyse_110 : decode b_R_analyse 110 = .ok (.getfield 31, 3) := by decide +kernel
theorem d_R_analyse_113 : decode b_R_analyse 113 = .ok (.iconst 4, 1) := by decide +kernel
theorem d_R_analyse_114 : decode b_R_analyse 114 = .ok (.iload_n 1, 1) := by decide +kernel
theorem d_R_analyse_115 : decode b_R_analyse 115 = .ok (.imul, 1) := by decide +kernel
theorem d_R_analyse_116 : decode b_R_analyse 116 = .ok (.iload_n 2, 1) := by decide +kernel
theorem d_R_analyse_117 : decode b_R_analyse 117 = .ok (.iadd, 1) := by decide +kernel
theorem d_R_analyse_118 : decode b_R_analyse 118 = .ok (.iconst 1, 1) := by decide +kernel
theorem d_R_analyse_119 : decode b_R_analyse 119 = .ok (.bipush (24), 2) := by decide +kernel
theorem d_R_analyse_121 : decode b_R_analyse 121 = .ok (.iload_n 2, 1) := by decide +kernel
theorem d_R_analyse_122 : decode b_R_analyse 122 = .ok (.iadd, 1) := by decide +kernel
theorem d_R_analyse_123 : decode b_R_analyse 123 = .ok (.ishl, 1) := by decide +kernel
theorem d_R_analyse_124 : decode b_R_analyse 124 = .ok (.iastore, 1) := by decide +kernel
theorem d_R_analyse_125 : decode b_R_analyse 125 = .ok (.aload_n 0, 1) := by decide +kernel
theorem d_R_analyse_126 : decode b_R_analyse 126 = .ok (.iload_n 1, 1) := by decide +kernel
theorem d_R_analyse_127 : decode b_R_analyse 127 = .ok (.iconst 1, 1) := by decide +kernel
theorem d_R_analyse_128 : decode b_R_analyse 128 = .ok (.bipush (24), 2) := by decide +kernel
theorem d_R_analyse_130 : decode b_R_analyse 130 = .ok (.iload_n 2, 1) := by decide +kernel
theorem d_R_analyse_131 : decode b_R_analyse 131 = .ok (.iadd, 1) := by decide +kernel
theorem d_R_analyse_132 : decode b_R_analyse 132 = .ok (.ishl, 1) := by decide +kernel
theorem d_R_analyse_133 : decode b_R_analyse 133 = .ok (.iconst 2, 1) := by decide +kernel
theorem d_R_analyse_134 : decode b_R_analyse 134 = .ok (.iconst 1, 1) := by decide +kernel
theorem d_R_analyse_135 : decode b_R_analyse 135 = .ok (.bipush (24), 2) := by decide +kernel
theorem d_R_analyse_137 : decode b_R_analyse 137 = .ok (.iload_n 2, 1) := by decide +kernel
theorem d_R_analyse_138 : decode b_R_analyse 138 = .ok (.iadd, 1) := by decide +kernel
theorem d_R_analyse_139 : decode b_R_analyse 139 = .ok (.ishl, 1) := by decide +kernel
theorem d_R_analyse_140 : decode b_R_analyse 140 = .ok (.invokevirtual 97, 3) := by decide +kernel
theorem d_R_analyse_143 : decode b_R_analyse 143 = .ok (.iinc 2 (1), 3) := by decide +kernel
theorem d_R_analyse_146 : decode b_R_analyse 146 = .ok (.goto (-47), 3) := by decide +kernel
theorem d_R_analyse_149 : decode b_R_analyse 149 = .ok (.iconst (-1), 1) := by decide +kernel
theorem d_R_analyse_150 : decode b_R_analyse 150 = .ok (.istore_n 2, 1) := by decide +kernel
theorem d_R_analyse_151 : decode b_R_analyse 151 = .ok (.aload_n 0, 1) := by decide +kernel
theorem d_R_analyse_152 : decode b_R_analyse 152 = .ok (.iload_n 1, 1) := by decide +kernel
theorem d_R_analyse_153 : decode b_R_analyse 153 = .ok (.invokevirtual 114, 3) := by decide +kernel
theorem d_R_analyse_156 : decode b_R_analyse 156 = .ok (.istore_n 3, 1) := by decide +kernel
theorem d_R_analyse_157 : decode b_R_analyse 157 = .ok (.iload_n 3, 1) := by decide +kernel
theorem d_R_analyse_158 : decode b_R_analyse 158 = .ok (.iload_n 2, 1) := by decide +kernel
theorem d_R_analyse_159 : decode b_R_analyse 159 = .ok (.if_icmp .le (41), 3) := by decide +kernel
theorem d_R_analyse_162 : decode b_R_analyse 162 = .ok (.iconst 0, 1) := by decide +kernel
theorem d_R_analyse_163 : decode b_R_analyse 163 = .ok (.istore 4, 2) := by decide +kernel
theorem d_R_analyse_165 : decode b_R_analyse 165 = .ok (.iload 4, 2) := by decide +kernel
theorem d_R_analyse_167 : decode b_R_analyse 167 = .ok (.aload_n 0, 1) := by decide +kernel
theorem d_R_analyse_168 : decode b_R_analyse 168 = .ok (.getfield 13, 3) := by decide +kernel
theorem d_R_analyse_171 : decode b_R_analyse 171 = .ok (.iload_n 1, 1) := by decide +kernel
theorem d_R_analyse_172 : decode b_R_analyse 172 = .ok (.iaload, 1) := by decide +kernel
theorem d_R_analyse_173 : decode b_R_analyse 173 = .ok (.if_icmp .ge (16), 3) := by decide +kernel
theorem d_R_analyse_176 : decode b_R_analyse 176 = .ok (.aload_n 0, 1) := by decide +kernel
theorem d_R_analyse_177 : decode b_R_analyse 177 = .ok (.iload_n 1, 1) := by decide +kernel
theorem d_R_analyse_178 : decode b_R_analyse 178 = .ok (.iload 4, 2) := by decide +kernel
theorem d_R_analyse_180 : decode b_R_analyse 180 = .ok (.invokevirtual 118, 3) := by decide +kernel
theorem d_R_analyse_183 : decode b_R_analyse 183 = .ok (.iinc 4 (1), 3) := by decide +kernel
theorem d_R_analyse_186 : decode b_R_analyse 186 = .ok (.goto (-21), 3) := by decide +kernel
theorem d_R_analyse_189 : decode b_R_analyse 189 = .ok (.iload_n 3, 1) := by decide +kernel
theorem d_R_analyse_190 : decode b_R_analyse 190 = .ok (.istore_n 2, 1) := by decide +kernel
theorem d_R_analyse_191 : decode b_R_analyse 191 = .ok (.aload_n 0, 1) := by decide +kernel
theorem d_R_analyse_192 : decode b_R_analyse 192 = .ok (.iload_n 1, 1) := by decide +kernel
theorem d_R_analyse_193 : decode b_R_analyse 193 = .ok (.invokevirtual 114, 3) := by decide +kernel
theorem d_R_analyse_196 : decode b_R_analyse 196 = .ok (.istore_n 3, 1) := by decide +kernel
theorem d_R_analyse_197 : decode b_R_analyse 197 = .ok (.goto (-40), 3) := by decide +kernel
theorem d_R_analyse_200 : decode b_R_analyse 200 = .ok (.aload_n 0, 1) := by decide +kernel
theorem d_R_analyse_201 : decode b_R_analyse 201 = .ok (.iload_n 1, 1) := by decide +kernel
theorem d_R_analyse_202 : decode b_R_analyse 202 = .ok (.ldc 92, 2) := by decide +kernel
theorem d_R_analyse_204 : decode b_R_analyse 204 = .ok (.invokevirtual 93, 3) := by decide +kernel
theorem d_R_analyse_207 : decode b_R_analyse 207 = .ok (.istore 4, 2) := by decide +kernel
theorem d_R_analyse_209 : decode b_R_analyse 209 = .ok (.aload_n 0, 1) := by decide +kernel
theorem d_R_analyse_210 : decode b_R_analyse 210 = .ok (.iload_n 1, 1) := by decide +kernel
theorem d_R_analyse_211 : decode b_R_analyse 211 = .ok (.aload_n 0, 1) := by decide +kernel
theorem d_R_analyse_212 : decode b_R_analyse 212 = .ok (.getfield 37, 3) := by decide +kernel
theorem d_R_analyse_215 : decode b_R_analyse 215 = .ok (.iload_n 1, 1) := by decide +kernel
theorem d_R_analyse_216 : decode b_R_analyse 216 = .ok (.iaload, 1) := by decide +kernel
theorem d_R_analyse_217 : decode b_R_analyse 217 = .ok (.invokevirtual 93, 3) := by decide +kernel
theorem d_R_analyse_220 : decode b_R_analyse 220 = .ok (.istore 5, 2) := by decide +kernel
theorem d_R_analyse_222 : decode b_R_analyse 222 = .ok (.iconst 0, 1) := by decide +kernel
theorem d_R_analyse_223 : decode b_R_analyse 223 = .ok (.istore 6, 2) := by decide +kernel
theorem d_R_analyse_225 : decode b_R_analyse 225 = .ok (.iload 6, 2) := by decide +kernel
theorem d_R_analyse_227 : decode b_R_analyse 227 = .ok (.aload_n 0, 1) := by decide +kernel
theorem d_R_analyse_228 : decode b_R_analyse 228 = .ok (.getfield 7, 3) := by decide +kernel
theorem d_R_analyse_231 : decode b_R_analyse 231 = .ok (.iload_n 1, 1) := by decide +kernel
theorem d_R_analyse_232 : decode b_R_analyse 232 = .ok (.iaload, 1) := by decide +kernel
theorem d_R_analyse_233 : decode b_R_analyse 233 = .ok (.if_icmp .ge (92), 3) := by decide +kernel
theorem d_R_analyse_236 : decode b_R_analyse 236 = .ok (.aload_n 0, 1) := by decide +kernel
theorem d_R_analyse_237 : decode b_R_analyse 237 = .ok (.getfield 7, 3) := by decide +kernel
theorem d_R_analyse_240 : decode b_R_analyse 240 = .ok (.iload_n 1, 1) := by decide +kernel
theorem d_R_analyse_241 : decode b_R_analyse 241 = .ok (.iaload, 1) := by decide +kernel
theorem d_R_analyse_242 : decode b_R_analyse 242 = .ok (.iconst 2, 1) := by decide +kernel
theorem d_R_analyse_243 : decode b_R_analyse 243 = .ok (.if_icmp .ne (18), 3) := by decide +kernel
theorem d_R_analyse_246 : decode b_R_analyse 246 = .ok (.aload_n 0, 1) := by decide +kernel
theorem d_R_analyse_247 : decode b_R_analyse 247 = .ok (.iload_n 1, 1) := by decide +kernel
theorem d_R_analyse_248 : decode b_R_analyse 248 = .ok (.iconst 1, 1) := by decide +kernel
theorem d_R_analyse_249 : decode b_R_analyse 249 = .ok (.bipush (25), 2) := by decide +kernel
theorem d_R_analyse_251 : decode b_R_analyse 251 = .ok (.iload 6, 2) := by decide +kernel
theorem d_R_analyse_253 : decode b_R_analyse 253 = .ok (.isub, 1) := by decide +kernel
theorem d_R_analyse_254 : decode b_R_analyse 254 = .ok (.ishl, 1) := by decide +kernel
theorem d_R_analyse_255 : decode b_R_analyse 255 = .ok (.invokevirtual 93, 3) := by decide +kernel
theorem d_R_analyse_258 : decode b_R_analyse 258 = .ok (.goto (4), 3) := by decide +kernel
theorem d_R_analyse_261 : decode b_R_analyse 261 = .ok (.iconst 0, 1) := by decide +kernel
theorem d_R_analyse_262 : decode b_R_analyse 262 = .ok (.istore 7, 2) := by decide +kernel
theorem d_R_analyse_264 : decode b_R_analyse 264 = .ok (.aload_n 0, 1) := by decide +kernel
theorem d_R_analyse_265 : decode b_R_analyse 265 = .ok (.getfield 40, 3) := by decide +kernel
theorem d_R_analyse_268 : decode b_R_analyse 268 = .ok (.iconst 2, 1) := by decide +kernel
theorem d_R_analyse_269 : decode b_R_analyse 269 = .ok (.iload_n 1, 1) := by decide +kernel
theorem d_R_analyse_270 : decode b_R_analyse 270 = .ok (.imul, 1) := by decide +kernel
theorem d_R_analyse_271 : decode b_R_analyse 271 = .ok (.iload 6, 2) := by decide +kernel
theorem d_R_analyse_273 : decode b_R_analyse 273 = .ok (.iadd, 1) := by decide +kernel
theorem d_R_analyse_274 : decode b_R_analyse 274 = .ok (.iload 4, 2) := by decide +kernel
theorem d_R_analyse_276 : decode b_R_analyse 276 = .ok (.bipush (24), 2) := by decide +kernel
theorem d_R_analyse_278 : decode b_R_analyse 278 = .ok (.iload 6, 2) := by decide +kernel
theorem d_R_analyse_280 : decode b_R_analyse 280 = .ok (.iadd, 1) := by decide +kernel
theorem d_R_analyse_281 : decode b_R_analyse 281 = .ok (.ishr, 1) := by decide +kernel
theorem d_R_analyse_282 : decode b_R_analyse 282 = .ok (.iconst 1, 1) := by decide +kernel
theorem d_R_analyse_283 : decode b_R_analyse 283 = .ok (.iand, 1) := by decide +kernel
theorem d_R_analyse_284 : decode b_R_analyse 284 = .ok (.iconst 1, 1) := by decide +kernel
theorem d_R_analyse_285 : decode b_R_analyse 285 = .ok (.if_icmp .ne (7), 3) := by decide +kernel
theorem d_R_analyse_288 : decode b_R_analyse 288 = .ok (.iconst 2, 1) := by decide +kernel
theorem d_R_analyse_289 : decode b_R_analyse 289 = .ok (.goto (29), 3) := by decide +kernel
theorem d_R_analyse_292 : decode b_R_analyse 292 = .ok (.aload_n 0, 1) := by decide +kernel
theorem d_R_analyse_293 : decode b_R_analyse 293 = .ok (.iload_n 1, 1) := by decide +kernel
theorem d_R_analyse_294 : decode b_R_analyse 294 = .ok (.iconst 1, 1) := by decide +kernel
theorem d_R_analyse_295 : decode b_R_analyse 295 = .ok (.bipush (24), 2) := by decide +kernel
theorem d_R_analyse_297 : decode b_R_analyse 297 = .ok (.iload 6, 2) := by decide +kernel
theorem d_R_analyse_299 : decode b_R_analyse 299 = .ok (.iadd, 1) := by decide +kernel
theorem d_R_analyse_300 : decode b_R_analyse 300 = .ok (.ishl, 1) := by decide +kernel
theorem d_R_analyse_301 : decode b_R_analyse 301 = .ok (.invokevirtual 93, 3) := by decide +kernel
theorem d_R_analyse_304 : decode b_R_analyse 304 = .ok (.iload 5, 2) := by decide +kernel
theorem d_R_analyse_306 : decode b_R_analyse 306 = .ok (.iload 7, 2) := by decide +kernel
theorem d_R_analyse_308 : decode b_R_analyse 308 = .ok (.ior, 1) := by decide +kernel
theorem d_R_analyse_309 : decode b_R_analyse 309 = .ok (.iand, 1) := by decide +kernel
theorem d_R_analyse_310 : decode b_R_analyse 310 = .ok (.ifCond .eq (7), 3) := by decide +kernel
theorem d_R_analyse_313 : decode b_R_analyse 313 = .ok (.iconst 1, 1) := by decide +kernel
theorem d_R_analyse_314 : decode b_R_analyse 314 = .ok (.goto (4), 3) := by decide +kernel
theorem d_R_analyse_317 : decode b_R_analyse 317 = .ok (.iconst 0, 1) := by decide +kernel
theorem d_R_analyse_318 : decode b_R_analyse 318 = .ok (.iastore, 1) := by decide +kernel
theorem d_R_analyse_319 : decode b_R_analyse 319 = .ok (.iinc 6 (1), 3) := by decide +kernel
theorem d_R_analyse_322 : decode b_R_analyse 322 = .ok (.goto (-97), 3) := by decide +kernel
theorem d_R_analyse_325 : decode b_R_analyse 325 = .ok (.return_, 1) := by decide +kernel
theorem d_R_holds_0 : decode b_R_holds 0 = .ok (.iconst 0, 1) := by decide +kernel
theorem d_R_holds_1 : decode b_R_holds 1 = .ok (.istore 5, 2) := by decide +kernel
theorem d_R_holds_3 : decode b_R_holds 3 = .ok (.iload 5, 2) := by decide +kernel
theorem d_R_holds_5 : decode b_R_holds 5 = .ok (.bipush (27), 2) := by decide +kernel
theorem d_R_holds_7 : decode b_R_holds 7 = .ok (.if_icmp .ge (93), 3) := by decide +kernel
theorem d_R_holds_10 : decode b_R_holds 10 = .ok (.iload_n 2, 1) := by decide +kernel
theorem d_R_holds_11 : decode b_R_holds 11 = .ok (.iload 5, 2) := by decide +kernel
theorem d_R_holds_13 : decode b_R_holds 13 = .ok (.ishr, 1) := by decide +kernel
theorem d_R_holds_14 : decode b_R_holds 14 = .ok (.iconst 1, 1) := by decide +kernel
theorem d_R_holds_15 : decode b_R_holds 15 = .ok (.iand, 1) := by decide +kernel
theorem d_R_holds_16 : decode b_R_holds 16 = .ok (.iconst 1, 1) := by decide +kernel
theorem d_R_holds_17 : decode b_R_holds 17 = .ok (.if_icmp .ne (77), 3) := by decide +kernel
theorem d_R_holds_20 : decode b_R_holds 20 = .ok (.iconst 0, 1) := by decide +kernel
theorem d_R_holds_21 : decode b_R_holds 21 = .ok (.istore 6, 2) := by decide +kernel
theorem d_R_holds_23 : decode b_R_holds 23 = .ok (.iload 6, 2) := by decide +kernel
theorem d_R_holds_25 : decode b_R_holds 25 = .ok (.iconst 2, 1) := by decide +kernel
theorem d_R_holds_26 : decode b_R_holds 26 = .ok (.if_icmp .ge (68), 3) := by decide +kernel
theorem d_R_holds_29 : decode b_R_holds 29 = .ok (.bipush (54), 2) := by decide +kernel
theorem d_R_holds_31 : decode b_R_holds 31 = .ok (.iload_n 1, 1) := by decide +kernel
theorem d_R_holds_32 : decode b_R_holds 32 = .ok (.imul, 1) := by decide +kernel
theorem d_R_holds_33 : decode b_R_holds 33 = .ok (.iconst 2, 1) := by decide +kernel
theorem d_R_holds_34 : decode b_R_holds 34 = .ok (.iload 5, 2) := by decide +kernel
theorem d_R_holds_36 : decode b_R_holds 36 = .ok (.imul, 1) := by decide +kernel
theorem d_R_holds_37 : decode b_R_holds 37 = .ok (.iadd, 1) := by decide +kernel
theorem d_R_holds_38 : decode b_R_holds 38 = .ok (.iload 6, 2) := by decide +kernel
theorem d_R_holds_40 : decode b_R_holds 40 = .ok (.iadd, 1) := by decide +kernel
theorem d_R_holds_41 : decode b_R_holds 41 = .ok (.istore 7, 2) := by decide +kernel
theorem d_R_holds_43 : decode b_R_holds 43 = .ok (.aload_n 0, 1) := by decide +kernel
theorem d_R_holds_44 : decode b_R_holds 44 = .ok (.getfield 34, 3) := by decide +kernel
theorem d_R_holds_47 : decode b_R_holds 47 = .ok (.iload 7, 2) := by decide +kernel
theorem d_R_holds_49 : decode b_R_holds 49 = .ok (.iload 5, 2) := by decide +kernel
theorem d_R_holds_51 : decode b_R_holds 51 = .ok (.bipush (23), 2) := by decide +kernel
theorem d_R_holds_53 : decode b_R_holds 53 = .ok (.if_icmp .gt (14), 3) := by decide +kernel
theorem d_R_holds_56 : decode b_R_holds 56 = .ok (.iload 6, 2) := by decide +kernel
theorem d_R_holds_58 : decode b_R_holds 58 = .ok (.iload_n 3, 1) := by decide +kernel
theorem d_R_holds_59 : decode b_R_holds 59 = .ok (.if_icmp .eq (8), 3) := by decide +kernel
theorem d_R_holds_62 : decode b_R_holds 62 = .ok (.iload_n 3, 1) := by decide +kernel
theorem d_R_holds_63 : decode b_R_holds 63 = .ok (.iconst 2, 1) := by decide +kernel
theorem d_R_holds_64 : decode b_R_holds 64 = .ok (.if_icmp .ne (16), 3) := by decide +kernel
theorem d_R_holds_67 : decode b_R_holds 67 = .ok (.aload_n 0, 1) := by decide +kernel
theorem d_R_holds_68 : decode b_R_holds 68 = .ok (.getfield 34, 3) := by decide +kernel
theorem d_R_holds_71 : decode b_R_holds 71 = .ok (.iload 7, 2) := by decide +kernel
theorem d_R_holds_73 : decode b_R_holds 73 = .ok (.iaload, 1) := by decide +kernel
theorem d_R_holds_74 : decode b_R_holds 74 = .ok (.iload 4, 2) := by decide +kernel
theorem d_R_holds_76 : decode b_R_holds 76 = .ok (.ior, 1) := by decide +kernel
theorem d_R_holds_77 : decode b_R_holds 77 = .ok (.goto (10), 3) := by decide +kernel
theorem d_R_holds_80 : decode b_R_holds 80 = .ok (.aload_n 0, 1) := by decide +kernel
theorem d_R_holds_81 : decode b_R_holds 81 = .ok (.getfield 34, 3) := by decide +kernel
theorem d_R_holds_84 : decode b_R_holds 84 = .ok (.iload 7, 2) := by decide +kernel
theorem d_R_holds_86 : decode b_R_holds 86 = .ok (.iaload, 1) := by decide +kernel
theorem d_R_holds_87 : decode b_R_holds 87 = .ok (.iastore, 1) := by decide +kernel
theorem d_R_holds_88 : decode b_R_holds 88 = .ok (.iinc 6 (1), 3) := by decide +kernel
theorem d_R_holds_91 : decode b_R_holds 91 = .ok (.goto (-68), 3) := by decide +kernel
theorem d_R_holds_94 : decode b_R_holds 94 = .ok (.iinc 5 (1), 3) := by decide +kernel
theorem d_R_holds_97 : decode b_R_holds 97 = .ok (.goto (-94), 3) := by decide +kernel
theorem d_R_holds_100 : decode b_R_holds 100 = .ok (.return_, 1) := by decide +kernel
theorem d_R_weight_0 : decode b_R_weight 0 = .ok (.iconst 0, 1) := by decide +kernel
theorem d_R_weight_1 : decode b_R_weight 1 = .ok (.istore_n 2, 1) := by decide +kernel
theorem d_R_weight_2 : decode b_R_weight 2 = .ok (.iconst 0, 1) := by decide +kernel
theorem d_R_weight_3 : decode b_R_weight 3 = .ok (.istore_n 3, 1) := by decide +kernel
theorem d_R_weight_4 : decode b_R_weight 4 = .ok (.iload_n 3, 1) := by decide +kernel
theorem d_R_weight_5 : decode b_R_weight 5 = .ok (.bipush (27), 2) := by decide +kernel
theorem d_R_weight_7 : decode b_R_weight 7 = .ok (.if_icmp .ge (90), 3) := by decide +kernel
theorem d_R_weight_10 : decode b_R_weight 10 = .ok (.iload_n 2, 1) := by decide +kernel
theorem d_R_weight_11 : decode b_R_weight 11 = .ok (.aload_n 0, 1) := by decide +kernel
theorem d_R_weight_12 : decode b_R_weight 12 = .ok (.getfield 37, 3) := by decide +kernel
theorem d_R_weight_15 : decode b_R_weight 15 = .ok (.iload_n 1, 1) := by decide +kernel
theorem d_R_weight_16 : decode b_R_weight 16 = .ok (.iaload, 1) := by decide +kernel
theorem d_R_weight_17 : decode b_R_weight 17 = .ok (.iload_n 3, 1) := by decide +kernel
theorem d_R_weight_18 : decode b_R_weight 18 = .ok (.ishr, 1) := by decide +kernel
theorem d_R_weight_19 : decode b_R_weight 19 = .ok (.iconst 1, 1) := by decide +kernel
theorem d_R_weight_20 : decode b_R_weight 20 = .ok (.iand, 1) := by decide +kernel
theorem d_R_weight_21 : decode b_R_weight 21 = .ok (.iadd, 1) := by decide +kernel
theorem d_R_weight_22 : decode b_R_weight 22 = .ok (.istore_n 2, 1) := by decide +kernel
theorem d_R_weight_23 : decode b_R_weight 23 = .ok (.iconst 0, 1) := by decide +kernel
theorem d_R_weight_24 : decode b_R_weight 24 = .ok (.istore 4, 2) := by decide +kernel
theorem d_R_weight_26 : decode b_R_weight 26 = .ok (.iload 4, 2) := by decide +kernel
theorem d_R_weight_28 : decode b_R_weight 28 = .ok (.iconst 4, 1) := by decide +kernel
theorem d_R_weight_29 : decode b_R_weight 29 = .ok (.if_icmp .ge (27), 3) := by decide +kernel
theorem d_R_weight_32 : decode b_R_weight 32 = .ok (.iload_n 2, 1) := by decide +kernel
theorem d_R_weight_33 : decode b_R_weight 33 = .ok (.aload_n 0, 1) := by decide +kernel
theorem d_R_weight_34 : decode b_R_weight 34 = .ok (.getfield 31, 3) := by decide +kernel
theorem d_R_weight_37 : decode b_R_weight 37 = .ok (.iconst 4, 1) := by decide +kernel
theorem d_R_weight_38 : decode b_R_weight 38 = .ok (.iload_n 1, 1) := by decide +kernel
theorem d_R_weight_39 : decode b_R_weight 39 = .ok (.imul, 1) := by decide +kernel
theorem d_R_weight_40 : decode b_R_weight 40 = .ok (.iload 4, 2) := by decide +kernel
theorem d_R_weight_42 : decode b_R_weight 42 = .ok (.iadd, 1) := by decide +kernel
theorem d_R_weight_43 : decode b_R_weight 43 = .ok (.iaload, 1) := by decide +kernel
theorem d_R_weight_44 : decode b_R_weight 44 = .ok (.iload_n 3, 1) := by decide +kernel
theorem d_R_weight_45 : decode b_R_weight 45 = .ok (.ishr, 1) := by decide +kernel
theorem d_R_weight_46 : decode b_R_weight 46 = .ok (.iconst 1, 1) := by decide +kernel
theorem d_R_weight_47 : decode b_R_weight 47 = .ok (.iand, 1) := by decide +kernel
theorem d_R_weight_48 : decode b_R_weight 48 = .ok (.iadd, 1) := by decide +kernel
theorem d_R_weight_49 : decode b_R_weight 49 = .ok (.istore_n 2, 1) := by decide +kernel
theorem d_R_weight_50 : decode b_R_weight 50 = .ok (.iinc 4 (1), 3) := by decide +kernel
theorem d_R_weight_53 : decode b_R_weight 53 = .ok (.goto (-27), 3) := by decide +kernel
theorem d_R_weight_56 : decode b_R_weight 56 = .ok (.iconst 0, 1) := by decide +kernel
theorem d_R_weight_57 : decode b_R_weight 57 = .ok (.istore 4, 2) := by decide +kernel
theorem d_R_weight_59 : decode b_R_weight 59 = .ok (.iload 4, 2) := by decide +kernel
theorem d_R_weight_61 : decode b_R_weight 61 = .ok (.bipush (54), 2) := by decide +kernel
theorem d_R_weight_63 : decode b_R_weight 63 = .ok (.if_icmp .ge (28), 3) := by decide +kernel
theorem d_R_weight_66 : decode b_R_weight 66 = .ok (.iload_n 2, 1) := by decide +kernel
theorem d_R_weight_67 : decode b_R_weight 67 = .ok (.aload_n 0, 1) := by decide +kernel
theorem d_R_weight_68 : decode b_R_weight 68 = .ok (.getfield 34, 3) := by decide +kernel
theorem d_R_weight_71 : decode b_R_weight 71 = .ok (.bipush (54), 2) := by decide +kernel
theorem d_R_weight_73 : decode b_R_weight 73 = .ok (.iload_n 1, 1) := by decide +kernel
theorem d_R_weight_74 : decode b_R_weight 74 = .ok (.imul, 1) := by decide +kernel
theorem d_R_weight_75 : decode b_R_weight 75 = .ok (.iload 4, 2) := by decide +kernel
theorem d_R_weight_77 : decode b_R_weight 77 = .ok (.iadd, 1) := by decide +kernel
theorem d_R_weight_78 : decode b_R_weight 78 = .ok (.iaload, 1) := by decide +kernel
theorem d_R_weight_79 : decode b_R_weight 79 = .ok (.iload_n 3, 1) := by decide +kernel
theorem d_R_weight_80 : decode b_R_weight 80 = .ok (.ishr, 1) := by decide +kernel
theorem d_R_weight_81 : decode b_R_weight 81 = .ok (.iconst 1, 1) := by decide +kernel
theorem d_R_weight_82 : decode b_R_weight 82 = .ok (.iand, 1) := by decide +kernel
theorem d_R_weight_83 : decode b_R_weight 83 = .ok (.iadd, 1) := by decide +kernel
theorem d_R_weight_84 : decode b_R_weight 84 = .ok (.istore_n 2, 1) := by decide +kernel
theorem d_R_weight_85 : decode b_R_weight 85 = .ok (.iinc 4 (1), 3) := by decide +kernel
theorem d_R_weight_88 : decode b_R_weight 88 = .ok (.goto (-29), 3) := by decide +kernel
theorem d_R_weight_91 : decode b_R_weight 91 = .ok (.iinc 3 (1), 3) := by decide +kernel
theorem d_R_weight_94 : decode b_R_weight 94 = .ok (.goto (-90), 3) := by decide +kernel
theorem d_R_weight_97 : decode b_R_weight 97 = .ok (.iload_n 2, 1) := by decide +kernel
theorem d_R_weight_98 : decode b_R_weight 98 = .ok (.ireturn, 1) := by decide +kernel
theorem d_R_adds_0 : decode b_R_adds 0 = .ok (.bipush (24), 2) := by decide +kernel
theorem d_R_adds_2 : decode b_R_adds 2 = .ok (.iload_n 1, 1) := by decide +kernel
theorem d_R_adds_3 : decode b_R_adds 3 = .ok (.imul, 1) := by decide +kernel
theorem d_R_adds_4 : decode b_R_adds 4 = .ok (.iload_n 2, 1) := by decide +kernel
theorem d_R_adds_5 : decode b_R_adds 5 = .ok (.iadd, 1) := by decide +kernel
theorem d_R_adds_6 : decode b_R_adds 6 = .ok (.istore_n 3, 1) := by decide +kernel
theorem d_R_adds_7 : decode b_R_adds 7 = .ok (.iconst 4, 1) := by decide +kernel
theorem d_R_adds_8 : decode b_R_adds 8 = .ok (.iload_n 1, 1) := by decide +kernel
theorem d_R_adds_9 : decode b_R_adds 9 = .ok (.imul, 1) := by decide +kernel
theorem d_R_adds_10 : decode b_R_adds 10 = .ok (.aload_n 0, 1) := by decide +kernel
theorem d_R_adds_11 : decode b_R_adds 11 = .ok (.getfield 19, 3) := by decide +kernel
theorem d_R_adds_14 : decode b_R_adds 14 = .ok (.iload_n 3, 1) := by decide +kernel
theorem d_R_adds_15 : decode b_R_adds 15 = .ok (.iaload, 1) := by decide +kernel
theorem d_R_adds_16 : decode b_R_adds 16 = .ok (.iadd, 1) := by decide +kernel
theorem d_R_adds_17 : decode b_R_adds 17 = .ok (.istore 4, 2) := by decide +kernel
theorem d_R_adds_19 : decode b_R_adds 19 = .ok (.iconst 4, 1) := by decide +kernel
theorem d_R_adds_20 : decode b_R_adds 20 = .ok (.iload_n 1, 1) := by decide +kernel
theorem d_R_adds_21 : decode b_R_adds 21 = .ok (.imul, 1) := by decide +kernel
theorem d_R_adds_22 : decode b_R_adds 22 = .ok (.aload_n 0, 1) := by decide +kernel
theorem d_R_adds_23 : decode b_R_adds 23 = .ok (.getfield 22, 3) := by decide +kernel
theorem d_R_adds_26 : decode b_R_adds 26 = .ok (.iload_n 3, 1) := by decide +kernel
theorem d_R_adds_27 : decode b_R_adds 27 = .ok (.iaload, 1) := by decide +kernel
theorem d_R_adds_28 : decode b_R_adds 28 = .ok (.iadd, 1) := by decide +kernel
theorem d_R_adds_29 : decode b_R_adds 29 = .ok (.istore 5, 2) := by decide +kernel
theorem d_R_adds_31 : decode b_R_adds 31 = .ok (.aload_n 0, 1) := by decide +kernel
