theorem d_R_onlyNew_125 : decode b_R_onlyNew 125 = .ok (.goto (4), 3) := by decide +kernel
theorem d_R_onlyNew_128 : decode b_R_onlyNew 128 = .ok (.iconst (-1), 1) := by decide +kernel
theorem d_R_onlyNew_129 : decode b_R_onlyNew 129 = .ok (.ireturn, 1) := by decide +kernel
theorem d_R_defines_0 : decode b_R_defines 0 = .ok (.iload_n 0, 1) := by decide +kernel
theorem d_R_defines_1 : decode b_R_defines 1 = .ok (.ifCond .lt (8), 3) := by decide +kernel
theorem d_R_defines_4 : decode b_R_defines 4 = .ok (.iload_n 0, 1) := by decide +kernel
theorem d_R_defines_5 : decode b_R_defines 5 = .ok (.iconst 3, 1) := by decide +kernel
theorem d_R_defines_6 : decode b_R_defines 6 = .ok (.if_icmp .le (15), 3) := by decide +kernel
theorem d_R_defines_9 : decode b_R_defines 9 = .ok (.iload_n 0, 1) := by decide +kernel
theorem d_R_defines_10 : decode b_R_defines 10 = .ok (.bipush (13), 2) := by decide +kernel
theorem d_R_defines_12 : decode b_R_defines 12 = .ok (.if_icmp .eq (9), 3) := by decide +kernel
theorem d_R_defines_15 : decode b_R_defines 15 = .ok (.iload_n 0, 1) := by decide +kernel
theorem d_R_defines_16 : decode b_R_defines 16 = .ok (.bipush (16), 2) := by decide +kernel
theorem d_R_defines_18 : decode b_R_defines 18 = .ok (.if_icmp .ne (7), 3) := by decide +kernel
theorem d_R_defines_21 : decode b_R_defines 21 = .ok (.iconst 1, 1) := by decide +kernel
theorem d_R_defines_22 : decode b_R_defines 22 = .ok (.goto (4), 3) := by decide +kernel
theorem d_R_defines_25 : decode b_R_defines 25 = .ok (.iconst 0, 1) := by decide +kernel
theorem d_R_defines_26 : decode b_R_defines 26 = .ok (.ireturn, 1) := by decide +kernel
theorem d_R_gives_0 : decode b_R_gives 0 = .ok (.bipush (24), 2) := by decide +kernel
theorem d_R_gives_2 : decode b_R_gives 2 = .ok (.iload_n 1, 1) := by decide +kernel
theorem d_R_gives_3 : decode b_R_gives 3 = .ok (.imul, 1) := by decide +kernel
theorem d_R_gives_4 : decode b_R_gives 4 = .ok (.iload_n 2, 1) := by decide +kernel
theorem d_R_gives_5 : decode b_R_gives 5 = .ok (.iadd, 1) := by decide +kernel
theorem d_R_gives_6 : decode b_R_gives 6 = .ok (.istore 4, 2) := by decide +kernel
theorem d_R_gives_8 : decode b_R_gives 8 = .ok (.aload_n 0, 1) := by decide +kernel
theorem d_R_gives_9 : decode b_R_gives 9 = .ok (.getfield 16, 3) := by decide +kernel
theorem d_R_gives_12 : decode b_R_gives 12 = .ok (.iload 4, 2) := by decide +kernel
theorem d_R_gives_14 : decode b_R_gives 14 = .ok (.iaload, 1) := by decide +kernel
theorem d_R_gives_15 : decode b_R_gives 15 = .ok (.istore 5, 2) := by decide +kernel
theorem d_R_gives_17 : decode b_R_gives 17 = .ok (.iload 5, 2) := by decide +kernel
theorem d_R_gives_19 : decode b_R_gives 19 = .ok (.iconst 1, 1) := by decide +kernel
theorem d_R_gives_20 : decode b_R_gives 20 = .ok (.if_icmp .eq (9), 3) := by decide +kernel
theorem d_R_gives_23 : decode b_R_gives 23 = .ok (.iload 5, 2) := by decide +kernel
theorem d_R_gives_25 : decode b_R_gives 25 = .ok (.iconst 4, 1) := by decide +kernel
theorem d_R_gives_26 : decode b_R_gives 26 = .ok (.if_icmp .ne (18), 3) := by decide +kernel
theorem d_R_gives_29 : decode b_R_gives 29 = .ok (.aload_n 0, 1) := by decide +kernel
theorem d_R_gives_30 : decode b_R_gives 30 = .ok (.getfield 22, 3) := by decide +kernel
theorem d_R_gives_33 : decode b_R_gives 33 = .ok (.iload 4, 2) := by decide +kernel
theorem d_R_gives_35 : decode b_R_gives 35 = .ok (.iaload, 1) := by decide +kernel
theorem d_R_gives_36 : decode b_R_gives 36 = .ok (.iload_n 3, 1) := by decide +kernel
theorem d_R_gives_37 : decode b_R_gives 37 = .ok (.if_icmp .ne (7), 3) := by decide +kernel
theorem d_R_gives_40 : decode b_R_gives 40 = .ok (.iconst 1, 1) := by decide +kernel
theorem d_R_gives_41 : decode b_R_gives 41 = .ok (.goto (4), 3) := by decide +kernel
theorem d_R_gives_44 : decode b_R_gives 44 = .ok (.iconst 0, 1) := by decide +kernel
theorem d_R_gives_45 : decode b_R_gives 45 = .ok (.istore 6, 2) := by decide +kernel
theorem d_R_gives_47 : decode b_R_gives 47 = .ok (.iload 5, 2) := by decide +kernel
theorem d_R_gives_49 : decode b_R_gives 49 = .ok (.bipush (12), 2) := by decide +kernel
theorem d_R_gives_51 : decode b_R_gives 51 = .ok (.if_icmp .eq (10), 3) := by decide +kernel
theorem d_R_gives_54 : decode b_R_gives 54 = .ok (.iload 5, 2) := by decide +kernel
theorem d_R_gives_56 : decode b_R_gives 56 = .ok (.bipush (17), 2) := by decide +kernel
theorem d_R_gives_58 : decode b_R_gives 58 = .ok (.if_icmp .ne (18), 3) := by decide +kernel
theorem d_R_gives_61 : decode b_R_gives 61 = .ok (.aload_n 0, 1) := by decide +kernel
theorem d_R_gives_62 : decode b_R_gives 62 = .ok (.getfield 19, 3) := by decide +kernel
theorem d_R_gives_65 : decode b_R_gives 65 = .ok (.iload 4, 2) := by decide +kernel
theorem d_R_gives_67 : decode b_R_gives 67 = .ok (.iaload, 1) := by decide +kernel
theorem d_R_gives_68 : decode b_R_gives 68 = .ok (.iload_n 3, 1) := by decide +kernel
theorem d_R_gives_69 : decode b_R_gives 69 = .ok (.if_icmp .ne (7), 3) := by decide +kernel
theorem d_R_gives_72 : decode b_R_gives 72 = .ok (.iconst 1, 1) := by decide +kernel
theorem d_R_gives_73 : decode b_R_gives 73 = .ok (.goto (4), 3) := by decide +kernel
theorem d_R_gives_76 : decode b_R_gives 76 = .ok (.iconst 0, 1) := by decide +kernel
theorem d_R_gives_77 : decode b_R_gives 77 = .ok (.istore 7, 2) := by decide +kernel
theorem d_R_gives_79 : decode b_R_gives 79 = .ok (.iload 5, 2) := by decide +kernel
theorem d_R_gives_81 : decode b_R_gives 81 = .ok (.bipush (16), 2) := by decide +kernel
theorem d_R_gives_83 : decode b_R_gives 83 = .ok (.if_icmp .ne (18), 3) := by decide +kernel
theorem d_R_gives_86 : decode b_R_gives 86 = .ok (.aload_n 0, 1) := by decide +kernel
theorem d_R_gives_87 : decode b_R_gives 87 = .ok (.getfield 7, 3) := by decide +kernel
theorem d_R_gives_90 : decode b_R_gives 90 = .ok (.aload_n 0, 1) := by decide +kernel
theorem d_R_gives_91 : decode b_R_gives 91 = .ok (.getfield 28, 3) := by decide +kernel
theorem d_R_gives_94 : decode b_R_gives 94 = .ok (.iload 4, 2) := by decide +kernel
theorem d_R_gives_96 : decode b_R_gives 96 = .ok (.iaload, 1) := by decide +kernel
theorem d_R_gives_97 : decode b_R_gives 97 = .ok (.iaload, 1) := by decide +kernel
theorem d_R_gives_98 : decode b_R_gives 98 = .ok (.goto (4), 3) := by decide +kernel
theorem d_R_gives_101 : decode b_R_gives 101 = .ok (.iconst 0, 1) := by decide +kernel
theorem d_R_gives_102 : decode b_R_gives 102 = .ok (.istore 8, 2) := by decide +kernel
theorem d_R_gives_104 : decode b_R_gives 104 = .ok (.iload 6, 2) := by decide +kernel
theorem d_R_gives_106 : decode b_R_gives 106 = .ok (.ifCond .ne (41), 3) := by decide +kernel
theorem d_R_gives_109 : decode b_R_gives 109 = .ok (.iload 7, 2) := by decide +kernel
theorem d_R_gives_111 : decode b_R_gives 111 = .ok (.ifCond .ne (36), 3) := by decide +kernel
theorem d_R_gives_114 : decode b_R_gives 114 = .ok (.iload 8, 2) := by decide +kernel
theorem d_R_gives_116 : decode b_R_gives 116 = .ok (.ifCond .le (14), 3) := by decide +kernel
theorem d_R_gives_119 : decode b_R_gives 119 = .ok (.aload_n 0, 1) := by decide +kernel
theorem d_R_gives_120 : decode b_R_gives 120 = .ok (.getfield 22, 3) := by decide +kernel
theorem d_R_gives_123 : decode b_R_gives 123 = .ok (.iload 4, 2) := by decide +kernel
theorem d_R_gives_125 : decode b_R_gives 125 = .ok (.iaload, 1) := by decide +kernel
theorem d_R_gives_126 : decode b_R_gives 126 = .ok (.iload_n 3, 1) := by decide +kernel
theorem d_R_gives_127 : decode b_R_gives 127 = .ok (.if_icmp .eq (20), 3) := by decide +kernel
theorem d_R_gives_130 : decode b_R_gives 130 = .ok (.iload 8, 2) := by decide +kernel
theorem d_R_gives_132 : decode b_R_gives 132 = .ok (.iconst 1, 1) := by decide +kernel
theorem d_R_gives_133 : decode b_R_gives 133 = .ok (.if_icmp .le (18), 3) := by decide +kernel
theorem d_R_gives_136 : decode b_R_gives 136 = .ok (.aload_n 0, 1) := by decide +kernel
theorem d_R_gives_137 : decode b_R_gives 137 = .ok (.getfield 25, 3) := by decide +kernel
theorem d_R_gives_140 : decode b_R_gives 140 = .ok (.iload 4, 2) := by decide +kernel
theorem d_R_gives_142 : decode b_R_gives 142 = .ok (.iaload, 1) := by decide +kernel
theorem d_R_gives_143 : decode b_R_gives 143 = .ok (.iload_n 3, 1) := by decide +kernel
theorem d_R_gives_144 : decode b_R_gives 144 = .ok (.if_icmp .ne (7), 3) := by decide +kernel
theorem d_R_gives_147 : decode b_R_gives 147 = .ok (.iconst 1, 1) := by decide +kernel
theorem d_R_gives_148 : decode b_R_gives 148 = .ok (.goto (4), 3) := by decide +kernel
theorem d_R_gives_151 : decode b_R_gives 151 = .ok (.iconst 0, 1) := by decide +kernel
theorem d_R_gives_152 : decode b_R_gives 152 = .ok (.ireturn, 1) := by decide +kernel
theorem d_R_dominates_0 : decode b_R_dominates 0 = .ok (.iconst 0, 1) := by decide +kernel
theorem d_R_dominates_1 : decode b_R_dominates 1 = .ok (.istore 4, 2) := by decide +kernel
theorem d_R_dominates_3 : decode b_R_dominates 3 = .ok (.iload 4, 2) := by decide +kernel
theorem d_R_dominates_5 : decode b_R_dominates 5 = .ok (.bipush (24), 2) := by decide +kernel
theorem d_R_dominates_7 : decode b_R_dominates 7 = .ok (.if_icmp .ge (30), 3) := by decide +kernel
theorem d_R_dominates_10 : decode b_R_dominates 10 = .ok (.aload_n 0, 1) := by decide +kernel
theorem d_R_dominates_11 : decode b_R_dominates 11 = .ok (.getfield 43, 3) := by decide +kernel
theorem d_R_dominates_14 : decode b_R_dominates 14 = .ok (.iload 4, 2) := by decide +kernel
theorem d_R_dominates_16 : decode b_R_dominates 16 = .ok (.iload 4, 2) := by decide +kernel
theorem d_R_dominates_18 : decode b_R_dominates 18 = .ok (.ifCond .ne (11), 3) := by decide +kernel
theorem d_R_dominates_21 : decode b_R_dominates 21 = .ok (.iload_n 2, 1) := by decide +kernel
theorem d_R_dominates_22 : decode b_R_dominates 22 = .ok (.ifCond .eq (7), 3) := by decide +kernel
theorem d_R_dominates_25 : decode b_R_dominates 25 = .ok (.iconst 1, 1) := by decide +kernel
theorem d_R_dominates_26 : decode b_R_dominates 26 = .ok (.goto (4), 3) := by decide +kernel
theorem d_R_dominates_29 : decode b_R_dominates 29 = .ok (.iconst 0, 1) := by decide +kernel
theorem d_R_dominates_30 : decode b_R_dominates 30 = .ok (.bastore, 1) := by decide +kernel
theorem d_R_dominates_31 : decode b_R_dominates 31 = .ok (.iinc 4 (1), 3) := by decide +kernel
theorem d_R_dominates_34 : decode b_R_dominates 34 = .ok (.goto (-31), 3) := by decide +kernel
theorem d_R_dominates_37 : decode b_R_dominates 37 = .ok (.iconst 0, 1) := by decide +kernel
theorem d_R_dominates_38 : decode b_R_dominates 38 = .ok (.istore 4, 2) := by decide +kernel
theorem d_R_dominates_40 : decode b_R_dominates 40 = .ok (.iload 4, 2) := by decide +kernel
theorem d_R_dominates_42 : decode b_R_dominates 42 = .ok (.bipush (25), 2) := by decide +kernel
theorem d_R_dominates_44 : decode b_R_dominates 44 = .ok (.if_icmp .ge (159), 3) := by decide +kernel
theorem d_R_dominates_47 : decode b_R_dominates 47 = .ok (.iconst 0, 1) := by decide +kernel
theorem d_R_dominates_48 : decode b_R_dominates 48 = .ok (.istore 5, 2) := by decide +kernel
theorem d_R_dominates_50 : decode b_R_dominates 50 = .ok (.iload 5, 2) := by decide +kernel
theorem d_R_dominates_52 : decode b_R_dominates 52 = .ok (.aload_n 0, 1) := by decide +kernel
theorem d_R_dominates_53 : decode b_R_dominates 53 = .ok (.getfield 13, 3) := by decide +kernel
theorem d_R_dominates_56 : decode b_R_dominates 56 = .ok (.iload_n 1, 1) := by decide +kernel
theorem d_R_dominates_57 : decode b_R_dominates 57 = .ok (.iaload, 1) := by decide +kernel
theorem d_R_dominates_58 : decode b_R_dominates 58 = .ok (.if_icmp .ge (139), 3) := by decide +kernel
theorem d_R_dominates_61 : decode b_R_dominates 61 = .ok (.aload_n 0, 1) := by decide +kernel
theorem d_R_dominates_62 : decode b_R_dominates 62 = .ok (.getfield 16, 3) := by decide +kernel
theorem d_R_dominates_65 : decode b_R_dominates 65 = .ok (.bipush (24), 2) := by decide +kernel
theorem d_R_dominates_67 : decode b_R_dominates 67 = .ok (.iload_n 1, 1) := by decide +kernel
theorem d_R_dominates_68 : decode b_R_dominates 68 = .ok (.imul, 1) := by decide +kernel
theorem d_R_dominates_69 : decode b_R_dominates 69 = .ok (.iload 5, 2) := by decide +kernel
theorem d_R_dominates_71 : decode b_R_dominates 71 = .ok (.iadd, 1) := by decide +kernel
theorem d_R_dominates_72 : decode b_R_dominates 72 = .ok (.iaload, 1) := by decide +kernel
theorem d_R_dominates_73 : decode b_R_dominates 73 = .ok (.istore 6, 2) := by decide +kernel
theorem d_R_dominates_75 : decode b_R_dominates 75 = .ok (.aload_n 0, 1) := by decide +kernel
theorem d_R_dominates_76 : decode b_R_dominates 76 = .ok (.getfield 28, 3) := by decide +kernel
theorem d_R_dominates_79 : decode b_R_dominates 79 = .ok (.bipush (24), 2) := by decide +kernel
theorem d_R_dominates_81 : decode b_R_dominates 81 = .ok (.iload_n 1, 1) := by decide +kernel
theorem d_R_dominates_82 : decode b_R_dominates 82 = .ok (.imul, 1) := by decide +kernel
theorem d_R_dominates_83 : decode b_R_dominates 83 = .ok (.iload 5, 2) := by decide +kernel
theorem d_R_dominates_85 : decode b_R_dominates 85 = .ok (.iadd, 1) := by decide +kernel
theorem d_R_dominates_86 : decode b_R_dominates 86 = .ok (.iaload, 1) := by decide +kernel
theorem d_R_dominates_87 : decode b_R_dominates 87 = .ok (.istore 7, 2) := by decide +kernel
theorem d_R_dominates_89 : decode b_R_dominates 89 = .ok (.aload_n 0, 1) := by decide +kernel
theorem d_R_dominates_90 : decode b_R_dominates 90 = .ok (.getfield 43, 3) := by decide +kernel
theorem d_R_dominates_93 : decode b_R_dominates 93 = .ok (.iload 5, 2) := by decide +kernel
theorem d_R_dominates_95 : decode b_R_dominates 95 = .ok (.baload, 1) := by decide +kernel
theorem d_R_dominates_96 : decode b_R_dominates 96 = .ok (.ifCond .eq (13), 3) := by decide +kernel
theorem d_R_dominates_99 : decode b_R_dominates 99 = .ok (.iload 5, 2) := by decide +kernel
theorem d_R_dominates_101 : decode b_R_dominates 101 = .ok (.iload_n 2, 1) := by decide +kernel
theorem d_R_dominates_102 : decode b_R_dominates 102 = .ok (.if_icmp .eq (7), 3) := by decide +kernel
theorem d_R_dominates_105 : decode b_R_dominates 105 = .ok (.iconst 1, 1) := by decide +kernel
theorem d_R_dominates_106 : decode b_R_dominates 106 = .ok (.goto (4), 3) := by decide +kernel
theorem d_R_dominates_109 : decode b_R_dominates 109 = .ok (.iconst 0, 1) := by decide +kernel
theorem d_R_dominates_110 : decode b_R_dominates 110 = .ok (.istore 8, 2) := by decide +kernel
theorem d_R_dominates_112 : decode b_R_dominates 112 = .ok (.iload 8, 2) := by decide +kernel
theorem d_R_dominates_114 : decode b_R_dominates 114 = .ok (.ifCond .eq (35), 3) := by decide +kernel
theorem d_R_dominates_117 : decode b_R_dominates 117 = .ok (.iload 6, 2) := by decide +kernel
theorem d_R_dominates_119 : decode b_R_dominates 119 = .ok (.bipush (14), 2) := by decide +kernel
theorem d_R_dominates_121 : decode b_R_dominates 121 = .ok (.if_icmp .eq (10), 3) := by decide +kernel
theorem d_R_dominates_124 : decode b_R_dominates 124 = .ok (.iload 6, 2) := by decide +kernel
theorem d_R_dominates_126 : decode b_R_dominates 126 = .ok (.bipush (15), 2) := by decide +kernel
theorem d_R_dominates_128 : decode b_R_dominates 128 = .ok (.if_icmp .ne (21), 3) := by decide +kernel
theorem d_R_dominates_131 : decode b_R_dominates 131 = .ok (.aload_n 0, 1) := by decide +kernel
theorem d_R_dominates_132 : decode b_R_dominates 132 = .ok (.iload_n 1, 1) := by decide +kernel
theorem d_R_dominates_133 : decode b_R_dominates 133 = .ok (.iload 7, 2) := by decide +kernel
theorem d_R_dominates_135 : decode b_R_dominates 135 = .ok (.invokevirtual 128, 3) := by decide +kernel
theorem d_R_dominates_138 : decode b_R_dominates 138 = .ok (.ifCond .eq (11), 3) := by decide +kernel
theorem d_R_dominates_141 : decode b_R_dominates 141 = .ok (.aload_n 0, 1) := by decide +kernel
theorem d_R_dominates_142 : decode b_R_dominates 142 = .ok (.getfield 43, 3) := by decide +kernel
theorem d_R_dominates_145 : decode b_R_dominates 145 = .ok (.iload 7, 2) := by decide +kernel
theorem d_R_dominates_147 : decode b_R_dominates 147 = .ok (.iconst 1, 1) := by decide +kernel
theorem d_R_dominates_148 : decode b_R_dominates 148 = .ok (.bastore, 1) := by decide +kernel
theorem d_R_dominates_149 : decode b_R_dominates 149 = .ok (.iload 8, 2) := by decide +kernel
theorem d_R_dominates_151 : decode b_R_dominates 151 = .ok (.ifCond .eq (40), 3) := by decide +kernel
theorem d_R_dominates_154 : decode b_R_dominates 154 = .ok (.iload 6, 2) := by decide +kernel
theorem d_R_dominates_156 : decode b_R_dominates 156 = .ok (.bipush (14), 2) := by decide +kernel
theorem d_R_dominates_158 : decode b_R_dominates 158 = .ok (.if_icmp .eq (33), 3) := by decide +kernel
theorem d_R_dominates_161 : decode b_R_dominates 161 = .ok (.iload 6, 2) := by decide +kernel
theorem d_R_dominates_163 : decode b_R_dominates 163 = .ok (.bipush (17), 2) := by decide +kernel
theorem d_R_dominates_165 : decode b_R_dominates 165 = .ok (.if_icmp .eq (26), 3) := by decide +kernel
theorem d_R_dominates_168 : decode b_R_dominates 168 = .ok (.iload 5, 2) := by decide +kernel
theorem d_R_dominates_170 : decode b_R_dominates 170 = .ok (.iconst 1, 1) := by decide +kernel
theorem d_R_dominates_171 : decode b_R_dominates 171 = .ok (.iadd, 1) := by decide +kernel
theorem d_R_dominates_172 : decode b_R_dominates 172 = .ok (.aload_n 0, 1) := by decide +kernel
theorem d_R_dominates_173 : decode b_R_dominates 173 = .ok (.getfield 13, 3) := by decide +kernel
theorem d_R_dominates_176 : decode b_R_dominates 176 = .ok (.iload_n 1, 1) := by decide +kernel
theorem d_R_dominates_177 : decode b_R_dominates 177 = .ok (.iaload, 1) := by decide +kernel
theorem d_R_dominates_178 : decode b_R_dominates 178 = .ok (.if_icmp .ge (13), 3) := by decide +kernel
theorem d_R_dominates_181 : decode b_R_dominates 181 = .ok (.aload_n 0, 1) := by decide +kernel
theorem d_R_dominates_182 : decode b_R_dominates 182 = .ok (.getfield 43, 3) := by decide +kernel
theorem d_R_dominates_185 : decode b_R_dominates 185 = .ok (.iload 5, 2) := by decide +kernel
theorem d_R_dominates_187 : decode b_R_dominates 187 = .ok (.iconst 1, 1) := by decide +kernel
theorem d_R_dominates_188 : decode b_R_dominates 188 = .ok (.iadd, 1) := by decide +kernel
theorem d_R_dominates_189 : decode b_R_dominates 189 = .ok (.iconst 1, 1) := by decide +kernel
theorem d_R_dominates_190 : decode b_R_dominates 190 = .ok (.bastore, 1) := by decide +kernel
theorem d_R_dominates_191 : decode b_R_dominates 191 = .ok (.iinc 5 (1), 3) := by decide +kernel
theorem d_R_dominates_194 : decode b_R_dominates 194 = .ok (.goto (-144), 3) := by decide +kernel
theorem d_R_dominates_197 : decode b_R_dominates 197 = .ok (.iinc 4 (1), 3) := by decide +kernel
theorem d_R_dominates_200 : decode b_R_dominates 200 = .ok (.goto (-160), 3) := by decide +kernel
theorem d_R_dominates_203 : decode b_R_dominates 203 = .ok (.iload_n 2, 1) := by decide +kernel
theorem d_R_dominates_204 : decode b_R_dominates 204 = .ok (.iload_n 3, 1) := by decide +kernel
theorem d_R_dominates_205 : decode b_R_dominates 205 = .ok (.if_icmp .eq (12), 3) := by decide +kernel
theorem d_R_dominates_208 : decode b_R_dominates 208 = .ok (.aload_n 0, 1) := by decide +kernel
theorem d_R_dominates_209 : decode b_R_dominates 209 = .ok (.getfield 43, 3) := by decide +kernel
theorem d_R_dominates_212 : decode b_R_dominates 212 = .ok (.iload_n 3, 1) := by decide +kernel
theorem d_R_dominates_213 : decode b_R_dominates 213 = .ok (.baload, 1) := by decide +kernel
theorem d_R_dominates_214 : decode b_R_dominates 214 = .ok (.ifCond .ne (7), 3) := by decide +kernel
theorem d_R_dominates_217 : decode b_R_dominates 217 = .ok (.iconst 1, 1) := by decide +kernel
theorem d_R_dominates_218 : decode b_R_dominates 218 = .ok (.goto (4), 3) := by decide +kernel
theorem d_R_dominates_221 : decode b_R_dominates 221 = .ok (.iconst 0, 1) := by decide +kernel
theorem d_R_dominates_222 : decode b_R_dominates 222 = .ok (.ireturn, 1) := by decide +kernel
theorem d_R_isInstruction_0 : decode b_R_isInstruction 0 = .ok (.iload_n 1, 1) := by decide +kernel
theorem d_R_isInstruction_1 : decode b_R_isInstruction 1 = .ok (.invokestatic 81, 3) := by decide +kernel
theorem d_R_isInstruction_4 : decode b_R_isInstruction 4 = .ok (.ifCond .eq (21), 3) := by decide +kernel
theorem d_R_isInstruction_7 : decode b_R_isInstruction 7 = .ok (.iload_n 2, 1) := by decide +kernel
theorem d_R_isInstruction_8 : decode b_R_isInstruction 8 = .ok (.ifCond .lt (17), 3) := by decide +kernel
theorem d_R_isInstruction_11 : decode b_R_isInstruction 11 = .ok (.iload_n 2, 1) := by decide +kernel
theorem d_R_isInstruction_12 : decode b_R_isInstruction 12 = .ok (.aload_n 0, 1) := by decide +kernel
theorem d_R_isInstruction_13 : decode b_R_isInstruction 13 = .ok (.getfield 13, 3) := by decide +kernel
theorem d_R_isInstruction_16 : decode b_R_isInstruction 16 = .ok (.iload_n 1, 1) := by decide +kernel
theorem d_R_isInstruction_17 : decode b_R_isInstruction 17 = .ok (.iaload, 1) := by decide +kernel
theorem d_R_isInstruction_18 : decode b_R_isInstruction 18 = .ok (.if_icmp .ge (7), 3) := by decide +kernel
theorem d_R_isInstruction_21 : decode b_R_isInstruction 21 = .ok (.iconst 1, 1) := by decide +kernel
theorem d_R_isInstruction_22 : decode b_R_isInstruction 22 = .ok (.goto (4), 3) := by decide +kernel
theorem d_R_isInstruction_25 : decode b_R_isInstruction 25 = .ok (.iconst 0, 1) := by decide +kernel
theorem d_R_isInstruction_26 : decode b_R_isInstruction 26 = .ok (.ireturn, 1) := by decide +kernel
theorem d_R_pair_0 : decode b_R_pair 0 = .ok (.bipush (24), 2) := by decide +kernel
theorem d_R_pair_2 : decode b_R_pair 2 = .ok (.iload_n 1, 1) := by decide +kernel
theorem d_R_pair_3 : decode b_R_pair 3 = .ok (.imul, 1) := by decide +kernel
theorem d_R_pair_4 : decode b_R_pair 4 = .ok (.iload_n 2, 1) := by decide +kernel
theorem d_R_pair_5 : decode b_R_pair 5 = .ok (.iadd, 1) := by decide +kernel
theorem d_R_pair_6 : decode b_R_pair 6 = .ok (.istore 4, 2) := by decide +kernel
theorem d_R_pair_8 : decode b_R_pair 8 = .ok (.bipush (24), 2) := by decide +kernel
theorem d_R_pair_10 : decode b_R_pair 10 = .ok (.iload_n 1, 1) := by decide +kernel
theorem d_R_pair_11 : decode b_R_pair 11 = .ok (.imul, 1) := by decide +kernel
theorem d_R_pair_12 : decode b_R_pair 12 = .ok (.iload_n 3, 1) := by decide +kernel
theorem d_R_pair_13 : decode b_R_pair 13 = .ok (.iadd, 1) := by decide +kernel
theorem d_R_pair_14 : decode b_R_pair 14 = .ok (.istore 5, 2) := by decide +kernel
theorem d_R_pair_16 : decode b_R_pair 16 = .ok (.aload_n 0, 1) := by decide +kernel
theorem d_R_pair_17 : decode b_R_pair 17 = .ok (.getfield 16, 3) := by decide +kernel
theorem d_R_pair_20 : decode b_R_pair 20 = .ok (.iload 4, 2) := by decide +kernel
theorem d_R_pair_22 : decode b_R_pair 22 = .ok (.iaload, 1) := by decide +kernel
theorem d_R_pair_23 : decode b_R_pair 23 = .ok (.bipush (10), 2) := by decide +kernel
theorem d_R_pair_25 : decode b_R_pair 25 = .ok (.if_icmp .ne (32), 3) := by decide +kernel
theorem d_R_pair_28 : decode b_R_pair 28 = .ok (.aload_n 0, 1) := by decide +kernel
theorem d_R_pair_29 : decode b_R_pair 29 = .ok (.getfield 16, 3) := by decide +kernel
theorem d_R_pair_32 : decode b_R_pair 32 = .ok (.iload 5, 2) := by decide +kernel
theorem d_R_pair_34 : decode b_R_pair 34 = .ok (.iaload, 1) := by decide +kernel
theorem d_R_pair_35 : decode b_R_pair 35 = .ok (.bipush (11), 2) := by decide +kernel
theorem d_R_pair_37 : decode b_R_pair 37 = .ok (.if_icmp .ne (20), 3) := by decide +kernel
theorem d_R_pair_40 : decode b_R_pair 40 = .ok (.aload_n 0, 1) := by decide +kernel
theorem d_R_pair_41 : decode b_R_pair 41 = .ok (.getfield 19, 3) := by decide +kernel
theorem d_R_pair_44 : decode b_R_pair 44 = .ok (.iload 4, 2) := by decide +kernel
theorem d_R_pair_46 : decode b_R_pair 46 = .ok (.iaload, 1) := by decide +kernel
theorem d_R_pair_47 : decode b_R_pair 47 = .ok (.aload_n 0, 1) := by decide +kernel
theorem d_R_pair_48 : decode b_R_pair 48 = .ok (.getfield 19, 3) := by decide +kernel
theorem d_R_pair_51 : decode b_R_pair 51 = .ok (.iload 5, 2) := by decide +kernel
theorem d_R_pair_53 : decode b_R_pair 53 = .ok (.iaload, 1) := by decide +kernel
theorem d_R_pair_54 : decode b_R_pair 54 = .ok (.if_icmp .eq (5), 3) := by decide +kernel
theorem d_R_pair_57 : decode b_R_pair 57 = .ok (.iconst 0, 1) := by decide +kernel
theorem d_R_pair_58 : decode b_R_pair 58 = .ok (.ireturn, 1) := by decide +kernel
theorem d_R_pair_59 : decode b_R_pair 59 = .ok (.aload_n 0, 1) := by decide +kernel
theorem d_R_pair_60 : decode b_R_pair 60 = .ok (.getfield 19, 3) := by decide +kernel
theorem d_R_pair_63 : decode b_R_pair 63 = .ok (.iload 4, 2) := by decide +kernel
theorem d_R_pair_65 : decode b_R_pair 65 = .ok (.iaload, 1) := by decide +kernel
theorem d_R_pair_66 : decode b_R_pair 66 = .ok (.istore 6, 2) := by decide +kernel
theorem d_R_pair_68 : decode b_R_pair 68 = .ok (.aload_n 0, 1) := by decide +kernel
theorem d_R_pair_69 : decode b_R_pair 69 = .ok (.iload_n 1, 1) := by decide +kernel
theorem d_R_pair_70 : decode b_R_pair 70 = .ok (.iload 6, 2) := by decide +kernel
theorem d_R_pair_72 : decode b_R_pair 72 = .ok (.invokevirtual 135, 3) := by decide +kernel
theorem d_R_pair_75 : decode b_R_pair 75 = .ok (.istore 7, 2) := by decide +kernel
theorem d_R_pair_77 : decode b_R_pair 77 = .ok (.iload 7, 2) := by decide +kernel
theorem d_R_pair_79 : decode b_R_pair 79 = .ok (.ifCond .lt (38), 3) := by decide +kernel
theorem d_R_pair_82 : decode b_R_pair 82 = .ok (.aload_n 0, 1) := by decide +kernel
theorem d_R_pair_83 : decode b_R_pair 83 = .ok (.iload_n 1, 1) := by decide +kernel
theorem d_R_pair_84 : decode b_R_pair 84 = .ok (.iload 6, 2) := by decide +kernel
theorem d_R_pair_86 : decode b_R_pair 86 = .ok (.invokevirtual 148, 3) := by decide +kernel
theorem d_R_pair_89 : decode b_R_pair 89 = .ok (.ifCond .ne (28), 3) := by decide +kernel
theorem d_R_pair_92 : decode b_R_pair 92 = .ok (.aload_n 0, 1) := by decide +kernel
theorem d_R_pair_93 : decode b_R_pair 93 = .ok (.iload_n 1, 1) := by decide +kernel
theorem d_R_pair_94 : decode b_R_pair 94 = .ok (.iload 7, 2) := by decide +kernel
theorem d_R_pair_96 : decode b_R_pair 96 = .ok (.invokevirtual 151, 3) := by decide +kernel
theorem d_R_pair_99 : decode b_R_pair 99 = .ok (.ifCond .ne (18), 3) := by decide +kernel
theorem d_R_pair_102 : decode b_R_pair 102 = .ok (.aload_n 0, 1) := by decide +kernel
theorem d_R_pair_103 : decode b_R_pair 103 = .ok (.iload_n 1, 1) := by decide +kernel
theorem d_R_pair_104 : decode b_R_pair 104 = .ok (.iload 7, 2) := by decide +kernel
theorem d_R_pair_106 : decode b_R_pair 106 = .ok (.iload_n 2, 1) := by decide +kernel
theorem d_R_pair_107 : decode b_R_pair 107 = .ok (.invokevirtual 145, 3) := by decide +kernel
theorem d_R_pair_110 : decode b_R_pair 110 = .ok (.ifCond .eq (7), 3) := by decide +kernel
theorem d_R_pair_113 : decode b_R_pair 113 = .ok (.iconst 1, 1) := by decide +kernel
theorem d_R_pair_114 : decode b_R_pair 114 = .ok (.goto (4), 3) := by decide +kernel
theorem d_R_pair_117 : decode b_R_pair 117 = .ok (.iconst 0, 1) := by decide +kernel
theorem d_R_pair_118 : decode b_R_pair 118 = .ok (.istore 8, 2) := by decide +kernel
theorem d_R_pair_120 : decode b_R_pair 120 = .ok (.iload_n 2, 1) := by decide +kernel
theorem d_R_pair_121 : decode b_R_pair 121 = .ok (.iconst 1, 1) := by decide +kernel
theorem d_R_pair_122 : decode b_R_pair 122 = .ok (.iadd, 1) := by decide +kernel
theorem d_R_pair_123 : decode b_R_pair 123 = .ok (.istore 9, 2) := by decide +kernel
theorem d_R_pair_125 : decode b_R_pair 125 = .ok (.iload 9, 2) := by decide +kernel
theorem d_R_pair_127 : decode b_R_pair 127 = .ok (.iload_n 3, 1) := by decide +kernel
theorem d_R_pair_128 : decode b_R_pair 128 = .ok (.if_icmp .ge (82), 3) := by decide +kernel
theorem d_R_pair_131 : decode b_R_pair 131 = .ok (.aload_n 0, 1) := by decide +kernel
theorem d_R_pair_132 : decode b_R_pair 132 = .ok (.getfield 16, 3) := by decide +kernel
theorem d_R_pair_135 : decode b_R_pair 135 = .ok (.bipush (24), 2) := by decide +kernel
theorem d_R_pair_137 : decode b_R_pair 137 = .ok (.iload_n 1, 1) := by decide +kernel
theorem d_R_pair_138 : decode b_R_pair 138 = .ok (.imul, 1) := by decide +kernel
theorem d_R_pair_139 : decode b_R_pair 139 = .ok (.iload 9, 2) := by decide +kernel
theorem d_R_pair_141 : decode b_R_pair 141 = .ok (.iadd, 1) := by decide +kernel
theorem d_R_pair_142 : decode b_R_pair 142 = .ok (.iaload, 1) := by decide +kernel
theorem d_R_pair_143 : decode b_R_pair 143 = .ok (.istore 10, 2) := by decide +kernel
theorem d_R_pair_145 : decode b_R_pair 145 = .ok (.iload 8, 2) := by decide +kernel
theorem d_R_pair_147 : decode b_R_pair 147 = .ok (.ifCond .eq (54), 3) := by decide +kernel
theorem d_R_pair_150 : decode b_R_pair 150 = .ok (.iload 10, 2) := by decide +kernel
theorem d_R_pair_152 : decode b_R_pair 152 = .ok (.ifCond .eq (49), 3) := by decide +kernel
theorem d_R_pair_155 : decode b_R_pair 155 = .ok (.iload 10, 2) := by decide +kernel
theorem d_R_pair_157 : decode b_R_pair 157 = .ok (.bipush (10), 2) := by decide +kernel
theorem d_R_pair_159 : decode b_R_pair 159 = .ok (.if_icmp .eq (42), 3) := by decide +kernel
theorem d_R_pair_162 : decode b_R_pair 162 = .ok (.iload 10, 2) := by decide +kernel
theorem d_R_pair_164 : decode b_R_pair 164 = .ok (.bipush (11), 2) := by decide +kernel
theorem d_R_pair_166 : decode b_R_pair 166 = .ok (.if_icmp .eq (35), 3) := by decide +kernel
theorem d_R_pair_169 : decode b_R_pair 169 = .ok (.iload 10, 2) := by decide +kernel
theorem d_R_pair_171 : decode b_R_pair 171 = .ok (.bipush (14), 2) := by decide +kernel
theorem d_R_pair_173 : decode b_R_pair 173 = .ok (.if_icmp .eq (28), 3) := by decide +kernel
theorem d_R_pair_176 : decode b_R_pair 176 = .ok (.iload 10, 2) := by decide +kernel
theorem d_R_pair_178 : decode b_R_pair 178 = .ok (.bipush (15), 2) := by decide +kernel
theorem d_R_pair_180 : decode b_R_pair 180 = .ok (.if_icmp .eq (21), 3) := by decide +kernel
theorem d_R_pair_183 : decode b_R_pair 183 = .ok (.iload 10, 2) := by decide +kernel
theorem d_R_pair_185 : decode b_R_pair 185 = .ok (.bipush (17), 2) := by decide +kernel
theorem d_R_pair_187 : decode b_R_pair 187 = .ok (.if_icmp .eq (14), 3) := by decide +kernel
theorem d_R_pair_190 : decode b_R_pair 190 = .ok (.iload 10, 2) := by decide +kernel
theorem d_R_pair_192 : decode b_R_pair 192 = .ok (.bipush (16), 2) := by decide +kernel
theorem d_R_pair_194 : decode b_R_pair 194 = .ok (.if_icmp .eq (7), 3) := by decide +kernel
theorem d_R_pair_197 : decode b_R_pair 197 = .ok (.iconst 1, 1) := by decide +kernel
theorem d_R_pair_198 : decode b_R_pair 198 = .ok (.goto (4), 3) := by decide +kernel
theorem d_R_pair_201 : decode b_R_pair 201 = .ok (.iconst 0, 1) := by decide +kernel
theorem d_R_pair_202 : decode b_R_pair 202 = .ok (.istore 8, 2) := by decide +kernel
theorem d_R_pair_204 : decode b_R_pair 204 = .ok (.iinc 9 (1), 3) := by decide +kernel
theorem d_R_pair_207 : decode b_R_pair 207 = .ok (.goto (-82), 3) := by decide +kernel
theorem d_R_pair_210 : decode b_R_pair 210 = .ok (.iconst 0, 1) := by decide +kernel
theorem d_R_pair_211 : decode b_R_pair 211 = .ok (.istore 9, 2) := by decide +kernel
theorem d_R_pair_213 : decode b_R_pair 213 = .ok (.iload 9, 2) := by decide +kernel
theorem d_R_pair_215 : decode b_R_pair 215 = .ok (.aload_n 0, 1) := by decide +kernel
theorem d_R_pair_216 : decode b_R_pair 216 = .ok (.getfield 13, 3) := by decide +kernel
theorem d_R_pair_219 : decode b_R_pair 219 = .ok (.iload_n 1, 1) := by decide +kernel
theorem d_R_pair_220 : decode b_R_pair 220 = .ok (.iaload, 1) := by decide +kernel
theorem d_R_pair_221 : decode b_R_pair 221 = .ok (.if_icmp .ge (75), 3) := by decide +kernel
theorem d_R_pair_224 : decode b_R_pair 224 = .ok (.aload_n 0, 1) := by decide +kernel
theorem d_R_pair_225 : decode b_R_pair 225 = .ok (.getfield 16, 3) := by decide +kernel
theorem d_R_pair_228 : decode b_R_pair 228 = .ok (.bipush (24), 2) := by decide +kernel
theorem d_R_pair_230 : decode b_R_pair 230 = .ok (.iload_n 1, 1) := by decide +kernel
theorem d_R_pair_231 : decode b_R_pair 231 = .ok (.imul, 1) := by decide +kernel
theorem d_R_pair_232 : decode b_R_pair 232 = .ok (.iload 9, 2) := by decide +kernel
theorem d_R_pair_234 : decode b_R_pair 234 = .ok (.iadd, 1) := by decide +kernel
theorem d_R_pair_235 : decode b_R_pair 235 = .ok (.iaload, 1) := by decide +kernel
theorem d_R_pair_236 : decode b_R_pair 236 = .ok (.istore 10, 2) := by decide +kernel
theorem d_R_pair_238 : decode b_R_pair 238 = .ok (.aload_n 0, 1) := by decide +kernel
theorem d_R_pair_239 : decode b_R_pair 239 = .ok (.getfield 28, 3) := by decide +kernel
theorem d_R_pair_242 : decode b_R_pair 242 = .ok (.bipush (24), 2) := by decide +kernel
theorem d_R_pair_244 : decode b_R_pair 244 = .ok (.iload_n 1, 1) := by decide +kernel
theorem d_R_pair_245 : decode b_R_pair 245 = .ok (.imul, 1) := by decide +kernel
theorem d_R_pair_246 : decode b_R_pair 246 = .ok (.iload 9, 2) := by decide +kernel
theorem d_R_pair_248 : decode b_R_pair 248 = .ok (.iadd, 1) := by decide +kernel
theorem d_R_pair_249 : decode b_R_pair 249 = .ok (.iaload, 1) := by decide +kernel
theorem d_R_pair_250 : decode b_R_pair 250 = .ok (.istore 11, 2) := by decide +kernel
theorem d_R_pair_252 : decode b_R_pair 252 = .ok (.iload 8, 2) := by decide +kernel
theorem d_R_pair_254 : decode b_R_pair 254 = .ok (.ifCond .eq (33), 3) := by decide +kernel
theorem d_R_pair_257 : decode b_R_pair 257 = .ok (.iload 10, 2) := by decide +kernel
theorem d_R_pair_259 : decode b_R_pair 259 = .ok (.bipush (14), 2) := by decide +kernel
theorem d_R_pair_261 : decode b_R_pair 261 = .ok (.if_icmp .eq (10), 3) := by decide +kernel
theorem d_R_pair_264 : decode b_R_pair 264 = .ok (.iload 10, 2) := by decide +kernel
theorem d_R_pair_266 : decode b_R_pair 266 = .ok (.bipush (15), 2) := by decide +kernel
theorem d_R_pair_268 : decode b_R_pair 268 = .ok (.if_icmp .ne (15), 3) := by decide +kernel
theorem d_R_pair_271 : decode b_R_pair 271 = .ok (.iload 11, 2) := by decide +kernel
theorem d_R_pair_273 : decode b_R_pair 273 = .ok (.iload_n 2, 1) := by decide +kernel
theorem d_R_pair_274 : decode b_R_pair 274 = .ok (.if_icmp .le (9), 3) := by decide +kernel
theorem d_R_pair_277 : decode b_R_pair 277 = .ok (.iload 11, 2) := by decide +kernel
theorem d_R_pair_279 : decode b_R_pair 279 = .ok (.iload_n 3, 1) := by decide +kernel
theorem d_R_pair_280 : decode b_R_pair 280 = .ok (.if_icmp .le (7), 3) := by decide +kernel
theorem d_R_pair_283 : decode b_R_pair 283 = .ok (.iconst 1, 1) := by decide +kernel
theorem d_R_pair_284 : decode b_R_pair 284 = .ok (.goto (4), 3) := by decide +kernel
theorem d_R_pair_287 : decode b_R_pair 287 = .ok (.iconst 0, 1) := by decide +kernel
theorem d_R_pair_288 : decode b_R_pair 288 = .ok (.istore 8, 2) := by decide +kernel
theorem d_R_pair_290 : decode b_R_pair 290 = .ok (.iinc 9 (1), 3) := by decide +kernel
theorem d_R_pair_293 : decode b_R_pair 293 = .ok (.goto (-80), 3) := by decide +kernel
theorem d_R_pair_296 : decode b_R_pair 296 = .ok (.iload 8, 2) := by decide +kernel
theorem d_R_pair_298 : decode b_R_pair 298 = .ok (.ireturn, 1) := by decide +kernel
theorem d_R_escapeOf_0 : decode b_R_escapeOf 0 = .ok (.aload_n 0, 1) := by decide +kernel
theorem d_R_escapeOf_1 : decode b_R_escapeOf 1 = .ok (.iload_n 1, 1) := by decide +kernel
theorem d_R_escapeOf_2 : decode b_R_escapeOf 2 = .ok (.ldc 92, 2) := by decide +kernel
theorem d_R_escapeOf_4 : decode b_R_escapeOf 4 = .ok (.invokevirtual 93, 3) := by decide +kernel
theorem d_R_escapeOf_7 : decode b_R_escapeOf 7 = .ok (.istore_n 3, 1) := by decide +kernel
theorem d_R_escapeOf_8 : decode b_R_escapeOf 8 = .ok (.aload_n 0, 1) := by decide +kernel
theorem d_R_escapeOf_9 : decode b_R_escapeOf 9 = .ok (.iload_n 1, 1) := by decide +kernel
theorem d_R_escapeOf_10 : decode b_R_escapeOf 10 = .ok (.aload_n 0, 1) := by decide +kernel
theorem d_R_escapeOf_11 : decode b_R_escapeOf 11 = .ok (.iload_n 1, 1) := by decide +kernel
theorem d_R_escapeOf_12 : decode b_R_escapeOf 12 = .ok (.invokevirtual 125, 3) := by decide +kernel
theorem d_R_escapeOf_15 : decode b_R_escapeOf 15 = .ok (.aload_n 0, 1) := by decide +kernel
theorem d_R_escapeOf_16 : decode b_R_escapeOf 16 = .ok (.getfield 37, 3) := by decide +kernel
theorem d_R_escapeOf_19 : decode b_R_escapeOf 19 = .ok (.iload_n 1, 1) := by decide +kernel
theorem d_R_escapeOf_20 : decode b_R_escapeOf 20 = .ok (.iaload, 1) := by decide +kernel
theorem d_R_escapeOf_21 : decode b_R_escapeOf 21 = .ok (.ior, 1) := by decide +kernel
theorem d_R_escapeOf_22 : decode b_R_escapeOf 22 = .ok (.invokevirtual 93, 3) := by decide +kernel
theorem d_R_escapeOf_25 : decode b_R_escapeOf 25 = .ok (.istore 4, 2) := by decide +kernel
theorem d_R_escapeOf_27 : decode b_R_escapeOf 27 = .ok (.iload_n 3, 1) := by decide +kernel
theorem d_R_escapeOf_28 : decode b_R_escapeOf 28 = .ok (.iload_n 2, 1) := by decide +kernel
theorem d_R_escapeOf_29 : decode b_R_escapeOf 29 = .ok (.ishr, 1) := by decide +kernel
theorem d_R_escapeOf_30 : decode b_R_escapeOf 30 = .ok (.iconst 1, 1) := by decide +kernel
theorem d_R_escapeOf_31 : decode b_R_escapeOf 31 = .ok (.iand, 1) := by decide +kernel
theorem d_R_escapeOf_32 : decode b_R_escapeOf 32 = .ok (.iconst 1, 1) := by decide +kernel
theorem d_R_escapeOf_33 : decode b_R_escapeOf 33 = .ok (.if_icmp .ne (7), 3) := by decide +kernel
theorem d_R_escapeOf_36 : decode b_R_escapeOf 36 = .ok (.iconst 2, 1) := by decide +kernel
theorem d_R_escapeOf_37 : decode b_R_escapeOf 37 = .ok (.goto (9), 3) := by decide +kernel
theorem d_R_escapeOf_40 : decode b_R_escapeOf 40 = .ok (.iload 4, 2) := by decide +kernel
theorem d_R_escapeOf_42 : decode b_R_escapeOf 42 = .ok (.iload_n 2, 1) := by decide +kernel
theorem d_R_escapeOf_43 : decode b_R_escapeOf 43 = .ok (.ishr, 1) := by decide +kernel
theorem d_R_escapeOf_44 : decode b_R_escapeOf 44 = .ok (.iconst 1, 1) := by decide +kernel
theorem d_R_escapeOf_45 : decode b_R_escapeOf 45 = .ok (.iand, 1) := by decide +kernel
theorem d_R_escapeOf_46 : decode b_R_escapeOf 46 = .ok (.ireturn, 1) := by decide +kernel
theorem d_R_argsOf_0 : decode b_R_argsOf 0 = .ok (.aload_n 0, 1) := by decide +kernel
theorem d_R_argsOf_1 : decode b_R_argsOf 1 = .ok (.getfield 7, 3) := by decide +kernel
theorem d_R_argsOf_4 : decode b_R_argsOf 4 = .ok (.iload_n 1, 1) := by decide +kernel
theorem d_R_argsOf_5 : decode b_R_argsOf 5 = .ok (.iaload, 1) := by decide +kernel
theorem d_R_argsOf_6 : decode b_R_argsOf 6 = .ok (.ifCond .ne (7), 3) := by decide +kernel
theorem d_R_argsOf_9 : decode b_R_argsOf 9 = .ok (.iconst 0, 1) := by decide +kernel
theorem d_R_argsOf_10 : decode b_R_argsOf 10 = .ok (.goto (20), 3) := by decide +kernel
theorem d_R_argsOf_13 : decode b_R_argsOf 13 = .ok (.aload_n 0, 1) := by decide +kernel
theorem d_R_argsOf_14 : decode b_R_argsOf 14 = .ok (.getfield 7, 3) := by decide +kernel
theorem d_R_argsOf_17 : decode b_R_argsOf 17 = .ok (.iload_n 1, 1) := by decide +kernel
theorem d_R_argsOf_18 : decode b_R_argsOf 18 = .ok (.iaload, 1) := by decide +kernel
theorem d_R_argsOf_19 : decode b_R_argsOf 19 = .ok (.iconst 1, 1) := by decide +kernel
theorem d_R_argsOf_20 : decode b_R_argsOf 20 = .ok (.if_icmp .ne (8), 3) := by decide +kernel
theorem d_R_argsOf_23 : decode b_R_argsOf 23 = .ok (.ldc 112, 2) := by decide +kernel
theorem d_R_argsOf_25 : decode b_R_argsOf 25 = .ok (.goto (5), 3) := by decide +kernel
theorem d_R_argsOf_28 : decode b_R_argsOf 28 = .ok (.ldc 113, 2) := by decide +kernel
theorem d_R_argsOf_30 : decode b_R_argsOf 30 = .ok (.ireturn, 1) := by decide +kernel
theorem d_R_enter_0 : decode b_R_enter 0 = .ok (.aload_n 0, 1) := by decide +kernel
theorem d_R_enter_1 : decode b_R_enter 1 = .ok (.getfield 157, 3) := by decide +kernel
theorem d_R_enter_4 : decode b_R_enter 4 = .ok (.istore 5, 2) := by decide +kernel
theorem d_R_enter_6 : decode b_R_enter 6 = .ok (.aload_n 0, 1) := by decide +kernel
theorem d_R_enter_7 : decode b_R_enter 7 = .ok (.getfield 47, 3) := by decide +kernel
theorem d_R_enter_10 : decode b_R_enter 10 = .ok (.iload 5, 2) := by decide +kernel
theorem d_R_enter_12 : decode b_R_enter 12 = .ok (.iload_n 1, 1) := by decide +kernel
theorem d_R_enter_13 : decode b_R_enter 13 = .ok (.iastore, 1) := by decide +kernel
theorem d_R_enter_14 : decode b_R_enter 14 = .ok (.aload_n 0, 1) := by decide +kernel
theorem d_R_enter_15 : decode b_R_enter 15 = .ok (.getfield 50, 3) := by decide +kernel
theorem d_R_enter_18 : decode b_R_enter 18 = .ok (.iload 5, 2) := by decide +kernel
theorem d_R_enter_20 : decode b_R_enter 20 = .ok (.iconst 0, 1) := by decide +kernel
theorem d_R_enter_21 : decode b_R_enter 21 = .ok (.iastore, 1) := by decide +kernel
theorem d_R_enter_22 : decode b_R_enter 22 = .ok (.aload_n 0, 1) := by decide +kernel
theorem d_R_enter_23 : decode b_R_enter 23 = .ok (.getfield 53, 3) := by decide +kernel
theorem d_R_enter_26 : decode b_R_enter 26 = .ok (.iload 5, 2) := by decide +kernel
theorem d_R_enter_28 : decode b_R_enter 28 = .ok (.iload_n 2, 1) := by decide +kernel
theorem d_R_enter_29 : decode b_R_enter 29 = .ok (.iastore, 1) := by decide +kernel
theorem d_R_enter_30 : decode b_R_enter 30 = .ok (.iconst 0, 1) := by decide +kernel
theorem d_R_enter_31 : decode b_R_enter 31 = .ok (.istore 6, 2) := by decide +kernel
theorem d_R_enter_33 : decode b_R_enter 33 = .ok (.iload 6, 2) := by decide +kernel
theorem d_R_enter_35 : decode b_R_enter 35 = .ok (.iconst 4, 1) := by decide +kernel
theorem d_R_enter_36 : decode b_R_enter 36 = .ok (.if_icmp .ge (35), 3) := by decide +kernel
theorem d_R_enter_39 : decode b_R_enter 39 = .ok (.aload_n 0, 1) := by decide +kernel
theorem d_R_enter_40 : decode b_R_enter 40 = .ok (.getfield 56, 3) := by decide +kernel
theorem d_R_enter_43 : decode b_R_enter 43 = .ok (.iconst 4, 1) := by decide +kernel
theorem d_R_enter_44 : decode b_R_enter 44 = .ok (.iload 5, 2) := by decide +kernel
theorem d_R_enter_46 : decode b_R_enter 46 = .ok (.imul, 1) := by decide +kernel
theorem d_R_enter_47 : decode b_R_enter 47 = .ok (.iload 6, 2) := by decide +kernel
theorem d_R_enter_49 : decode b_R_enter 49 = .ok (.iadd, 1) := by decide +kernel
theorem d_R_enter_50 : decode b_R_enter 50 = .ok (.iconst 0, 1) := by decide +kernel
theorem d_R_enter_51 : decode b_R_enter 51 = .ok (.iastore, 1) := by decide +kernel
theorem d_R_enter_52 : decode b_R_enter 52 = .ok (.aload_n 0, 1) := by decide +kernel
theorem d_R_enter_53 : decode b_R_enter 53 = .ok (.getfield 59, 3) := by decide +kernel
theorem d_R_enter_56 : decode b_R_enter 56 = .ok (.iconst 4, 1) := by decide +kernel
theorem d_R_enter_57 : decode b_R_enter 57 = .ok (.iload 5, 2) := by decide +kernel
theorem d_R_enter_59 : decode b_R_enter 59 = .ok (.imul, 1) := by decide +kernel
theorem d_R_enter_60 : decode b_R_enter 60 = .ok (.iload 6, 2) := by decide +kernel
theorem d_R_enter_62 : decode b_R_enter 62 = .ok (.iadd, 1) := by decide +kernel
theorem d_R_enter_63 : decode b_R_enter 63 = .ok (.iconst 0, 1) := by decide +kernel
theorem d_R_enter_64 : decode b_R_enter 64 = .ok (.iastore, 1) := by decide +kernel
theorem d_R_enter_65 : decode b_R_enter 65 = .ok (.iinc 6 (1), 3) := by decide +kernel
theorem d_R_enter_68 : decode b_R_enter 68 = .ok (.goto (-35), 3) := by decide +kernel
theorem d_R_enter_71 : decode b_R_enter 71 = .ok (.aload_n 0, 1) := by decide +kernel
theorem d_R_enter_72 : decode b_R_enter 72 = .ok (.getfield 56, 3) := by decide +kernel
theorem d_R_enter_75 : decode b_R_enter 75 = .ok (.iconst 4, 1) := by decide +kernel
theorem d_R_enter_76 : decode b_R_enter 76 = .ok (.iload 5, 2) := by decide +kernel
theorem d_R_enter_78 : decode b_R_enter 78 = .ok (.imul, 1) := by decide +kernel
theorem d_R_enter_79 : decode b_R_enter 79 = .ok (.aload_n 0, 1) := by decide +kernel
theorem d_R_enter_80 : decode b_R_enter 80 = .ok (.getfield 7, 3) := by decide +kernel
theorem d_R_enter_83 : decode b_R_enter 83 = .ok (.iload_n 1, 1) := by decide +kernel
theorem d_R_enter_84 : decode b_R_enter 84 = .ok (.iaload, 1) := by decide +kernel
theorem d_R_enter_85 : decode b_R_enter 85 = .ok (.ifCond .le (7), 3) := by decide +kernel
theorem d_R_enter_88 : decode b_R_enter 88 = .ok (.iload_n 3, 1) := by decide +kernel
theorem d_R_enter_89 : decode b_R_enter 89 = .ok (.goto (4), 3) := by decide +kernel
theorem d_R_enter_92 : decode b_R_enter 92 = .ok (.iconst 0, 1) := by decide +kernel
theorem d_R_enter_93 : decode b_R_enter 93 = .ok (.iastore, 1) := by decide +kernel
theorem d_R_enter_94 : decode b_R_enter 94 = .ok (.aload_n 0, 1) := by decide +kernel
theorem d_R_enter_95 : decode b_R_enter 95 = .ok (.getfield 56, 3) := by decide +kernel
theorem d_R_enter_98 : decode b_R_enter 98 = .ok (.iconst 4, 1) := by decide +kernel
theorem d_R_enter_99 : decode b_R_enter 99 = .ok (.iload 5, 2) := by decide +kernel
theorem d_R_enter_101 : decode b_R_enter 101 = .ok (.imul, 1) := by decide +kernel
theorem d_R_enter_102 : decode b_R_enter 102 = .ok (.iconst 1, 1) := by decide +kernel
theorem d_R_enter_103 : decode b_R_enter 103 = .ok (.iadd, 1) := by decide +kernel
theorem d_R_enter_104 : decode b_R_enter 104 = .ok (.aload_n 0, 1) := by decide +kernel
theorem d_R_enter_105 : decode b_R_enter 105 = .ok (.getfield 7, 3) := by decide +kernel
theorem d_R_enter_108 : decode b_R_enter 108 = .ok (.iload_n 1, 1) := by decide +kernel
theorem d_R_enter_109 : decode b_R_enter 109 = .ok (.iaload, 1) := by decide +kernel
theorem d_R_enter_110 : decode b_R_enter 110 = .ok (.iconst 1, 1) := by decide +kernel
theorem d_R_enter_111 : decode b_R_enter 111 = .ok (.if_icmp .le (8), 3) := by decide +kernel
theorem d_R_enter_114 : decode b_R_enter 114 = .ok (.iload 4, 2) := by decide +kernel
theorem d_R_enter_116 : decode b_R_enter 116 = .ok (.goto (4), 3) := by decide +kernel
theorem d_R_enter_119 : decode b_R_enter 119 = .ok (.iconst 0, 1) := by decide +kernel
theorem d_R_enter_120 : decode b_R_enter 120 = .ok (.iastore, 1) := by decide +kernel
theorem d_R_enter_121 : decode b_R_enter 121 = .ok (.bipush (20), 2) := by decide +kernel
theorem d_R_enter_123 : decode b_R_enter 123 = .ok (.iload 5, 2) := by decide +kernel
theorem d_R_enter_125 : decode b_R_enter 125 = .ok (.imul, 1) := by decide +kernel
theorem d_R_enter_126 : decode b_R_enter 126 = .ok (.istore 6, 2) := by decide +kernel
theorem d_R_enter_128 : decode b_R_enter 128 = .ok (.iload 6, 2) := by decide +kernel
theorem d_R_enter_130 : decode b_R_enter 130 = .ok (.bipush (20), 2) := by decide +kernel
theorem d_R_enter_132 : decode b_R_enter 132 = .ok (.iload 5, 2) := by decide +kernel
theorem d_R_enter_134 : decode b_R_enter 134 = .ok (.imul, 1) := by decide +kernel
theorem d_R_enter_135 : decode b_R_enter 135 = .ok (.bipush (20), 2) := by decide +kernel
theorem d_R_enter_137 : decode b_R_enter 137 = .ok (.iadd, 1) := by decide +kernel
theorem d_R_enter_138 : decode b_R_enter 138 = .ok (.if_icmp .ge (17), 3) := by decide +kernel
theorem d_R_enter_141 : decode b_R_enter 141 = .ok (.aload_n 0, 1) := by decide +kernel
theorem d_R_enter_142 : decode b_R_enter 142 = .ok (.getfield 62, 3) := by decide +kernel
theorem d_R_enter_145 : decode b_R_enter 145 = .ok (.iload 6, 2) := by decide +kernel
theorem d_R_enter_147 : decode b_R_enter 147 = .ok (.iconst 0, 1) := by decide +kernel
theorem d_R_enter_148 : decode b_R_enter 148 = .ok (.iastore, 1) := by decide +kernel
theorem d_R_enter_149 : decode b_R_enter 149 = .ok (.iinc 6 (1), 3) := by decide +kernel
theorem d_R_enter_152 : decode b_R_enter 152 = .ok (.goto (-24), 3) := by decide +kernel
theorem d_R_enter_155 : decode b_R_enter 155 = .ok (.aload_n 0, 1) := by decide +kernel
theorem d_R_enter_156 : decode b_R_enter 156 = .ok (.dup, 1) := by decide +kernel
theorem d_R_enter_157 : decode b_R_enter 157 = .ok (.getfield 157, 3) := by decide +kernel
theorem d_R_enter_160 : decode b_R_enter 160 = .ok (.iconst 1, 1) := by decide +kernel
theorem d_R_enter_161 : decode b_R_enter 161 = .ok (.iadd, 1) := by decide +kernel
theorem d_R_enter_162 : decode b_R_enter 162 = .ok (.putfield 157, 3) := by decide +kernel
theorem d_R_enter_165 : decode b_R_enter 165 = .ok (.return_, 1) := by decide +kernel
theorem d_R_leave_0 : decode b_R_leave 0 = .ok (.aload_n 0, 1) := by decide +kernel
theorem d_R_leave_1 : decode b_R_leave 1 = .ok (.dup, 1) := by decide +kernel
theorem d_R_leave_2 : decode b_R_leave 2 = .ok (.getfield 157, 3) := by decide +kernel
theorem d_R_leave_5 : decode b_R_leave 5 = .ok (.iconst 1, 1) := by decide +kernel
theorem d_R_leave_6 : decode b_R_leave 6 = .ok (.isub, 1) := by decide +kernel
theorem d_R_leave_7 : decode b_R_leave 7 = .ok (.putfield 157, 3) := by decide +kernel
theorem d_R_leave_10 : decode b_R_leave 10 = .ok (.aload_n 0, 1) := by decide +kernel
theorem d_R_leave_11 : decode b_R_leave 11 = .ok (.getfield 157, 3) := by decide +kernel
theorem d_R_leave_14 : decode b_R_leave 14 = .ok (.ifCond .le (27), 3) := by decide +kernel
theorem d_R_leave_17 : decode b_R_leave 17 = .ok (.aload_n 0, 1) := by decide +kernel
theorem d_R_leave_18 : decode b_R_leave 18 = .ok (.getfield 56, 3) := by decide +kernel
theorem d_R_leave_21 : decode b_R_leave 21 = .ok (.iconst 4, 1) := by decide +kernel
theorem d_R_leave_22 : decode b_R_leave 22 = .ok (.aload_n 0, 1) := by decide +kernel
theorem d_R_leave_23 : decode b_R_leave 23 = .ok (.getfield 157, 3) := by decide +kernel
theorem d_R_leave_26 : decode b_R_leave 26 = .ok (.iconst 1, 1) := by decide +kernel
theorem d_R_leave_27 : decode b_R_leave 27 = .ok (.isub, 1) := by decide +kernel
theorem d_R_leave_28 : decode b_R_leave 28 = .ok (.imul, 1) := by decide +kernel
theorem d_R_leave_29 : decode b_R_leave 29 = .ok (.aload_n 0, 1) := by decide +kernel
theorem d_R_leave_30 : decode b_R_leave 30 = .ok (.getfield 53, 3) := by decide +kernel
theorem d_R_leave_33 : decode b_R_leave 33 = .ok (.aload_n 0, 1) := by decide +kernel
theorem d_R_leave_34 : decode b_R_leave 34 = .ok (.getfield 157, 3) := by decide +kernel
theorem d_R_leave_37 : decode b_R_leave 37 = .ok (.iaload, 1) := by decide +kernel
theorem d_R_leave_38 : decode b_R_leave 38 = .ok (.iadd, 1) := by decide +kernel
theorem d_R_leave_39 : decode b_R_leave 39 = .ok (.iload_n 1, 1) := by decide +kernel
theorem d_R_leave_40 : decode b_R_leave 40 = .ok (.iastore, 1) := by decide +kernel
theorem d_R_leave_41 : decode b_R_leave 41 = .ok (.return_, 1) := by decide +kernel
theorem d_R_does_0 : decode b_R_does 0 = .ok (.aload_n 0, 1) := by decide +kernel
theorem d_R_does_1 : decode b_R_does 1 = .ok (.getfield 16, 3) := by decide +kernel
theorem d_R_does_4 : decode b_R_does 4 = .ok (.iload_n 1, 1) := by decide +kernel
theorem d_R_does_5 : decode b_R_does 5 = .ok (.iaload, 1) := by decide +kernel
theorem d_R_does_6 : decode b_R_does 6 = .ok (.istore_n 3, 1) := by decide +kernel
theorem d_R_does_7 : decode b_R_does 7 = .ok (.aload_n 0, 1) := by decide +kernel
theorem d_R_does_8 : decode b_R_does 8 = .ok (.getfield 50, 3) := by decide +kernel
theorem d_R_does_11 : decode b_R_does 11 = .ok (.aload_n 0, 1) := by decide +kernel
theorem d_R_does_12 : decode b_R_does 12 = .ok (.getfield 157, 3) := by decide +kernel
theorem d_R_does_15 : decode b_R_does 15 = .ok (.iconst 1, 1) := by decide +kernel
theorem d_R_does_16 : decode b_R_does 16 = .ok (.isub, 1) := by decide +kernel
theorem d_R_does_17 : decode b_R_does 17 = .ok (.dup2, 1) := by decide +kernel
theorem d_R_does_18 : decode b_R_does 18 = .ok (.iaload, 1) := by decide +kernel
theorem d_R_does_19 : decode b_R_does 19 = .ok (.iconst 1, 1) := by decide +kernel
theorem d_R_does_20 : decode b_R_does 20 = .ok (.iadd, 1) := by decide +kernel
theorem d_R_does_21 : decode b_R_does 21 = .ok (.iastore, 1) := by decide +kernel
theorem d_R_does_22 : decode b_R_does 22 = .ok (.iload_n 3, 1) := by decide +kernel
theorem d_R_does_23 : decode b_R_does 23 = .ok (.ifCond .ne (26), 3) := by decide +kernel
theorem d_R_does_26 : decode b_R_does 26 = .ok (.aload_n 0, 1) := by decide +kernel
theorem d_R_does_27 : decode b_R_does 27 = .ok (.aload_n 0, 1) := by decide +kernel
theorem d_R_does_28 : decode b_R_does 28 = .ok (.getfield 19, 3) := by decide +kernel
theorem d_R_does_31 : decode b_R_does 31 = .ok (.iload_n 1, 1) := by decide +kernel
theorem d_R_does_32 : decode b_R_does 32 = .ok (.iaload, 1) := by decide +kernel
theorem d_R_does_33 : decode b_R_does 33 = .ok (.iload_n 2, 1) := by decide +kernel
theorem d_R_does_34 : decode b_R_does 34 = .ok (.iconst 1, 1) := by decide +kernel
theorem d_R_does_35 : decode b_R_does 35 = .ok (.if_icmp .ne (7), 3) := by decide +kernel
theorem d_R_does_38 : decode b_R_does 38 = .ok (.iconst 1, 1) := by decide +kernel
theorem d_R_does_39 : decode b_R_does 39 = .ok (.goto (4), 3) := by decide +kernel
theorem d_R_does_42 : decode b_R_does 42 = .ok (.iconst 0, 1) := by decide +kernel
theorem d_R_does_43 : decode b_R_does 43 = .ok (.invokevirtual 182, 3) := by decide +kernel
theorem d_R_does_46 : decode b_R_does 46 = .ok (.goto (182), 3) := by decide +kernel
theorem d_R_does_49 : decode b_R_does 49 = .ok (.iload_n 3, 1) := by decide +kernel
theorem d_R_does_50 : decode b_R_does 50 = .ok (.bipush (9), 2) := by decide +kernel
theorem d_R_does_52 : decode b_R_does 52 = .ok (.if_icmp .ne (106), 3) := by decide +kernel
theorem d_R_does_55 : decode b_R_does 55 = .ok (.iconst 4, 1) := by decide +kernel
theorem d_R_does_56 : decode b_R_does 56 = .ok (.aload_n 0, 1) := by decide +kernel
theorem d_R_does_57 : decode b_R_does 57 = .ok (.getfield 157, 3) := by decide +kernel
theorem d_R_does_60 : decode b_R_does 60 = .ok (.iconst 1, 1) := by decide +kernel
theorem d_R_does_61 : decode b_R_does 61 = .ok (.isub, 1) := by decide +kernel
theorem d_R_does_62 : decode b_R_does 62 = .ok (.imul, 1) := by decide +kernel
theorem d_R_does_63 : decode b_R_does 63 = .ok (.istore 4, 2) := by decide +kernel
theorem d_R_does_65 : decode b_R_does 65 = .ok (.iload_n 2, 1) := by decide +kernel
theorem d_R_does_66 : decode b_R_does 66 = .ok (.iconst 1, 1) := by decide +kernel
theorem d_R_does_67 : decode b_R_does 67 = .ok (.if_icmp .ne (26), 3) := by decide +kernel
theorem d_R_does_70 : decode b_R_does 70 = .ok (.aload_n 0, 1) := by decide +kernel
theorem d_R_does_71 : decode b_R_does 71 = .ok (.getfield 22, 3) := by decide +kernel
theorem d_R_does_74 : decode b_R_does 74 = .ok (.iload_n 1, 1) := by decide +kernel
theorem d_R_does_75 : decode b_R_does 75 = .ok (.iaload, 1) := by decide +kernel
theorem d_R_does_76 : decode b_R_does 76 = .ok (.aload_n 0, 1) := by decide +kernel
theorem d_R_does_77 : decode b_R_does 77 = .ok (.getfield 25, 3) := by decide +kernel
theorem d_R_does_80 : decode b_R_does 80 = .ok (.iload_n 1, 1) := by decide +kernel
theorem d_R_does_81 : decode b_R_does 81 = .ok (.iaload, 1) := by decide +kernel
theorem d_R_does_82 : decode b_R_does 82 = .ok (.if_icmp .ne (7), 3) := by decide +kernel
theorem d_R_does_85 : decode b_R_does 85 = .ok (.iconst 1, 1) := by decide +kernel
theorem d_R_does_86 : decode b_R_does 86 = .ok (.goto (43), 3) := by decide +kernel
theorem d_R_does_89 : decode b_R_does 89 = .ok (.iconst 0, 1) := by decide +kernel
theorem d_R_does_90 : decode b_R_does 90 = .ok (.goto (39), 3) := by decide +kernel
theorem d_R_does_93 : decode b_R_does 93 = .ok (.aload_n 0, 1) := by decide +kernel
theorem d_R_does_94 : decode b_R_does 94 = .ok (.getfield 56, 3) := by decide +kernel
theorem d_R_does_97 : decode b_R_does 97 = .ok (.iload 4, 2) := by decide +kernel
theorem d_R_does_99 : decode b_R_does 99 = .ok (.aload_n 0, 1) := by decide +kernel
theorem d_R_does_100 : decode b_R_does 100 = .ok (.getfield 22, 3) := by decide +kernel
theorem d_R_does_103 : decode b_R_does 103 = .ok (.iload_n 1, 1) := by decide +kernel
theorem d_R_does_104 : decode b_R_does 104 = .ok (.iaload, 1) := by decide +kernel
theorem d_R_does_105 : decode b_R_does 105 = .ok (.iadd, 1) := by decide +kernel
theorem d_R_does_106 : decode b_R_does 106 = .ok (.iaload, 1) := by decide +kernel
theorem d_R_does_107 : decode b_R_does 107 = .ok (.aload_n 0, 1) := by decide +kernel
theorem d_R_does_108 : decode b_R_does 108 = .ok (.getfield 56, 3) := by decide +kernel
theorem d_R_does_111 : decode b_R_does 111 = .ok (.iload 4, 2) := by decide +kernel
theorem d_R_does_113 : decode b_R_does 113 = .ok (.aload_n 0, 1) := by decide +kernel
theorem d_R_does_114 : decode b_R_does 114 = .ok (.getfield 25, 3) := by decide +kernel
theorem d_R_does_117 : decode b_R_does 117 = .ok (.iload_n 1, 1) := by decide +kernel
theorem d_R_does_118 : decode b_R_does 118 = .ok (.iaload, 1) := by decide +kernel
theorem d_R_does_119 : decode b_R_does 119 = .ok (.iadd, 1) := by decide +kernel
theorem d_R_does_120 : decode b_R_does 120 = .ok (.iaload, 1) := by decide +kernel
theorem d_R_does_121 : decode b_R_does 121 = .ok (.if_icmp .ne (7), 3) := by decide +kernel
theorem d_R_does_124 : decode b_R_does 124 = .ok (.iconst 1, 1) := by decide +kernel
theorem d_R_does_125 : decode b_R_does 125 = .ok (.goto (4), 3) := by decide +kernel
theorem d_R_does_128 : decode b_R_does 128 = .ok (.iconst 0, 1) := by decide +kernel
theorem d_R_does_129 : decode b_R_does 129 = .ok (.istore 5, 2) := by decide +kernel
theorem d_R_does_131 : decode b_R_does 131 = .ok (.aload_n 0, 1) := by decide +kernel
theorem d_R_does_132 : decode b_R_does 132 = .ok (.getfield 59, 3) := by decide +kernel
theorem d_R_does_135 : decode b_R_does 135 = .ok (.iload 4, 2) := by decide +kernel
theorem d_R_does_137 : decode b_R_does 137 = .ok (.aload_n 0, 1) := by decide +kernel
theorem d_R_does_138 : decode b_R_does 138 = .ok (.getfield 19, 3) := by decide +kernel
theorem d_R_does_141 : decode b_R_does 141 = .ok (.iload_n 1, 1) := by decide +kernel
theorem d_R_does_142 : decode b_R_does 142 = .ok (.iaload, 1) := by decide +kernel
theorem d_R_does_143 : decode b_R_does 143 = .ok (.iadd, 1) := by decide +kernel
theorem d_R_does_144 : decode b_R_does 144 = .ok (.iload 5, 2) := by decide +kernel
theorem d_R_does_146 : decode b_R_does 146 = .ok (.ifCond .eq (7), 3) := by decide +kernel
theorem d_R_does_149 : decode b_R_does 149 = .ok (.iconst 1, 1) := by decide +kernel
theorem d_R_does_150 : decode b_R_does 150 = .ok (.goto (4), 3) := by decide +kernel
theorem d_R_does_153 : decode b_R_does 153 = .ok (.iconst 0, 1) := by decide +kernel
theorem d_R_does_154 : decode b_R_does 154 = .ok (.iastore, 1) := by decide +kernel
theorem d_R_does_155 : decode b_R_does 155 = .ok (.goto (73), 3) := by decide +kernel
theorem d_R_does_158 : decode b_R_does 158 = .ok (.iload_n 3, 1) := by decide +kernel
theorem d_R_does_159 : decode b_R_does 159 = .ok (.iconst 3, 1) := by decide +kernel
theorem d_R_does_160 : decode b_R_does 160 = .ok (.if_icmp .lt (9), 3) := by decide +kernel
theorem d_R_does_163 : decode b_R_does 163 = .ok (.iload_n 3, 1) := by decide +kernel
theorem d_R_does_164 : decode b_R_does 164 = .ok (.bipush (6), 2) := by decide +kernel
theorem d_R_does_166 : decode b_R_does 166 = .ok (.if_icmp .le (20), 3) := by decide +kernel
theorem d_R_does_169 : decode b_R_does 169 = .ok (.iload_n 3, 1) := by decide +kernel
theorem d_R_does_170 : decode b_R_does 170 = .ok (.bipush (10), 2) := by decide +kernel
theorem d_R_does_172 : decode b_R_does 172 = .ok (.if_icmp .eq (9), 3) := by decide +kernel
theorem d_R_does_175 : decode b_R_does 175 = .ok (.iload_n 3, 1) := by decide +kernel
theorem d_R_does_176 : decode b_R_does 176 = .ok (.bipush (11), 2) := by decide +kernel
theorem d_R_does_178 : decode b_R_does 178 = .ok (.if_icmp .ne (26), 3) := by decide +kernel
theorem d_R_does_181 : decode b_R_does 181 = .ok (.iload_n 2, 1) := by decide +kernel
theorem d_R_does_182 : decode b_R_does 182 = .ok (.iconst 2, 1) := by decide +kernel
theorem d_R_does_183 : decode b_R_does 183 = .ok (.if_icmp .ge (21), 3) := by decide +kernel
theorem d_R_does_186 : decode b_R_does 186 = .ok (.aload_n 0, 1) := by decide +kernel
theorem d_R_does_187 : decode b_R_does 187 = .ok (.iload_n 1, 1) := by decide +kernel
theorem d_R_does_188 : decode b_R_does 188 = .ok (.iload_n 2, 1) := by decide +kernel
theorem d_R_does_189 : decode b_R_does 189 = .ok (.iconst 1, 1) := by decide +kernel
theorem d_R_does_190 : decode b_R_does 190 = .ok (.if_icmp .ne (7), 3) := by decide +kernel
theorem d_R_does_193 : decode b_R_does 193 = .ok (.iconst 1, 1) := by decide +kernel
theorem d_R_does_194 : decode b_R_does 194 = .ok (.goto (4), 3) := by decide +kernel
theorem d_R_does_197 : decode b_R_does 197 = .ok (.iconst 0, 1) := by decide +kernel
theorem d_R_does_198 : decode b_R_does 198 = .ok (.invokevirtual 186, 3) := by decide +kernel
theorem d_R_does_201 : decode b_R_does 201 = .ok (.goto (27), 3) := by decide +kernel
theorem d_R_does_204 : decode b_R_does 204 = .ok (.iload_n 3, 1) := by decide +kernel
theorem d_R_does_205 : decode b_R_does 205 = .ok (.bipush (16), 2) := by decide +kernel
theorem d_R_does_207 : decode b_R_does 207 = .ok (.if_icmp .ne (11), 3) := by decide +kernel
theorem d_R_does_210 : decode b_R_does 210 = .ok (.aload_n 0, 1) := by decide +kernel
theorem d_R_does_211 : decode b_R_does 211 = .ok (.iload_n 1, 1) := by decide +kernel
theorem d_R_does_212 : decode b_R_does 212 = .ok (.invokevirtual 189, 3) := by decide +kernel
theorem d_R_does_215 : decode b_R_does 215 = .ok (.goto (13), 3) := by decide +kernel
theorem d_R_does_218 : decode b_R_does 218 = .ok (.iload_n 2, 1) := by decide +kernel
theorem d_R_does_219 : decode b_R_does 219 = .ok (.iconst 2, 1) := by decide +kernel
theorem d_R_does_220 : decode b_R_does 220 = .ok (.if_icmp .ge (8), 3) := by decide +kernel
theorem d_R_does_223 : decode b_R_does 223 = .ok (.aload_n 0, 1) := by decide +kernel
theorem d_R_does_224 : decode b_R_does 224 = .ok (.iload_n 1, 1) := by decide +kernel
theorem d_R_does_225 : decode b_R_does 225 = .ok (.invokevirtual 192, 3) := by decide +kernel
theorem d_R_does_228 : decode b_R_does 228 = .ok (.return_, 1) := by decide +kernel
theorem d_R_makes_0 : decode b_R_makes 0 = .ok (.iconst 4, 1) := by decide +kernel
