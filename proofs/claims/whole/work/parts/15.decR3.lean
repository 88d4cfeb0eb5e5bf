theorem d_R_makes_1 : decode b_R_makes 1 = .ok (.aload_n 0, 1) := by decide +kernel
theorem d_R_makes_2 : decode b_R_makes 2 = .ok (.getfield 157, 3) := by decide +kernel
theorem d_R_makes_5 : decode b_R_makes 5 = .ok (.iconst 1, 1) := by decide +kernel
theorem d_R_makes_6 : decode b_R_makes 6 = .ok (.isub, 1) := by decide +kernel
theorem d_R_makes_7 : decode b_R_makes 7 = .ok (.imul, 1) := by decide +kernel
theorem d_R_makes_8 : decode b_R_makes 8 = .ok (.istore_n 3, 1) := by decide +kernel
theorem d_R_makes_9 : decode b_R_makes 9 = .ok (.iload_n 2, 1) := by decide +kernel
theorem d_R_makes_10 : decode b_R_makes 10 = .ok (.ifCond .eq (37), 3) := by decide +kernel
theorem d_R_makes_13 : decode b_R_makes 13 = .ok (.iconst 5, 1) := by decide +kernel
theorem d_R_makes_14 : decode b_R_makes 14 = .ok (.iload_n 3, 1) := by decide +kernel
theorem d_R_makes_15 : decode b_R_makes 15 = .ok (.iload_n 1, 1) := by decide +kernel
theorem d_R_makes_16 : decode b_R_makes 16 = .ok (.iadd, 1) := by decide +kernel
theorem d_R_makes_17 : decode b_R_makes 17 = .ok (.imul, 1) := by decide +kernel
theorem d_R_makes_18 : decode b_R_makes 18 = .ok (.istore 4, 2) := by decide +kernel
theorem d_R_makes_20 : decode b_R_makes 20 = .ok (.iload 4, 2) := by decide +kernel
theorem d_R_makes_22 : decode b_R_makes 22 = .ok (.iconst 5, 1) := by decide +kernel
theorem d_R_makes_23 : decode b_R_makes 23 = .ok (.iload_n 3, 1) := by decide +kernel
theorem d_R_makes_24 : decode b_R_makes 24 = .ok (.iload_n 1, 1) := by decide +kernel
theorem d_R_makes_25 : decode b_R_makes 25 = .ok (.iadd, 1) := by decide +kernel
theorem d_R_makes_26 : decode b_R_makes 26 = .ok (.imul, 1) := by decide +kernel
theorem d_R_makes_27 : decode b_R_makes 27 = .ok (.iconst 5, 1) := by decide +kernel
theorem d_R_makes_28 : decode b_R_makes 28 = .ok (.iadd, 1) := by decide +kernel
theorem d_R_makes_29 : decode b_R_makes 29 = .ok (.if_icmp .ge (17), 3) := by decide +kernel
theorem d_R_makes_32 : decode b_R_makes 32 = .ok (.aload_n 0, 1) := by decide +kernel
theorem d_R_makes_33 : decode b_R_makes 33 = .ok (.getfield 62, 3) := by decide +kernel
theorem d_R_makes_36 : decode b_R_makes 36 = .ok (.iload 4, 2) := by decide +kernel
theorem d_R_makes_38 : decode b_R_makes 38 = .ok (.iconst 0, 1) := by decide +kernel
theorem d_R_makes_39 : decode b_R_makes 39 = .ok (.iastore, 1) := by decide +kernel
theorem d_R_makes_40 : decode b_R_makes 40 = .ok (.iinc 4 (1), 3) := by decide +kernel
theorem d_R_makes_43 : decode b_R_makes 43 = .ok (.goto (-23), 3) := by decide +kernel
theorem d_R_makes_46 : decode b_R_makes 46 = .ok (.return_, 1) := by decide +kernel
theorem d_R_makes_47 : decode b_R_makes 47 = .ok (.aload_n 0, 1) := by decide +kernel
theorem d_R_makes_48 : decode b_R_makes 48 = .ok (.dup, 1) := by decide +kernel
theorem d_R_makes_49 : decode b_R_makes 49 = .ok (.getfield 170, 3) := by decide +kernel
theorem d_R_makes_52 : decode b_R_makes 52 = .ok (.iconst 1, 1) := by decide +kernel
theorem d_R_makes_53 : decode b_R_makes 53 = .ok (.iadd, 1) := by decide +kernel
theorem d_R_makes_54 : decode b_R_makes 54 = .ok (.putfield 170, 3) := by decide +kernel
theorem d_R_makes_57 : decode b_R_makes 57 = .ok (.iconst 5, 1) := by decide +kernel
theorem d_R_makes_58 : decode b_R_makes 58 = .ok (.aload_n 0, 1) := by decide +kernel
theorem d_R_makes_59 : decode b_R_makes 59 = .ok (.getfield 170, 3) := by decide +kernel
theorem d_R_makes_62 : decode b_R_makes 62 = .ok (.imul, 1) := by decide +kernel
theorem d_R_makes_63 : decode b_R_makes 63 = .ok (.istore 4, 2) := by decide +kernel
theorem d_R_makes_65 : decode b_R_makes 65 = .ok (.iload 4, 2) := by decide +kernel
theorem d_R_makes_67 : decode b_R_makes 67 = .ok (.iconst 5, 1) := by decide +kernel
theorem d_R_makes_68 : decode b_R_makes 68 = .ok (.aload_n 0, 1) := by decide +kernel
theorem d_R_makes_69 : decode b_R_makes 69 = .ok (.getfield 170, 3) := by decide +kernel
theorem d_R_makes_72 : decode b_R_makes 72 = .ok (.imul, 1) := by decide +kernel
theorem d_R_makes_73 : decode b_R_makes 73 = .ok (.iconst 5, 1) := by decide +kernel
theorem d_R_makes_74 : decode b_R_makes 74 = .ok (.iadd, 1) := by decide +kernel
theorem d_R_makes_75 : decode b_R_makes 75 = .ok (.if_icmp .ge (17), 3) := by decide +kernel
theorem d_R_makes_78 : decode b_R_makes 78 = .ok (.aload_n 0, 1) := by decide +kernel
theorem d_R_makes_79 : decode b_R_makes 79 = .ok (.getfield 65, 3) := by decide +kernel
theorem d_R_makes_82 : decode b_R_makes 82 = .ok (.iload 4, 2) := by decide +kernel
theorem d_R_makes_84 : decode b_R_makes 84 = .ok (.iconst 0, 1) := by decide +kernel
theorem d_R_makes_85 : decode b_R_makes 85 = .ok (.iastore, 1) := by decide +kernel
theorem d_R_makes_86 : decode b_R_makes 86 = .ok (.iinc 4 (1), 3) := by decide +kernel
theorem d_R_makes_89 : decode b_R_makes 89 = .ok (.goto (-24), 3) := by decide +kernel
theorem d_R_makes_92 : decode b_R_makes 92 = .ok (.aload_n 0, 1) := by decide +kernel
theorem d_R_makes_93 : decode b_R_makes 93 = .ok (.getfield 56, 3) := by decide +kernel
theorem d_R_makes_96 : decode b_R_makes 96 = .ok (.iload_n 3, 1) := by decide +kernel
theorem d_R_makes_97 : decode b_R_makes 97 = .ok (.iload_n 1, 1) := by decide +kernel
theorem d_R_makes_98 : decode b_R_makes 98 = .ok (.iadd, 1) := by decide +kernel
theorem d_R_makes_99 : decode b_R_makes 99 = .ok (.aload_n 0, 1) := by decide +kernel
theorem d_R_makes_100 : decode b_R_makes 100 = .ok (.getfield 170, 3) := by decide +kernel
theorem d_R_makes_103 : decode b_R_makes 103 = .ok (.iastore, 1) := by decide +kernel
theorem d_R_makes_104 : decode b_R_makes 104 = .ok (.return_, 1) := by decide +kernel
theorem d_R_fields_0 : decode b_R_fields 0 = .ok (.aload_n 0, 1) := by decide +kernel
theorem d_R_fields_1 : decode b_R_fields 1 = .ok (.getfield 16, 3) := by decide +kernel
theorem d_R_fields_4 : decode b_R_fields 4 = .ok (.iload_n 1, 1) := by decide +kernel
theorem d_R_fields_5 : decode b_R_fields 5 = .ok (.iaload, 1) := by decide +kernel
theorem d_R_fields_6 : decode b_R_fields 6 = .ok (.istore_n 3, 1) := by decide +kernel
theorem d_R_fields_7 : decode b_R_fields 7 = .ok (.iconst 4, 1) := by decide +kernel
theorem d_R_fields_8 : decode b_R_fields 8 = .ok (.aload_n 0, 1) := by decide +kernel
theorem d_R_fields_9 : decode b_R_fields 9 = .ok (.getfield 157, 3) := by decide +kernel
theorem d_R_fields_12 : decode b_R_fields 12 = .ok (.iconst 1, 1) := by decide +kernel
theorem d_R_fields_13 : decode b_R_fields 13 = .ok (.isub, 1) := by decide +kernel
theorem d_R_fields_14 : decode b_R_fields 14 = .ok (.imul, 1) := by decide +kernel
theorem d_R_fields_15 : decode b_R_fields 15 = .ok (.istore 4, 2) := by decide +kernel
theorem d_R_fields_17 : decode b_R_fields 17 = .ok (.iload_n 3, 1) := by decide +kernel
theorem d_R_fields_18 : decode b_R_fields 18 = .ok (.iconst 3, 1) := by decide +kernel
theorem d_R_fields_19 : decode b_R_fields 19 = .ok (.if_icmp .eq (8), 3) := by decide +kernel
theorem d_R_fields_22 : decode b_R_fields 22 = .ok (.iload_n 3, 1) := by decide +kernel
theorem d_R_fields_23 : decode b_R_fields 23 = .ok (.iconst 5, 1) := by decide +kernel
theorem d_R_fields_24 : decode b_R_fields 24 = .ok (.if_icmp .ne (12), 3) := by decide +kernel
theorem d_R_fields_27 : decode b_R_fields 27 = .ok (.aload_n 0, 1) := by decide +kernel
theorem d_R_fields_28 : decode b_R_fields 28 = .ok (.getfield 22, 3) := by decide +kernel
theorem d_R_fields_31 : decode b_R_fields 31 = .ok (.iload_n 1, 1) := by decide +kernel
theorem d_R_fields_32 : decode b_R_fields 32 = .ok (.iaload, 1) := by decide +kernel
theorem d_R_fields_33 : decode b_R_fields 33 = .ok (.goto (9), 3) := by decide +kernel
theorem d_R_fields_36 : decode b_R_fields 36 = .ok (.aload_n 0, 1) := by decide +kernel
theorem d_R_fields_37 : decode b_R_fields 37 = .ok (.getfield 19, 3) := by decide +kernel
theorem d_R_fields_40 : decode b_R_fields 40 = .ok (.iload_n 1, 1) := by decide +kernel
theorem d_R_fields_41 : decode b_R_fields 41 = .ok (.iaload, 1) := by decide +kernel
theorem d_R_fields_42 : decode b_R_fields 42 = .ok (.istore 5, 2) := by decide +kernel
theorem d_R_fields_44 : decode b_R_fields 44 = .ok (.aload_n 0, 1) := by decide +kernel
theorem d_R_fields_45 : decode b_R_fields 45 = .ok (.getfield 56, 3) := by decide +kernel
theorem d_R_fields_48 : decode b_R_fields 48 = .ok (.iload 4, 2) := by decide +kernel
theorem d_R_fields_50 : decode b_R_fields 50 = .ok (.iload 5, 2) := by decide +kernel
theorem d_R_fields_52 : decode b_R_fields 52 = .ok (.iadd, 1) := by decide +kernel
theorem d_R_fields_53 : decode b_R_fields 53 = .ok (.iaload, 1) := by decide +kernel
theorem d_R_fields_54 : decode b_R_fields 54 = .ok (.istore 6, 2) := by decide +kernel
theorem d_R_fields_56 : decode b_R_fields 56 = .ok (.iload_n 2, 1) := by decide +kernel
theorem d_R_fields_57 : decode b_R_fields 57 = .ok (.ifCond .ne (14), 3) := by decide +kernel
theorem d_R_fields_60 : decode b_R_fields 60 = .ok (.iload 6, 2) := by decide +kernel
theorem d_R_fields_62 : decode b_R_fields 62 = .ok (.ifCond .ne (9), 3) := by decide +kernel
theorem d_R_fields_65 : decode b_R_fields 65 = .ok (.aload_n 0, 1) := by decide +kernel
theorem d_R_fields_66 : decode b_R_fields 66 = .ok (.iconst 1, 1) := by decide +kernel
theorem d_R_fields_67 : decode b_R_fields 67 = .ok (.putfield 160, 3) := by decide +kernel
theorem d_R_fields_70 : decode b_R_fields 70 = .ok (.return_, 1) := by decide +kernel
theorem d_R_fields_71 : decode b_R_fields 71 = .ok (.iload_n 2, 1) := by decide +kernel
theorem d_R_fields_72 : decode b_R_fields 72 = .ok (.ifCond .eq (13), 3) := by decide +kernel
theorem d_R_fields_75 : decode b_R_fields 75 = .ok (.iconst 5, 1) := by decide +kernel
theorem d_R_fields_76 : decode b_R_fields 76 = .ok (.iload 4, 2) := by decide +kernel
theorem d_R_fields_78 : decode b_R_fields 78 = .ok (.iload 5, 2) := by decide +kernel
theorem d_R_fields_80 : decode b_R_fields 80 = .ok (.iadd, 1) := by decide +kernel
theorem d_R_fields_81 : decode b_R_fields 81 = .ok (.imul, 1) := by decide +kernel
theorem d_R_fields_82 : decode b_R_fields 82 = .ok (.goto (7), 3) := by decide +kernel
theorem d_R_fields_85 : decode b_R_fields 85 = .ok (.iconst 5, 1) := by decide +kernel
theorem d_R_fields_86 : decode b_R_fields 86 = .ok (.iload 6, 2) := by decide +kernel
theorem d_R_fields_88 : decode b_R_fields 88 = .ok (.imul, 1) := by decide +kernel
theorem d_R_fields_89 : decode b_R_fields 89 = .ok (.istore 7, 2) := by decide +kernel
theorem d_R_fields_91 : decode b_R_fields 91 = .ok (.iload 7, 2) := by decide +kernel
theorem d_R_fields_93 : decode b_R_fields 93 = .ok (.aload_n 0, 1) := by decide +kernel
theorem d_R_fields_94 : decode b_R_fields 94 = .ok (.getfield 25, 3) := by decide +kernel
theorem d_R_fields_97 : decode b_R_fields 97 = .ok (.iload_n 1, 1) := by decide +kernel
theorem d_R_fields_98 : decode b_R_fields 98 = .ok (.iaload, 1) := by decide +kernel
theorem d_R_fields_99 : decode b_R_fields 99 = .ok (.iadd, 1) := by decide +kernel
theorem d_R_fields_100 : decode b_R_fields 100 = .ok (.istore 8, 2) := by decide +kernel
theorem d_R_fields_102 : decode b_R_fields 102 = .ok (.iload_n 3, 1) := by decide +kernel
theorem d_R_fields_103 : decode b_R_fields 103 = .ok (.iconst 3, 1) := by decide +kernel
theorem d_R_fields_104 : decode b_R_fields 104 = .ok (.if_icmp .ne (41), 3) := by decide +kernel
theorem d_R_fields_107 : decode b_R_fields 107 = .ok (.aload_n 0, 1) := by decide +kernel
theorem d_R_fields_108 : decode b_R_fields 108 = .ok (.getfield 56, 3) := by decide +kernel
theorem d_R_fields_111 : decode b_R_fields 111 = .ok (.iload 4, 2) := by decide +kernel
theorem d_R_fields_113 : decode b_R_fields 113 = .ok (.aload_n 0, 1) := by decide +kernel
theorem d_R_fields_114 : decode b_R_fields 114 = .ok (.getfield 19, 3) := by decide +kernel
theorem d_R_fields_117 : decode b_R_fields 117 = .ok (.iload_n 1, 1) := by decide +kernel
theorem d_R_fields_118 : decode b_R_fields 118 = .ok (.iaload, 1) := by decide +kernel
theorem d_R_fields_119 : decode b_R_fields 119 = .ok (.iadd, 1) := by decide +kernel
theorem d_R_fields_120 : decode b_R_fields 120 = .ok (.iload_n 2, 1) := by decide +kernel
theorem d_R_fields_121 : decode b_R_fields 121 = .ok (.ifCond .eq (13), 3) := by decide +kernel
theorem d_R_fields_124 : decode b_R_fields 124 = .ok (.aload_n 0, 1) := by decide +kernel
theorem d_R_fields_125 : decode b_R_fields 125 = .ok (.getfield 62, 3) := by decide +kernel
theorem d_R_fields_128 : decode b_R_fields 128 = .ok (.iload 8, 2) := by decide +kernel
theorem d_R_fields_130 : decode b_R_fields 130 = .ok (.iaload, 1) := by decide +kernel
theorem d_R_fields_131 : decode b_R_fields 131 = .ok (.goto (10), 3) := by decide +kernel
theorem d_R_fields_134 : decode b_R_fields 134 = .ok (.aload_n 0, 1) := by decide +kernel
theorem d_R_fields_135 : decode b_R_fields 135 = .ok (.getfield 65, 3) := by decide +kernel
theorem d_R_fields_138 : decode b_R_fields 138 = .ok (.iload 8, 2) := by decide +kernel
theorem d_R_fields_140 : decode b_R_fields 140 = .ok (.iaload, 1) := by decide +kernel
theorem d_R_fields_141 : decode b_R_fields 141 = .ok (.iastore, 1) := by decide +kernel
theorem d_R_fields_142 : decode b_R_fields 142 = .ok (.goto (199), 3) := by decide +kernel
theorem d_R_fields_145 : decode b_R_fields 145 = .ok (.iload_n 3, 1) := by decide +kernel
theorem d_R_fields_146 : decode b_R_fields 146 = .ok (.iconst 5, 1) := by decide +kernel
theorem d_R_fields_147 : decode b_R_fields 147 = .ok (.if_icmp .ne (45), 3) := by decide +kernel
theorem d_R_fields_150 : decode b_R_fields 150 = .ok (.aload_n 0, 1) := by decide +kernel
theorem d_R_fields_151 : decode b_R_fields 151 = .ok (.getfield 59, 3) := by decide +kernel
theorem d_R_fields_154 : decode b_R_fields 154 = .ok (.iload 4, 2) := by decide +kernel
theorem d_R_fields_156 : decode b_R_fields 156 = .ok (.aload_n 0, 1) := by decide +kernel
theorem d_R_fields_157 : decode b_R_fields 157 = .ok (.getfield 19, 3) := by decide +kernel
theorem d_R_fields_160 : decode b_R_fields 160 = .ok (.iload_n 1, 1) := by decide +kernel
theorem d_R_fields_161 : decode b_R_fields 161 = .ok (.iaload, 1) := by decide +kernel
theorem d_R_fields_162 : decode b_R_fields 162 = .ok (.iadd, 1) := by decide +kernel
theorem d_R_fields_163 : decode b_R_fields 163 = .ok (.iload_n 2, 1) := by decide +kernel
theorem d_R_fields_164 : decode b_R_fields 164 = .ok (.ifCond .eq (15), 3) := by decide +kernel
theorem d_R_fields_167 : decode b_R_fields 167 = .ok (.aload_n 0, 1) := by decide +kernel
theorem d_R_fields_168 : decode b_R_fields 168 = .ok (.getfield 62, 3) := by decide +kernel
theorem d_R_fields_171 : decode b_R_fields 171 = .ok (.iload 8, 2) := by decide +kernel
theorem d_R_fields_173 : decode b_R_fields 173 = .ok (.iconst 2, 1) := by decide +kernel
theorem d_R_fields_174 : decode b_R_fields 174 = .ok (.iadd, 1) := by decide +kernel
theorem d_R_fields_175 : decode b_R_fields 175 = .ok (.iaload, 1) := by decide +kernel
theorem d_R_fields_176 : decode b_R_fields 176 = .ok (.goto (12), 3) := by decide +kernel
theorem d_R_fields_179 : decode b_R_fields 179 = .ok (.aload_n 0, 1) := by decide +kernel
theorem d_R_fields_180 : decode b_R_fields 180 = .ok (.getfield 65, 3) := by decide +kernel
theorem d_R_fields_183 : decode b_R_fields 183 = .ok (.iload 8, 2) := by decide +kernel
theorem d_R_fields_185 : decode b_R_fields 185 = .ok (.iconst 2, 1) := by decide +kernel
theorem d_R_fields_186 : decode b_R_fields 186 = .ok (.iadd, 1) := by decide +kernel
theorem d_R_fields_187 : decode b_R_fields 187 = .ok (.iaload, 1) := by decide +kernel
theorem d_R_fields_188 : decode b_R_fields 188 = .ok (.iastore, 1) := by decide +kernel
theorem d_R_fields_189 : decode b_R_fields 189 = .ok (.goto (152), 3) := by decide +kernel
theorem d_R_fields_192 : decode b_R_fields 192 = .ok (.iload_n 3, 1) := by decide +kernel
theorem d_R_fields_193 : decode b_R_fields 193 = .ok (.iconst 4, 1) := by decide +kernel
theorem d_R_fields_194 : decode b_R_fields 194 = .ok (.if_icmp .ne (27), 3) := by decide +kernel
theorem d_R_fields_197 : decode b_R_fields 197 = .ok (.aload_n 0, 1) := by decide +kernel
theorem d_R_fields_198 : decode b_R_fields 198 = .ok (.iload_n 2, 1) := by decide +kernel
theorem d_R_fields_199 : decode b_R_fields 199 = .ok (.iload 8, 2) := by decide +kernel
theorem d_R_fields_201 : decode b_R_fields 201 = .ok (.aload_n 0, 1) := by decide +kernel
theorem d_R_fields_202 : decode b_R_fields 202 = .ok (.getfield 56, 3) := by decide +kernel
theorem d_R_fields_205 : decode b_R_fields 205 = .ok (.iload 4, 2) := by decide +kernel
theorem d_R_fields_207 : decode b_R_fields 207 = .ok (.aload_n 0, 1) := by decide +kernel
theorem d_R_fields_208 : decode b_R_fields 208 = .ok (.getfield 22, 3) := by decide +kernel
theorem d_R_fields_211 : decode b_R_fields 211 = .ok (.iload_n 1, 1) := by decide +kernel
theorem d_R_fields_212 : decode b_R_fields 212 = .ok (.iaload, 1) := by decide +kernel
theorem d_R_fields_213 : decode b_R_fields 213 = .ok (.iadd, 1) := by decide +kernel
theorem d_R_fields_214 : decode b_R_fields 214 = .ok (.iaload, 1) := by decide +kernel
theorem d_R_fields_215 : decode b_R_fields 215 = .ok (.invokevirtual 163, 3) := by decide +kernel
theorem d_R_fields_218 : decode b_R_fields 218 = .ok (.goto (123), 3) := by decide +kernel
theorem d_R_fields_221 : decode b_R_fields 221 = .ok (.iload_n 3, 1) := by decide +kernel
theorem d_R_fields_222 : decode b_R_fields 222 = .ok (.bipush (6), 2) := by decide +kernel
theorem d_R_fields_224 : decode b_R_fields 224 = .ok (.if_icmp .ne (29), 3) := by decide +kernel
theorem d_R_fields_227 : decode b_R_fields 227 = .ok (.aload_n 0, 1) := by decide +kernel
theorem d_R_fields_228 : decode b_R_fields 228 = .ok (.iload_n 2, 1) := by decide +kernel
theorem d_R_fields_229 : decode b_R_fields 229 = .ok (.iload 8, 2) := by decide +kernel
theorem d_R_fields_231 : decode b_R_fields 231 = .ok (.iconst 2, 1) := by decide +kernel
theorem d_R_fields_232 : decode b_R_fields 232 = .ok (.iadd, 1) := by decide +kernel
theorem d_R_fields_233 : decode b_R_fields 233 = .ok (.aload_n 0, 1) := by decide +kernel
theorem d_R_fields_234 : decode b_R_fields 234 = .ok (.getfield 59, 3) := by decide +kernel
theorem d_R_fields_237 : decode b_R_fields 237 = .ok (.iload 4, 2) := by decide +kernel
theorem d_R_fields_239 : decode b_R_fields 239 = .ok (.aload_n 0, 1) := by decide +kernel
theorem d_R_fields_240 : decode b_R_fields 240 = .ok (.getfield 22, 3) := by decide +kernel
theorem d_R_fields_243 : decode b_R_fields 243 = .ok (.iload_n 1, 1) := by decide +kernel
theorem d_R_fields_244 : decode b_R_fields 244 = .ok (.iaload, 1) := by decide +kernel
theorem d_R_fields_245 : decode b_R_fields 245 = .ok (.iadd, 1) := by decide +kernel
theorem d_R_fields_246 : decode b_R_fields 246 = .ok (.iaload, 1) := by decide +kernel
theorem d_R_fields_247 : decode b_R_fields 247 = .ok (.invokevirtual 163, 3) := by decide +kernel
theorem d_R_fields_250 : decode b_R_fields 250 = .ok (.goto (91), 3) := by decide +kernel
theorem d_R_fields_253 : decode b_R_fields 253 = .ok (.iload_n 2, 1) := by decide +kernel
theorem d_R_fields_254 : decode b_R_fields 254 = .ok (.ifCond .eq (15), 3) := by decide +kernel
theorem d_R_fields_257 : decode b_R_fields 257 = .ok (.aload_n 0, 1) := by decide +kernel
theorem d_R_fields_258 : decode b_R_fields 258 = .ok (.getfield 62, 3) := by decide +kernel
theorem d_R_fields_261 : decode b_R_fields 261 = .ok (.iload 7, 2) := by decide +kernel
theorem d_R_fields_263 : decode b_R_fields 263 = .ok (.iconst 4, 1) := by decide +kernel
theorem d_R_fields_264 : decode b_R_fields 264 = .ok (.iadd, 1) := by decide +kernel
theorem d_R_fields_265 : decode b_R_fields 265 = .ok (.iaload, 1) := by decide +kernel
theorem d_R_fields_266 : decode b_R_fields 266 = .ok (.goto (12), 3) := by decide +kernel
theorem d_R_fields_269 : decode b_R_fields 269 = .ok (.aload_n 0, 1) := by decide +kernel
theorem d_R_fields_270 : decode b_R_fields 270 = .ok (.getfield 65, 3) := by decide +kernel
theorem d_R_fields_273 : decode b_R_fields 273 = .ok (.iload 7, 2) := by decide +kernel
theorem d_R_fields_275 : decode b_R_fields 275 = .ok (.iconst 4, 1) := by decide +kernel
theorem d_R_fields_276 : decode b_R_fields 276 = .ok (.iadd, 1) := by decide +kernel
theorem d_R_fields_277 : decode b_R_fields 277 = .ok (.iaload, 1) := by decide +kernel
theorem d_R_fields_278 : decode b_R_fields 278 = .ok (.istore 9, 2) := by decide +kernel
theorem d_R_fields_280 : decode b_R_fields 280 = .ok (.iload_n 3, 1) := by decide +kernel
theorem d_R_fields_281 : decode b_R_fields 281 = .ok (.bipush (11), 2) := by decide +kernel
theorem d_R_fields_283 : decode b_R_fields 283 = .ok (.if_icmp .ne (14), 3) := by decide +kernel
theorem d_R_fields_286 : decode b_R_fields 286 = .ok (.iload 9, 2) := by decide +kernel
theorem d_R_fields_288 : decode b_R_fields 288 = .ok (.ifCond .ne (9), 3) := by decide +kernel
theorem d_R_fields_291 : decode b_R_fields 291 = .ok (.aload_n 0, 1) := by decide +kernel
theorem d_R_fields_292 : decode b_R_fields 292 = .ok (.iconst 2, 1) := by decide +kernel
theorem d_R_fields_293 : decode b_R_fields 293 = .ok (.putfield 160, 3) := by decide +kernel
theorem d_R_fields_296 : decode b_R_fields 296 = .ok (.return_, 1) := by decide +kernel
theorem d_R_fields_297 : decode b_R_fields 297 = .ok (.aload_n 0, 1) := by decide +kernel
theorem d_R_fields_298 : decode b_R_fields 298 = .ok (.iload_n 2, 1) := by decide +kernel
theorem d_R_fields_299 : decode b_R_fields 299 = .ok (.iload 7, 2) := by decide +kernel
theorem d_R_fields_301 : decode b_R_fields 301 = .ok (.iconst 4, 1) := by decide +kernel
theorem d_R_fields_302 : decode b_R_fields 302 = .ok (.iadd, 1) := by decide +kernel
theorem d_R_fields_303 : decode b_R_fields 303 = .ok (.iload_n 3, 1) := by decide +kernel
theorem d_R_fields_304 : decode b_R_fields 304 = .ok (.bipush (10), 2) := by decide +kernel
theorem d_R_fields_306 : decode b_R_fields 306 = .ok (.if_icmp .ne (10), 3) := by decide +kernel
theorem d_R_fields_309 : decode b_R_fields 309 = .ok (.iload 9, 2) := by decide +kernel
theorem d_R_fields_311 : decode b_R_fields 311 = .ok (.iconst 1, 1) := by decide +kernel
theorem d_R_fields_312 : decode b_R_fields 312 = .ok (.iadd, 1) := by decide +kernel
theorem d_R_fields_313 : decode b_R_fields 313 = .ok (.goto (7), 3) := by decide +kernel
theorem d_R_fields_316 : decode b_R_fields 316 = .ok (.iload 9, 2) := by decide +kernel
theorem d_R_fields_318 : decode b_R_fields 318 = .ok (.iconst 1, 1) := by decide +kernel
theorem d_R_fields_319 : decode b_R_fields 319 = .ok (.isub, 1) := by decide +kernel
theorem d_R_fields_320 : decode b_R_fields 320 = .ok (.invokevirtual 163, 3) := by decide +kernel
theorem d_R_fields_323 : decode b_R_fields 323 = .ok (.aload_n 0, 1) := by decide +kernel
theorem d_R_fields_324 : decode b_R_fields 324 = .ok (.dup, 1) := by decide +kernel
theorem d_R_fields_325 : decode b_R_fields 325 = .ok (.getfield 167, 3) := by decide +kernel
theorem d_R_fields_328 : decode b_R_fields 328 = .ok (.iload_n 2, 1) := by decide +kernel
theorem d_R_fields_329 : decode b_R_fields 329 = .ok (.ifCond .eq (7), 3) := by decide +kernel
theorem d_R_fields_332 : decode b_R_fields 332 = .ok (.iconst 0, 1) := by decide +kernel
theorem d_R_fields_333 : decode b_R_fields 333 = .ok (.goto (4), 3) := by decide +kernel
theorem d_R_fields_336 : decode b_R_fields 336 = .ok (.iconst 1, 1) := by decide +kernel
theorem d_R_fields_337 : decode b_R_fields 337 = .ok (.iadd, 1) := by decide +kernel
theorem d_R_fields_338 : decode b_R_fields 338 = .ok (.putfield 167, 3) := by decide +kernel
theorem d_R_fields_341 : decode b_R_fields 341 = .ok (.return_, 1) := by decide +kernel
theorem d_R_set_0 : decode b_R_set 0 = .ok (.iload_n 1, 1) := by decide +kernel
theorem d_R_set_1 : decode b_R_set 1 = .ok (.ifCond .eq (13), 3) := by decide +kernel
theorem d_R_set_4 : decode b_R_set 4 = .ok (.aload_n 0, 1) := by decide +kernel
theorem d_R_set_5 : decode b_R_set 5 = .ok (.getfield 62, 3) := by decide +kernel
theorem d_R_set_8 : decode b_R_set 8 = .ok (.iload_n 2, 1) := by decide +kernel
theorem d_R_set_9 : decode b_R_set 9 = .ok (.iload_n 3, 1) := by decide +kernel
theorem d_R_set_10 : decode b_R_set 10 = .ok (.iastore, 1) := by decide +kernel
theorem d_R_set_11 : decode b_R_set 11 = .ok (.goto (10), 3) := by decide +kernel
theorem d_R_set_14 : decode b_R_set 14 = .ok (.aload_n 0, 1) := by decide +kernel
theorem d_R_set_15 : decode b_R_set 15 = .ok (.getfield 65, 3) := by decide +kernel
theorem d_R_set_18 : decode b_R_set 18 = .ok (.iload_n 2, 1) := by decide +kernel
theorem d_R_set_19 : decode b_R_set 19 = .ok (.iload_n 3, 1) := by decide +kernel
theorem d_R_set_20 : decode b_R_set 20 = .ok (.iastore, 1) := by decide +kernel
theorem d_R_set_21 : decode b_R_set 21 = .ok (.return_, 1) := by decide +kernel
theorem d_R_call_0 : decode b_R_call 0 = .ok (.aload_n 0, 1) := by decide +kernel
theorem d_R_call_1 : decode b_R_call 1 = .ok (.getfield 28, 3) := by decide +kernel
theorem d_R_call_4 : decode b_R_call 4 = .ok (.iload_n 1, 1) := by decide +kernel
theorem d_R_call_5 : decode b_R_call 5 = .ok (.iaload, 1) := by decide +kernel
theorem d_R_call_6 : decode b_R_call 6 = .ok (.istore_n 2, 1) := by decide +kernel
theorem d_R_call_7 : decode b_R_call 7 = .ok (.iconst 4, 1) := by decide +kernel
theorem d_R_call_8 : decode b_R_call 8 = .ok (.aload_n 0, 1) := by decide +kernel
theorem d_R_call_9 : decode b_R_call 9 = .ok (.getfield 157, 3) := by decide +kernel
theorem d_R_call_12 : decode b_R_call 12 = .ok (.iconst 1, 1) := by decide +kernel
theorem d_R_call_13 : decode b_R_call 13 = .ok (.isub, 1) := by decide +kernel
theorem d_R_call_14 : decode b_R_call 14 = .ok (.imul, 1) := by decide +kernel
theorem d_R_call_15 : decode b_R_call 15 = .ok (.istore_n 3, 1) := by decide +kernel
theorem d_R_call_16 : decode b_R_call 16 = .ok (.aload_n 0, 1) := by decide +kernel
theorem d_R_call_17 : decode b_R_call 17 = .ok (.getfield 13, 3) := by decide +kernel
theorem d_R_call_20 : decode b_R_call 20 = .ok (.iload_n 2, 1) := by decide +kernel
theorem d_R_call_21 : decode b_R_call 21 = .ok (.iaload, 1) := by decide +kernel
theorem d_R_call_22 : decode b_R_call 22 = .ok (.ifCond .eq (12), 3) := by decide +kernel
theorem d_R_call_25 : decode b_R_call 25 = .ok (.aload_n 0, 1) := by decide +kernel
theorem d_R_call_26 : decode b_R_call 26 = .ok (.getfield 157, 3) := by decide +kernel
theorem d_R_call_29 : decode b_R_call 29 = .ok (.bipush (8), 2) := by decide +kernel
theorem d_R_call_31 : decode b_R_call 31 = .ok (.if_icmp .ne (9), 3) := by decide +kernel
theorem d_R_call_34 : decode b_R_call 34 = .ok (.aload_n 0, 1) := by decide +kernel
theorem d_R_call_35 : decode b_R_call 35 = .ok (.iconst 3, 1) := by decide +kernel
theorem d_R_call_36 : decode b_R_call 36 = .ok (.putfield 160, 3) := by decide +kernel
theorem d_R_call_39 : decode b_R_call 39 = .ok (.return_, 1) := by decide +kernel
theorem d_R_call_40 : decode b_R_call 40 = .ok (.aload_n 0, 1) := by decide +kernel
theorem d_R_call_41 : decode b_R_call 41 = .ok (.iload_n 2, 1) := by decide +kernel
theorem d_R_call_42 : decode b_R_call 42 = .ok (.aload_n 0, 1) := by decide +kernel
theorem d_R_call_43 : decode b_R_call 43 = .ok (.getfield 19, 3) := by decide +kernel
theorem d_R_call_46 : decode b_R_call 46 = .ok (.iload_n 1, 1) := by decide +kernel
theorem d_R_call_47 : decode b_R_call 47 = .ok (.iaload, 1) := by decide +kernel
theorem d_R_call_48 : decode b_R_call 48 = .ok (.aload_n 0, 1) := by decide +kernel
theorem d_R_call_49 : decode b_R_call 49 = .ok (.getfield 56, 3) := by decide +kernel
theorem d_R_call_52 : decode b_R_call 52 = .ok (.iload_n 3, 1) := by decide +kernel
theorem d_R_call_53 : decode b_R_call 53 = .ok (.aload_n 0, 1) := by decide +kernel
theorem d_R_call_54 : decode b_R_call 54 = .ok (.getfield 22, 3) := by decide +kernel
theorem d_R_call_57 : decode b_R_call 57 = .ok (.iload_n 1, 1) := by decide +kernel
theorem d_R_call_58 : decode b_R_call 58 = .ok (.iaload, 1) := by decide +kernel
theorem d_R_call_59 : decode b_R_call 59 = .ok (.iadd, 1) := by decide +kernel
theorem d_R_call_60 : decode b_R_call 60 = .ok (.iaload, 1) := by decide +kernel
theorem d_R_call_61 : decode b_R_call 61 = .ok (.aload_n 0, 1) := by decide +kernel
theorem d_R_call_62 : decode b_R_call 62 = .ok (.getfield 56, 3) := by decide +kernel
theorem d_R_call_65 : decode b_R_call 65 = .ok (.iload_n 3, 1) := by decide +kernel
theorem d_R_call_66 : decode b_R_call 66 = .ok (.aload_n 0, 1) := by decide +kernel
theorem d_R_call_67 : decode b_R_call 67 = .ok (.getfield 25, 3) := by decide +kernel
theorem d_R_call_70 : decode b_R_call 70 = .ok (.iload_n 1, 1) := by decide +kernel
theorem d_R_call_71 : decode b_R_call 71 = .ok (.iaload, 1) := by decide +kernel
theorem d_R_call_72 : decode b_R_call 72 = .ok (.iadd, 1) := by decide +kernel
theorem d_R_call_73 : decode b_R_call 73 = .ok (.iaload, 1) := by decide +kernel
theorem d_R_call_74 : decode b_R_call 74 = .ok (.invokevirtual 173, 3) := by decide +kernel
theorem d_R_call_77 : decode b_R_call 77 = .ok (.return_, 1) := by decide +kernel
theorem d_R_moves_0 : decode b_R_moves 0 = .ok (.iconst 4, 1) := by decide +kernel
theorem d_R_moves_1 : decode b_R_moves 1 = .ok (.aload_n 0, 1) := by decide +kernel
theorem d_R_moves_2 : decode b_R_moves 2 = .ok (.getfield 157, 3) := by decide +kernel
theorem d_R_moves_5 : decode b_R_moves 5 = .ok (.iconst 1, 1) := by decide +kernel
theorem d_R_moves_6 : decode b_R_moves 6 = .ok (.isub, 1) := by decide +kernel
theorem d_R_moves_7 : decode b_R_moves 7 = .ok (.imul, 1) := by decide +kernel
theorem d_R_moves_8 : decode b_R_moves 8 = .ok (.istore_n 2, 1) := by decide +kernel
theorem d_R_moves_9 : decode b_R_moves 9 = .ok (.iload_n 2, 1) := by decide +kernel
theorem d_R_moves_10 : decode b_R_moves 10 = .ok (.aload_n 0, 1) := by decide +kernel
theorem d_R_moves_11 : decode b_R_moves 11 = .ok (.getfield 19, 3) := by decide +kernel
theorem d_R_moves_14 : decode b_R_moves 14 = .ok (.iload_n 1, 1) := by decide +kernel
theorem d_R_moves_15 : decode b_R_moves 15 = .ok (.iaload, 1) := by decide +kernel
theorem d_R_moves_16 : decode b_R_moves 16 = .ok (.iadd, 1) := by decide +kernel
theorem d_R_moves_17 : decode b_R_moves 17 = .ok (.istore_n 3, 1) := by decide +kernel
theorem d_R_moves_18 : decode b_R_moves 18 = .ok (.iload_n 2, 1) := by decide +kernel
theorem d_R_moves_19 : decode b_R_moves 19 = .ok (.aload_n 0, 1) := by decide +kernel
theorem d_R_moves_20 : decode b_R_moves 20 = .ok (.getfield 22, 3) := by decide +kernel
theorem d_R_moves_23 : decode b_R_moves 23 = .ok (.iload_n 1, 1) := by decide +kernel
theorem d_R_moves_24 : decode b_R_moves 24 = .ok (.iaload, 1) := by decide +kernel
theorem d_R_moves_25 : decode b_R_moves 25 = .ok (.iadd, 1) := by decide +kernel
theorem d_R_moves_26 : decode b_R_moves 26 = .ok (.istore 4, 2) := by decide +kernel
theorem d_R_moves_28 : decode b_R_moves 28 = .ok (.aload_n 0, 1) := by decide +kernel
theorem d_R_moves_29 : decode b_R_moves 29 = .ok (.getfield 16, 3) := by decide +kernel
theorem d_R_moves_32 : decode b_R_moves 32 = .ok (.iload_n 1, 1) := by decide +kernel
theorem d_R_moves_33 : decode b_R_moves 33 = .ok (.iaload, 1) := by decide +kernel
theorem d_R_moves_34 : decode b_R_moves 34 = .ok (.tableswitch (269) (1) (17) #[82, 98, 269, 269, 269, 269, 108, 123, 269, 269, 269, 153, 173, 193, 213, 269, 256], 82) := by decide +kernel
theorem d_R_moves_116 : decode b_R_moves 116 = .ok (.aload_n 0, 1) := by decide +kernel
theorem d_R_moves_117 : decode b_R_moves 117 = .ok (.getfield 56, 3) := by decide +kernel
theorem d_R_moves_120 : decode b_R_moves 120 = .ok (.iload_n 3, 1) := by decide +kernel
theorem d_R_moves_121 : decode b_R_moves 121 = .ok (.aload_n 0, 1) := by decide +kernel
theorem d_R_moves_122 : decode b_R_moves 122 = .ok (.getfield 56, 3) := by decide +kernel
theorem d_R_moves_125 : decode b_R_moves 125 = .ok (.iload 4, 2) := by decide +kernel
theorem d_R_moves_127 : decode b_R_moves 127 = .ok (.iaload, 1) := by decide +kernel
theorem d_R_moves_128 : decode b_R_moves 128 = .ok (.iastore, 1) := by decide +kernel
theorem d_R_moves_129 : decode b_R_moves 129 = .ok (.goto (208), 3) := by decide +kernel
theorem d_R_moves_132 : decode b_R_moves 132 = .ok (.aload_n 0, 1) := by decide +kernel
theorem d_R_moves_133 : decode b_R_moves 133 = .ok (.getfield 56, 3) := by decide +kernel
theorem d_R_moves_136 : decode b_R_moves 136 = .ok (.iload_n 3, 1) := by decide +kernel
theorem d_R_moves_137 : decode b_R_moves 137 = .ok (.iconst 0, 1) := by decide +kernel
theorem d_R_moves_138 : decode b_R_moves 138 = .ok (.iastore, 1) := by decide +kernel
theorem d_R_moves_139 : decode b_R_moves 139 = .ok (.goto (198), 3) := by decide +kernel
theorem d_R_moves_142 : decode b_R_moves 142 = .ok (.aload_n 0, 1) := by decide +kernel
theorem d_R_moves_143 : decode b_R_moves 143 = .ok (.getfield 59, 3) := by decide +kernel
theorem d_R_moves_146 : decode b_R_moves 146 = .ok (.iload_n 3, 1) := by decide +kernel
theorem d_R_moves_147 : decode b_R_moves 147 = .ok (.aload_n 0, 1) := by decide +kernel
theorem d_R_moves_148 : decode b_R_moves 148 = .ok (.getfield 28, 3) := by decide +kernel
theorem d_R_moves_151 : decode b_R_moves 151 = .ok (.iload_n 1, 1) := by decide +kernel
theorem d_R_moves_152 : decode b_R_moves 152 = .ok (.iaload, 1) := by decide +kernel
theorem d_R_moves_153 : decode b_R_moves 153 = .ok (.iastore, 1) := by decide +kernel
theorem d_R_moves_154 : decode b_R_moves 154 = .ok (.goto (183), 3) := by decide +kernel
theorem d_R_moves_157 : decode b_R_moves 157 = .ok (.aload_n 0, 1) := by decide +kernel
theorem d_R_moves_158 : decode b_R_moves 158 = .ok (.getfield 59, 3) := by decide +kernel
theorem d_R_moves_161 : decode b_R_moves 161 = .ok (.iload_n 3, 1) := by decide +kernel
theorem d_R_moves_162 : decode b_R_moves 162 = .ok (.aload_n 0, 1) := by decide +kernel
theorem d_R_moves_163 : decode b_R_moves 163 = .ok (.getfield 59, 3) := by decide +kernel
theorem d_R_moves_166 : decode b_R_moves 166 = .ok (.iload 4, 2) := by decide +kernel
theorem d_R_moves_168 : decode b_R_moves 168 = .ok (.iaload, 1) := by decide +kernel
theorem d_R_moves_169 : decode b_R_moves 169 = .ok (.aload_n 0, 1) := by decide +kernel
theorem d_R_moves_170 : decode b_R_moves 170 = .ok (.getfield 59, 3) := by decide +kernel
theorem d_R_moves_173 : decode b_R_moves 173 = .ok (.iload_n 2, 1) := by decide +kernel
theorem d_R_moves_174 : decode b_R_moves 174 = .ok (.aload_n 0, 1) := by decide +kernel
theorem d_R_moves_175 : decode b_R_moves 175 = .ok (.getfield 25, 3) := by decide +kernel
theorem d_R_moves_178 : decode b_R_moves 178 = .ok (.iload_n 1, 1) := by decide +kernel
theorem d_R_moves_179 : decode b_R_moves 179 = .ok (.iaload, 1) := by decide +kernel
theorem d_R_moves_180 : decode b_R_moves 180 = .ok (.iadd, 1) := by decide +kernel
theorem d_R_moves_181 : decode b_R_moves 181 = .ok (.iaload, 1) := by decide +kernel
theorem d_R_moves_182 : decode b_R_moves 182 = .ok (.iadd, 1) := by decide +kernel
theorem d_R_moves_183 : decode b_R_moves 183 = .ok (.iastore, 1) := by decide +kernel
theorem d_R_moves_184 : decode b_R_moves 184 = .ok (.goto (153), 3) := by decide +kernel
theorem d_R_moves_187 : decode b_R_moves 187 = .ok (.aload_n 0, 1) := by decide +kernel
theorem d_R_moves_188 : decode b_R_moves 188 = .ok (.getfield 68, 3) := by decide +kernel
theorem d_R_moves_191 : decode b_R_moves 191 = .ok (.aload_n 0, 1) := by decide +kernel
theorem d_R_moves_192 : decode b_R_moves 192 = .ok (.getfield 22, 3) := by decide +kernel
theorem d_R_moves_195 : decode b_R_moves 195 = .ok (.iload_n 1, 1) := by decide +kernel
theorem d_R_moves_196 : decode b_R_moves 196 = .ok (.iaload, 1) := by decide +kernel
theorem d_R_moves_197 : decode b_R_moves 197 = .ok (.aload_n 0, 1) := by decide +kernel
theorem d_R_moves_198 : decode b_R_moves 198 = .ok (.getfield 56, 3) := by decide +kernel
theorem d_R_moves_201 : decode b_R_moves 201 = .ok (.iload_n 3, 1) := by decide +kernel
theorem d_R_moves_202 : decode b_R_moves 202 = .ok (.iaload, 1) := by decide +kernel
theorem d_R_moves_203 : decode b_R_moves 203 = .ok (.iastore, 1) := by decide +kernel
theorem d_R_moves_204 : decode b_R_moves 204 = .ok (.goto (133), 3) := by decide +kernel
theorem d_R_moves_207 : decode b_R_moves 207 = .ok (.aload_n 0, 1) := by decide +kernel
theorem d_R_moves_208 : decode b_R_moves 208 = .ok (.getfield 56, 3) := by decide +kernel
theorem d_R_moves_211 : decode b_R_moves 211 = .ok (.iload_n 3, 1) := by decide +kernel
theorem d_R_moves_212 : decode b_R_moves 212 = .ok (.aload_n 0, 1) := by decide +kernel
theorem d_R_moves_213 : decode b_R_moves 213 = .ok (.getfield 68, 3) := by decide +kernel
theorem d_R_moves_216 : decode b_R_moves 216 = .ok (.aload_n 0, 1) := by decide +kernel
theorem d_R_moves_217 : decode b_R_moves 217 = .ok (.getfield 22, 3) := by decide +kernel
theorem d_R_moves_220 : decode b_R_moves 220 = .ok (.iload_n 1, 1) := by decide +kernel
theorem d_R_moves_221 : decode b_R_moves 221 = .ok (.iaload, 1) := by decide +kernel
theorem d_R_moves_222 : decode b_R_moves 222 = .ok (.iaload, 1) := by decide +kernel
theorem d_R_moves_223 : decode b_R_moves 223 = .ok (.iastore, 1) := by decide +kernel
theorem d_R_moves_224 : decode b_R_moves 224 = .ok (.goto (113), 3) := by decide +kernel
theorem d_R_moves_227 : decode b_R_moves 227 = .ok (.aload_n 0, 1) := by decide +kernel
theorem d_R_moves_228 : decode b_R_moves 228 = .ok (.getfield 50, 3) := by decide +kernel
theorem d_R_moves_231 : decode b_R_moves 231 = .ok (.aload_n 0, 1) := by decide +kernel
theorem d_R_moves_232 : decode b_R_moves 232 = .ok (.getfield 157, 3) := by decide +kernel
theorem d_R_moves_235 : decode b_R_moves 235 = .ok (.iconst 1, 1) := by decide +kernel
theorem d_R_moves_236 : decode b_R_moves 236 = .ok (.isub, 1) := by decide +kernel
theorem d_R_moves_237 : decode b_R_moves 237 = .ok (.aload_n 0, 1) := by decide +kernel
theorem d_R_moves_238 : decode b_R_moves 238 = .ok (.getfield 28, 3) := by decide +kernel
theorem d_R_moves_241 : decode b_R_moves 241 = .ok (.iload_n 1, 1) := by decide +kernel
theorem d_R_moves_242 : decode b_R_moves 242 = .ok (.iaload, 1) := by decide +kernel
theorem d_R_moves_243 : decode b_R_moves 243 = .ok (.iastore, 1) := by decide +kernel
theorem d_R_moves_244 : decode b_R_moves 244 = .ok (.goto (93), 3) := by decide +kernel
theorem d_R_moves_247 : decode b_R_moves 247 = .ok (.aload_n 0, 1) := by decide +kernel
theorem d_R_moves_248 : decode b_R_moves 248 = .ok (.getfield 50, 3) := by decide +kernel
theorem d_R_moves_251 : decode b_R_moves 251 = .ok (.aload_n 0, 1) := by decide +kernel
theorem d_R_moves_252 : decode b_R_moves 252 = .ok (.getfield 157, 3) := by decide +kernel
theorem d_R_moves_255 : decode b_R_moves 255 = .ok (.iconst 1, 1) := by decide +kernel
theorem d_R_moves_256 : decode b_R_moves 256 = .ok (.isub, 1) := by decide +kernel
theorem d_R_moves_257 : decode b_R_moves 257 = .ok (.aload_n 0, 1) := by decide +kernel
theorem d_R_moves_258 : decode b_R_moves 258 = .ok (.getfield 59, 3) := by decide +kernel
theorem d_R_moves_261 : decode b_R_moves 261 = .ok (.iload_n 3, 1) := by decide +kernel
theorem d_R_moves_262 : decode b_R_moves 262 = .ok (.iaload, 1) := by decide +kernel
theorem d_R_moves_263 : decode b_R_moves 263 = .ok (.ifCond .ne (12), 3) := by decide +kernel
theorem d_R_moves_266 : decode b_R_moves 266 = .ok (.aload_n 0, 1) := by decide +kernel
theorem d_R_moves_267 : decode b_R_moves 267 = .ok (.getfield 28, 3) := by decide +kernel
theorem d_R_moves_270 : decode b_R_moves 270 = .ok (.iload_n 1, 1) := by decide +kernel
theorem d_R_moves_271 : decode b_R_moves 271 = .ok (.iaload, 1) := by decide +kernel
theorem d_R_moves_272 : decode b_R_moves 272 = .ok (.goto (14), 3) := by decide +kernel
theorem d_R_moves_275 : decode b_R_moves 275 = .ok (.aload_n 0, 1) := by decide +kernel
theorem d_R_moves_276 : decode b_R_moves 276 = .ok (.getfield 50, 3) := by decide +kernel
theorem d_R_moves_279 : decode b_R_moves 279 = .ok (.aload_n 0, 1) := by decide +kernel
theorem d_R_moves_280 : decode b_R_moves 280 = .ok (.getfield 157, 3) := by decide +kernel
theorem d_R_moves_283 : decode b_R_moves 283 = .ok (.iconst 1, 1) := by decide +kernel
theorem d_R_moves_284 : decode b_R_moves 284 = .ok (.isub, 1) := by decide +kernel
theorem d_R_moves_285 : decode b_R_moves 285 = .ok (.iaload, 1) := by decide +kernel
theorem d_R_moves_286 : decode b_R_moves 286 = .ok (.iastore, 1) := by decide +kernel
theorem d_R_moves_287 : decode b_R_moves 287 = .ok (.goto (50), 3) := by decide +kernel
theorem d_R_moves_290 : decode b_R_moves 290 = .ok (.aload_n 0, 1) := by decide +kernel
theorem d_R_moves_291 : decode b_R_moves 291 = .ok (.aload_n 0, 1) := by decide +kernel
theorem d_R_moves_292 : decode b_R_moves 292 = .ok (.getfield 56, 3) := by decide +kernel
theorem d_R_moves_295 : decode b_R_moves 295 = .ok (.iload_n 3, 1) := by decide +kernel
theorem d_R_moves_296 : decode b_R_moves 296 = .ok (.iaload, 1) := by decide +kernel
theorem d_R_moves_297 : decode b_R_moves 297 = .ok (.invokevirtual 176, 3) := by decide +kernel
theorem d_R_moves_300 : decode b_R_moves 300 = .ok (.goto (37), 3) := by decide +kernel
theorem d_R_moves_303 : decode b_R_moves 303 = .ok (.aload_n 0, 1) := by decide +kernel
theorem d_R_moves_304 : decode b_R_moves 304 = .ok (.getfield 179, 3) := by decide +kernel
theorem d_R_moves_307 : decode b_R_moves 307 = .ok (.bipush (32), 2) := by decide +kernel
theorem d_R_moves_309 : decode b_R_moves 309 = .ok (.if_icmp .ge (18), 3) := by decide +kernel
theorem d_R_moves_312 : decode b_R_moves 312 = .ok (.aload_n 0, 1) := by decide +kernel
theorem d_R_moves_313 : decode b_R_moves 313 = .ok (.getfield 71, 3) := by decide +kernel
theorem d_R_moves_316 : decode b_R_moves 316 = .ok (.aload_n 0, 1) := by decide +kernel
theorem d_R_moves_317 : decode b_R_moves 317 = .ok (.getfield 179, 3) := by decide +kernel
theorem d_R_moves_320 : decode b_R_moves 320 = .ok (.aload_n 0, 1) := by decide +kernel
theorem d_R_moves_321 : decode b_R_moves 321 = .ok (.getfield 59, 3) := by decide +kernel
theorem d_R_moves_324 : decode b_R_moves 324 = .ok (.iload_n 3, 1) := by decide +kernel
theorem d_R_moves_325 : decode b_R_moves 325 = .ok (.iaload, 1) := by decide +kernel
theorem d_R_moves_326 : decode b_R_moves 326 = .ok (.iastore, 1) := by decide +kernel
theorem d_R_moves_327 : decode b_R_moves 327 = .ok (.aload_n 0, 1) := by decide +kernel
theorem d_R_moves_328 : decode b_R_moves 328 = .ok (.dup, 1) := by decide +kernel
theorem d_R_moves_329 : decode b_R_moves 329 = .ok (.getfield 179, 3) := by decide +kernel
theorem d_R_moves_332 : decode b_R_moves 332 = .ok (.iconst 1, 1) := by decide +kernel
theorem d_R_moves_333 : decode b_R_moves 333 = .ok (.iadd, 1) := by decide +kernel
theorem d_R_moves_334 : decode b_R_moves 334 = .ok (.putfield 179, 3) := by decide +kernel
theorem d_R_moves_337 : decode b_R_moves 337 = .ok (.return_, 1) := by decide +kernel
theorem d_R_shown_0 : decode b_R_shown 0 = .ok (.aload_n 0, 1) := by decide +kernel
theorem d_R_shown_1 : decode b_R_shown 1 = .ok (.iload_n 1, 1) := by decide +kernel
theorem d_R_shown_2 : decode b_R_shown 2 = .ok (.ifCond .lt (17), 3) := by decide +kernel
theorem d_R_shown_5 : decode b_R_shown 5 = .ok (.iload_n 1, 1) := by decide +kernel
theorem d_R_shown_6 : decode b_R_shown 6 = .ok (.aload_n 0, 1) := by decide +kernel
theorem d_R_shown_7 : decode b_R_shown 7 = .ok (.getfield 179, 3) := by decide +kernel
theorem d_R_shown_10 : decode b_R_shown 10 = .ok (.if_icmp .ge (9), 3) := by decide +kernel
theorem d_R_shown_13 : decode b_R_shown 13 = .ok (.iload_n 1, 1) := by decide +kernel
theorem d_R_shown_14 : decode b_R_shown 14 = .ok (.bipush (32), 2) := by decide +kernel
theorem d_R_shown_16 : decode b_R_shown 16 = .ok (.if_icmp .lt (7), 3) := by decide +kernel
theorem d_R_shown_19 : decode b_R_shown 19 = .ok (.iconst 1, 1) := by decide +kernel
theorem d_R_shown_20 : decode b_R_shown 20 = .ok (.goto (4), 3) := by decide +kernel
theorem d_R_shown_23 : decode b_R_shown 23 = .ok (.iconst 0, 1) := by decide +kernel
theorem d_R_shown_24 : decode b_R_shown 24 = .ok (.putfield 77, 3) := by decide +kernel
theorem d_R_shown_27 : decode b_R_shown 27 = .ok (.aload_n 0, 1) := by decide +kernel
theorem d_R_shown_28 : decode b_R_shown 28 = .ok (.getfield 77, 3) := by decide +kernel
theorem d_R_shown_31 : decode b_R_shown 31 = .ok (.ifCond .le (7), 3) := by decide +kernel
theorem d_R_shown_34 : decode b_R_shown 34 = .ok (.iconst 0, 1) := by decide +kernel
theorem d_R_shown_35 : decode b_R_shown 35 = .ok (.goto (9), 3) := by decide +kernel
theorem d_R_shown_38 : decode b_R_shown 38 = .ok (.aload_n 0, 1) := by decide +kernel
theorem d_R_shown_39 : decode b_R_shown 39 = .ok (.getfield 71, 3) := by decide +kernel
theorem d_R_shown_42 : decode b_R_shown 42 = .ok (.iload_n 1, 1) := by decide +kernel
theorem d_R_shown_43 : decode b_R_shown 43 = .ok (.iaload, 1) := by decide +kernel
theorem d_R_shown_44 : decode b_R_shown 44 = .ok (.ireturn, 1) := by decide +kernel
theorem d_R_latest_0 : decode b_R_latest 0 = .ok (.aload_n 0, 1) := by decide +kernel
theorem d_R_latest_1 : decode b_R_latest 1 = .ok (.iconst 0, 1) := by decide +kernel
theorem d_R_latest_2 : decode b_R_latest 2 = .ok (.putfield 77, 3) := by decide +kernel
theorem d_R_latest_5 : decode b_R_latest 5 = .ok (.iload_n 1, 1) := by decide +kernel
theorem d_R_latest_6 : decode b_R_latest 6 = .ok (.tableswitch (59) (0) (4) #[34, 39, 44, 49, 54], 34) := by decide +kernel
theorem d_R_latest_40 : decode b_R_latest 40 = .ok (.aload_n 0, 1) := by decide +kernel
theorem d_R_latest_41 : decode b_R_latest 41 = .ok (.getfield 160, 3) := by decide +kernel
theorem d_R_latest_44 : decode b_R_latest 44 = .ok (.ireturn, 1) := by decide +kernel
theorem d_R_latest_45 : decode b_R_latest 45 = .ok (.aload_n 0, 1) := by decide +kernel
theorem d_R_latest_46 : decode b_R_latest 46 = .ok (.getfield 179, 3) := by decide +kernel
theorem d_R_latest_49 : decode b_R_latest 49 = .ok (.ireturn, 1) := by decide +kernel
theorem d_R_latest_50 : decode b_R_latest 50 = .ok (.aload_n 0, 1) := by decide +kernel
theorem d_R_latest_51 : decode b_R_latest 51 = .ok (.getfield 201, 3) := by decide +kernel
theorem d_R_latest_54 : decode b_R_latest 54 = .ok (.ireturn, 1) := by decide +kernel
theorem d_R_latest_55 : decode b_R_latest 55 = .ok (.aload_n 0, 1) := by decide +kernel
theorem d_R_latest_56 : decode b_R_latest 56 = .ok (.getfield 170, 3) := by decide +kernel
theorem d_R_latest_59 : decode b_R_latest 59 = .ok (.ireturn, 1) := by decide +kernel
theorem d_R_latest_60 : decode b_R_latest 60 = .ok (.aload_n 0, 1) := by decide +kernel
theorem d_R_latest_61 : decode b_R_latest 61 = .ok (.getfield 167, 3) := by decide +kernel
theorem d_R_latest_64 : decode b_R_latest 64 = .ok (.ireturn, 1) := by decide +kernel
theorem d_R_latest_65 : decode b_R_latest 65 = .ok (.iconst (-1), 1) := by decide +kernel
theorem d_R_latest_66 : decode b_R_latest 66 = .ok (.ireturn, 1) := by decide +kernel
theorem d_R_escape_0 : decode b_R_escape 0 = .ok (.aload_n 0, 1) := by decide +kernel
theorem d_R_escape_1 : decode b_R_escape 1 = .ok (.iconst 0, 1) := by decide +kernel
theorem d_R_escape_2 : decode b_R_escape 2 = .ok (.putfield 77, 3) := by decide +kernel
theorem d_R_escape_5 : decode b_R_escape 5 = .ok (.aload_n 0, 1) := by decide +kernel
theorem d_R_escape_6 : decode b_R_escape 6 = .ok (.invokevirtual 195, 3) := by decide +kernel
theorem d_R_escape_9 : decode b_R_escape 9 = .ok (.aload_n 0, 1) := by decide +kernel
theorem d_R_escape_10 : decode b_R_escape 10 = .ok (.iload_n 1, 1) := by decide +kernel
theorem d_R_escape_11 : decode b_R_escape 11 = .ok (.iload_n 2, 1) := by decide +kernel
theorem d_R_escape_12 : decode b_R_escape 12 = .ok (.invokevirtual 128, 3) := by decide +kernel
theorem d_R_escape_15 : decode b_R_escape 15 = .ok (.ifCond .eq (17), 3) := by decide +kernel
theorem d_R_escape_18 : decode b_R_escape 18 = .ok (.aload_n 0, 1) := by decide +kernel
theorem d_R_escape_19 : decode b_R_escape 19 = .ok (.getfield 16, 3) := by decide +kernel
theorem d_R_escape_22 : decode b_R_escape 22 = .ok (.bipush (24), 2) := by decide +kernel
theorem d_R_escape_24 : decode b_R_escape 24 = .ok (.iload_n 1, 1) := by decide +kernel
theorem d_R_escape_25 : decode b_R_escape 25 = .ok (.imul, 1) := by decide +kernel
theorem d_R_escape_26 : decode b_R_escape 26 = .ok (.iload_n 2, 1) := by decide +kernel
theorem d_R_escape_27 : decode b_R_escape 27 = .ok (.iadd, 1) := by decide +kernel
theorem d_R_escape_28 : decode b_R_escape 28 = .ok (.iaload, 1) := by decide +kernel
theorem d_R_escape_29 : decode b_R_escape 29 = .ok (.ifCond .eq (7), 3) := by decide +kernel
theorem d_R_escape_32 : decode b_R_escape 32 = .ok (.iconst (-1), 1) := by decide +kernel
theorem d_R_escape_33 : decode b_R_escape 33 = .ok (.goto (9), 3) := by decide +kernel
theorem d_R_escape_36 : decode b_R_escape 36 = .ok (.aload_n 0, 1) := by decide +kernel
theorem d_R_escape_37 : decode b_R_escape 37 = .ok (.iload_n 1, 1) := by decide +kernel
theorem d_R_escape_38 : decode b_R_escape 38 = .ok (.iload_n 2, 1) := by decide +kernel
theorem d_R_escape_39 : decode b_R_escape 39 = .ok (.invokevirtual 151, 3) := by decide +kernel
theorem d_R_escape_42 : decode b_R_escape 42 = .ok (.ireturn, 1) := by decide +kernel
theorem d_R_summary_0 : decode b_R_summary 0 = .ok (.aload_n 0, 1) := by decide +kernel
theorem d_R_summary_1 : decode b_R_summary 1 = .ok (.iconst 0, 1) := by decide +kernel
theorem d_R_summary_2 : decode b_R_summary 2 = .ok (.putfield 77, 3) := by decide +kernel
theorem d_R_summary_5 : decode b_R_summary 5 = .ok (.aload_n 0, 1) := by decide +kernel
theorem d_R_summary_6 : decode b_R_summary 6 = .ok (.invokevirtual 195, 3) := by decide +kernel
theorem d_R_summary_9 : decode b_R_summary 9 = .ok (.iload_n 1, 1) := by decide +kernel
theorem d_R_summary_10 : decode b_R_summary 10 = .ok (.invokestatic 81, 3) := by decide +kernel
theorem d_R_summary_13 : decode b_R_summary 13 = .ok (.ifCond .eq (17), 3) := by decide +kernel
theorem d_R_summary_16 : decode b_R_summary 16 = .ok (.iload_n 2, 1) := by decide +kernel
theorem d_R_summary_17 : decode b_R_summary 17 = .ok (.ifCond .lt (13), 3) := by decide +kernel
theorem d_R_summary_20 : decode b_R_summary 20 = .ok (.iload_n 2, 1) := by decide +kernel
theorem d_R_summary_21 : decode b_R_summary 21 = .ok (.aload_n 0, 1) := by decide +kernel
theorem d_R_summary_22 : decode b_R_summary 22 = .ok (.getfield 7, 3) := by decide +kernel
theorem d_R_summary_25 : decode b_R_summary 25 = .ok (.iload_n 1, 1) := by decide +kernel
theorem d_R_summary_26 : decode b_R_summary 26 = .ok (.iaload, 1) := by decide +kernel
theorem d_R_summary_27 : decode b_R_summary 27 = .ok (.if_icmp .lt (7), 3) := by decide +kernel
theorem d_R_summary_30 : decode b_R_summary 30 = .ok (.iconst (-1), 1) := by decide +kernel
theorem d_R_summary_31 : decode b_R_summary 31 = .ok (.goto (13), 3) := by decide +kernel
theorem d_R_summary_34 : decode b_R_summary 34 = .ok (.aload_n 0, 1) := by decide +kernel
theorem d_R_summary_35 : decode b_R_summary 35 = .ok (.getfield 40, 3) := by decide +kernel
theorem d_R_summary_38 : decode b_R_summary 38 = .ok (.iconst 2, 1) := by decide +kernel
theorem d_R_summary_39 : decode b_R_summary 39 = .ok (.iload_n 1, 1) := by decide +kernel
theorem d_R_summary_40 : decode b_R_summary 40 = .ok (.imul, 1) := by decide +kernel
theorem d_R_summary_41 : decode b_R_summary 41 = .ok (.iload_n 2, 1) := by decide +kernel
theorem d_R_summary_42 : decode b_R_summary 42 = .ok (.iadd, 1) := by decide +kernel
theorem d_R_summary_43 : decode b_R_summary 43 = .ok (.iaload, 1) := by decide +kernel
theorem d_R_summary_44 : decode b_R_summary 44 = .ok (.ireturn, 1) := by decide +kernel
theorem d_R_fate_0 : decode b_R_fate 0 = .ok (.aload_n 0, 1) := by decide +kernel
theorem d_R_fate_1 : decode b_R_fate 1 = .ok (.iconst 0, 1) := by decide +kernel
theorem d_R_fate_2 : decode b_R_fate 2 = .ok (.putfield 77, 3) := by decide +kernel
theorem d_R_fate_5 : decode b_R_fate 5 = .ok (.aload_n 0, 1) := by decide +kernel
theorem d_R_fate_6 : decode b_R_fate 6 = .ok (.invokevirtual 195, 3) := by decide +kernel
theorem d_R_fate_9 : decode b_R_fate 9 = .ok (.aload_n 0, 1) := by decide +kernel
theorem d_R_fate_10 : decode b_R_fate 10 = .ok (.iload_n 1, 1) := by decide +kernel
theorem d_R_fate_11 : decode b_R_fate 11 = .ok (.iload_n 2, 1) := by decide +kernel
theorem d_R_fate_12 : decode b_R_fate 12 = .ok (.invokevirtual 128, 3) := by decide +kernel
theorem d_R_fate_15 : decode b_R_fate 15 = .ok (.ifCond .eq (12), 3) := by decide +kernel
theorem d_R_fate_18 : decode b_R_fate 18 = .ok (.aload_n 0, 1) := by decide +kernel
theorem d_R_fate_19 : decode b_R_fate 19 = .ok (.iload_n 1, 1) := by decide +kernel
theorem d_R_fate_20 : decode b_R_fate 20 = .ok (.iload_n 2, 1) := by decide +kernel
theorem d_R_fate_21 : decode b_R_fate 21 = .ok (.invokevirtual 198, 3) := by decide +kernel
theorem d_R_fate_24 : decode b_R_fate 24 = .ok (.goto (4), 3) := by decide +kernel
theorem d_R_fate_27 : decode b_R_fate 27 = .ok (.iconst (-1), 1) := by decide +kernel
theorem d_R_fate_28 : decode b_R_fate 28 = .ok (.ireturn, 1) := by decide +kernel
theorem d_R_may_0 : decode b_R_may 0 = .ok (.aload_n 0, 1) := by decide +kernel
theorem d_R_may_1 : decode b_R_may 1 = .ok (.iconst 0, 1) := by decide +kernel
theorem d_R_may_2 : decode b_R_may 2 = .ok (.putfield 77, 3) := by decide +kernel
theorem d_R_may_5 : decode b_R_may 5 = .ok (.aload_n 0, 1) := by decide +kernel
theorem d_R_may_6 : decode b_R_may 6 = .ok (.invokevirtual 195, 3) := by decide +kernel
theorem d_R_may_9 : decode b_R_may 9 = .ok (.iload_n 1, 1) := by decide +kernel
theorem d_R_may_10 : decode b_R_may 10 = .ok (.invokestatic 81, 3) := by decide +kernel
theorem d_R_may_13 : decode b_R_may 13 = .ok (.ifCond .eq (10), 3) := by decide +kernel
theorem d_R_may_16 : decode b_R_may 16 = .ok (.iload_n 2, 1) := by decide +kernel
theorem d_R_may_17 : decode b_R_may 17 = .ok (.invokestatic 89, 3) := by decide +kernel
theorem d_R_may_20 : decode b_R_may 20 = .ok (.ifCond .ne (7), 3) := by decide +kernel
theorem d_R_may_23 : decode b_R_may 23 = .ok (.iconst (-1), 1) := by decide +kernel
theorem d_R_may_24 : decode b_R_may 24 = .ok (.goto (13), 3) := by decide +kernel
theorem d_R_may_27 : decode b_R_may 27 = .ok (.aload_n 0, 1) := by decide +kernel
theorem d_R_may_28 : decode b_R_may 28 = .ok (.getfield 31, 3) := by decide +kernel
theorem d_R_may_31 : decode b_R_may 31 = .ok (.iconst 4, 1) := by decide +kernel
theorem d_R_may_32 : decode b_R_may 32 = .ok (.iload_n 1, 1) := by decide +kernel
theorem d_R_may_33 : decode b_R_may 33 = .ok (.imul, 1) := by decide +kernel
theorem d_R_may_34 : decode b_R_may 34 = .ok (.iload_n 2, 1) := by decide +kernel
theorem d_R_may_35 : decode b_R_may 35 = .ok (.iadd, 1) := by decide +kernel
theorem d_R_may_36 : decode b_R_may 36 = .ok (.iaload, 1) := by decide +kernel
theorem d_R_may_37 : decode b_R_may 37 = .ok (.ireturn, 1) := by decide +kernel
theorem d_R_length_0 : decode b_R_length 0 = .ok (.aload_n 0, 1) := by decide +kernel
theorem d_R_length_1 : decode b_R_length 1 = .ok (.iconst 0, 1) := by decide +kernel
theorem d_R_length_2 : decode b_R_length 2 = .ok (.putfield 77, 3) := by decide +kernel
theorem d_R_length_5 : decode b_R_length 5 = .ok (.iload_n 1, 1) := by decide +kernel
theorem d_R_length_6 : decode b_R_length 6 = .ok (.invokestatic 81, 3) := by decide +kernel
theorem d_R_length_9 : decode b_R_length 9 = .ok (.ifCond .eq (12), 3) := by decide +kernel
theorem d_R_length_12 : decode b_R_length 12 = .ok (.aload_n 0, 1) := by decide +kernel
theorem d_R_length_13 : decode b_R_length 13 = .ok (.getfield 13, 3) := by decide +kernel
theorem d_R_length_16 : decode b_R_length 16 = .ok (.iload_n 1, 1) := by decide +kernel
theorem d_R_length_17 : decode b_R_length 17 = .ok (.iaload, 1) := by decide +kernel
theorem d_R_length_18 : decode b_R_length 18 = .ok (.goto (4), 3) := by decide +kernel
theorem d_R_length_21 : decode b_R_length 21 = .ok (.iconst (-1), 1) := by decide +kernel
theorem d_R_length_22 : decode b_R_length 22 = .ok (.ireturn, 1) := by decide +kernel
