theorem d_R_adds_32 : decode b_R_adds 32 = .ok (.getfield 16, 3) := by decide +kernel
theorem d_R_adds_35 : decode b_R_adds 35 = .ok (.iload_n 3, 1) := by decide +kernel
theorem d_R_adds_36 : decode b_R_adds 36 = .ok (.iaload, 1) := by decide +kernel
theorem d_R_adds_37 : decode b_R_adds 37 = .ok (.tableswitch (273) (0) (17) #[87, 108, 273, 133, 169, 273, 273, 273, 273, 273, 273, 273, 197, 215, 273, 273, 264, 241], 87) := by decide +kernel
theorem d_R_adds_124 : decode b_R_adds 124 = .ok (.aload_n 0, 1) := by decide +kernel
theorem d_R_adds_125 : decode b_R_adds 125 = .ok (.getfield 31, 3) := by decide +kernel
theorem d_R_adds_128 : decode b_R_adds 128 = .ok (.iload 4, 2) := by decide +kernel
theorem d_R_adds_130 : decode b_R_adds 130 = .ok (.aload_n 0, 1) := by decide +kernel
theorem d_R_adds_131 : decode b_R_adds 131 = .ok (.getfield 31, 3) := by decide +kernel
theorem d_R_adds_134 : decode b_R_adds 134 = .ok (.iload 4, 2) := by decide +kernel
theorem d_R_adds_136 : decode b_R_adds 136 = .ok (.iaload, 1) := by decide +kernel
theorem d_R_adds_137 : decode b_R_adds 137 = .ok (.iconst 1, 1) := by decide +kernel
theorem d_R_adds_138 : decode b_R_adds 138 = .ok (.iload_n 2, 1) := by decide +kernel
theorem d_R_adds_139 : decode b_R_adds 139 = .ok (.ishl, 1) := by decide +kernel
theorem d_R_adds_140 : decode b_R_adds 140 = .ok (.ior, 1) := by decide +kernel
theorem d_R_adds_141 : decode b_R_adds 141 = .ok (.iastore, 1) := by decide +kernel
theorem d_R_adds_142 : decode b_R_adds 142 = .ok (.goto (168), 3) := by decide +kernel
theorem d_R_adds_145 : decode b_R_adds 145 = .ok (.aload_n 0, 1) := by decide +kernel
theorem d_R_adds_146 : decode b_R_adds 146 = .ok (.getfield 31, 3) := by decide +kernel
theorem d_R_adds_149 : decode b_R_adds 149 = .ok (.iload 4, 2) := by decide +kernel
theorem d_R_adds_151 : decode b_R_adds 151 = .ok (.aload_n 0, 1) := by decide +kernel
theorem d_R_adds_152 : decode b_R_adds 152 = .ok (.getfield 31, 3) := by decide +kernel
theorem d_R_adds_155 : decode b_R_adds 155 = .ok (.iload 4, 2) := by decide +kernel
theorem d_R_adds_157 : decode b_R_adds 157 = .ok (.iaload, 1) := by decide +kernel
theorem d_R_adds_158 : decode b_R_adds 158 = .ok (.aload_n 0, 1) := by decide +kernel
theorem d_R_adds_159 : decode b_R_adds 159 = .ok (.getfield 31, 3) := by decide +kernel
theorem d_R_adds_162 : decode b_R_adds 162 = .ok (.iload 5, 2) := by decide +kernel
theorem d_R_adds_164 : decode b_R_adds 164 = .ok (.iaload, 1) := by decide +kernel
theorem d_R_adds_165 : decode b_R_adds 165 = .ok (.ior, 1) := by decide +kernel
theorem d_R_adds_166 : decode b_R_adds 166 = .ok (.iastore, 1) := by decide +kernel
theorem d_R_adds_167 : decode b_R_adds 167 = .ok (.goto (143), 3) := by decide +kernel
theorem d_R_adds_170 : decode b_R_adds 170 = .ok (.aload_n 0, 1) := by decide +kernel
theorem d_R_adds_171 : decode b_R_adds 171 = .ok (.getfield 31, 3) := by decide +kernel
theorem d_R_adds_174 : decode b_R_adds 174 = .ok (.iload 4, 2) := by decide +kernel
theorem d_R_adds_176 : decode b_R_adds 176 = .ok (.aload_n 0, 1) := by decide +kernel
theorem d_R_adds_177 : decode b_R_adds 177 = .ok (.getfield 31, 3) := by decide +kernel
theorem d_R_adds_180 : decode b_R_adds 180 = .ok (.iload 4, 2) := by decide +kernel
theorem d_R_adds_182 : decode b_R_adds 182 = .ok (.iaload, 1) := by decide +kernel
theorem d_R_adds_183 : decode b_R_adds 183 = .ok (.aload_n 0, 1) := by decide +kernel
theorem d_R_adds_184 : decode b_R_adds 184 = .ok (.iload_n 1, 1) := by decide +kernel
theorem d_R_adds_185 : decode b_R_adds 185 = .ok (.aload_n 0, 1) := by decide +kernel
theorem d_R_adds_186 : decode b_R_adds 186 = .ok (.getfield 31, 3) := by decide +kernel
theorem d_R_adds_189 : decode b_R_adds 189 = .ok (.iload 5, 2) := by decide +kernel
theorem d_R_adds_191 : decode b_R_adds 191 = .ok (.iaload, 1) := by decide +kernel
theorem d_R_adds_192 : decode b_R_adds 192 = .ok (.aload_n 0, 1) := by decide +kernel
theorem d_R_adds_193 : decode b_R_adds 193 = .ok (.getfield 25, 3) := by decide +kernel
theorem d_R_adds_196 : decode b_R_adds 196 = .ok (.iload_n 3, 1) := by decide +kernel
theorem d_R_adds_197 : decode b_R_adds 197 = .ok (.iaload, 1) := by decide +kernel
theorem d_R_adds_198 : decode b_R_adds 198 = .ok (.invokevirtual 101, 3) := by decide +kernel
theorem d_R_adds_201 : decode b_R_adds 201 = .ok (.ior, 1) := by decide +kernel
theorem d_R_adds_202 : decode b_R_adds 202 = .ok (.iastore, 1) := by decide +kernel
theorem d_R_adds_203 : decode b_R_adds 203 = .ok (.goto (107), 3) := by decide +kernel
theorem d_R_adds_206 : decode b_R_adds 206 = .ok (.aload_n 0, 1) := by decide +kernel
theorem d_R_adds_207 : decode b_R_adds 207 = .ok (.iload_n 1, 1) := by decide +kernel
theorem d_R_adds_208 : decode b_R_adds 208 = .ok (.aload_n 0, 1) := by decide +kernel
theorem d_R_adds_209 : decode b_R_adds 209 = .ok (.getfield 31, 3) := by decide +kernel
theorem d_R_adds_212 : decode b_R_adds 212 = .ok (.iload 4, 2) := by decide +kernel
theorem d_R_adds_214 : decode b_R_adds 214 = .ok (.iaload, 1) := by decide +kernel
theorem d_R_adds_215 : decode b_R_adds 215 = .ok (.aload_n 0, 1) := by decide +kernel
theorem d_R_adds_216 : decode b_R_adds 216 = .ok (.getfield 25, 3) := by decide +kernel
theorem d_R_adds_219 : decode b_R_adds 219 = .ok (.iload_n 3, 1) := by decide +kernel
theorem d_R_adds_220 : decode b_R_adds 220 = .ok (.iaload, 1) := by decide +kernel
theorem d_R_adds_221 : decode b_R_adds 221 = .ok (.aload_n 0, 1) := by decide +kernel
theorem d_R_adds_222 : decode b_R_adds 222 = .ok (.getfield 31, 3) := by decide +kernel
theorem d_R_adds_225 : decode b_R_adds 225 = .ok (.iload 5, 2) := by decide +kernel
theorem d_R_adds_227 : decode b_R_adds 227 = .ok (.iaload, 1) := by decide +kernel
theorem d_R_adds_228 : decode b_R_adds 228 = .ok (.invokevirtual 97, 3) := by decide +kernel
theorem d_R_adds_231 : decode b_R_adds 231 = .ok (.goto (79), 3) := by decide +kernel
theorem d_R_adds_234 : decode b_R_adds 234 = .ok (.aload_n 0, 1) := by decide +kernel
theorem d_R_adds_235 : decode b_R_adds 235 = .ok (.iload_n 1, 1) := by decide +kernel
theorem d_R_adds_236 : decode b_R_adds 236 = .ok (.ldc 92, 2) := by decide +kernel
theorem d_R_adds_238 : decode b_R_adds 238 = .ok (.iconst 2, 1) := by decide +kernel
theorem d_R_adds_239 : decode b_R_adds 239 = .ok (.aload_n 0, 1) := by decide +kernel
theorem d_R_adds_240 : decode b_R_adds 240 = .ok (.getfield 31, 3) := by decide +kernel
theorem d_R_adds_243 : decode b_R_adds 243 = .ok (.iload 4, 2) := by decide +kernel
theorem d_R_adds_245 : decode b_R_adds 245 = .ok (.iaload, 1) := by decide +kernel
theorem d_R_adds_246 : decode b_R_adds 246 = .ok (.invokevirtual 97, 3) := by decide +kernel
theorem d_R_adds_249 : decode b_R_adds 249 = .ok (.goto (61), 3) := by decide +kernel
theorem d_R_adds_252 : decode b_R_adds 252 = .ok (.aload_n 0, 1) := by decide +kernel
theorem d_R_adds_253 : decode b_R_adds 253 = .ok (.getfield 31, 3) := by decide +kernel
theorem d_R_adds_256 : decode b_R_adds 256 = .ok (.iload 4, 2) := by decide +kernel
theorem d_R_adds_258 : decode b_R_adds 258 = .ok (.aload_n 0, 1) := by decide +kernel
theorem d_R_adds_259 : decode b_R_adds 259 = .ok (.getfield 31, 3) := by decide +kernel
theorem d_R_adds_262 : decode b_R_adds 262 = .ok (.iload 4, 2) := by decide +kernel
theorem d_R_adds_264 : decode b_R_adds 264 = .ok (.iaload, 1) := by decide +kernel
theorem d_R_adds_265 : decode b_R_adds 265 = .ok (.aload_n 0, 1) := by decide +kernel
theorem d_R_adds_266 : decode b_R_adds 266 = .ok (.iload_n 1, 1) := by decide +kernel
theorem d_R_adds_267 : decode b_R_adds 267 = .ok (.ldc 92, 2) := by decide +kernel
theorem d_R_adds_269 : decode b_R_adds 269 = .ok (.iconst 0, 1) := by decide +kernel
theorem d_R_adds_270 : decode b_R_adds 270 = .ok (.invokevirtual 101, 3) := by decide +kernel
theorem d_R_adds_273 : decode b_R_adds 273 = .ok (.ior, 1) := by decide +kernel
theorem d_R_adds_274 : decode b_R_adds 274 = .ok (.iastore, 1) := by decide +kernel
theorem d_R_adds_275 : decode b_R_adds 275 = .ok (.goto (35), 3) := by decide +kernel
theorem d_R_adds_278 : decode b_R_adds 278 = .ok (.aload_n 0, 1) := by decide +kernel
theorem d_R_adds_279 : decode b_R_adds 279 = .ok (.getfield 37, 3) := by decide +kernel
theorem d_R_adds_282 : decode b_R_adds 282 = .ok (.iload_n 1, 1) := by decide +kernel
theorem d_R_adds_283 : decode b_R_adds 283 = .ok (.aload_n 0, 1) := by decide +kernel
theorem d_R_adds_284 : decode b_R_adds 284 = .ok (.getfield 37, 3) := by decide +kernel
theorem d_R_adds_287 : decode b_R_adds 287 = .ok (.iload_n 1, 1) := by decide +kernel
theorem d_R_adds_288 : decode b_R_adds 288 = .ok (.iaload, 1) := by decide +kernel
theorem d_R_adds_289 : decode b_R_adds 289 = .ok (.aload_n 0, 1) := by decide +kernel
theorem d_R_adds_290 : decode b_R_adds 290 = .ok (.getfield 31, 3) := by decide +kernel
theorem d_R_adds_293 : decode b_R_adds 293 = .ok (.iload 4, 2) := by decide +kernel
theorem d_R_adds_295 : decode b_R_adds 295 = .ok (.iaload, 1) := by decide +kernel
theorem d_R_adds_296 : decode b_R_adds 296 = .ok (.ior, 1) := by decide +kernel
theorem d_R_adds_297 : decode b_R_adds 297 = .ok (.iastore, 1) := by decide +kernel
theorem d_R_adds_298 : decode b_R_adds 298 = .ok (.goto (12), 3) := by decide +kernel
theorem d_R_adds_301 : decode b_R_adds 301 = .ok (.aload_n 0, 1) := by decide +kernel
theorem d_R_adds_302 : decode b_R_adds 302 = .ok (.iload_n 1, 1) := by decide +kernel
theorem d_R_adds_303 : decode b_R_adds 303 = .ok (.iload_n 2, 1) := by decide +kernel
theorem d_R_adds_304 : decode b_R_adds 304 = .ok (.invokevirtual 108, 3) := by decide +kernel
theorem d_R_adds_307 : decode b_R_adds 307 = .ok (.goto (3), 3) := by decide +kernel
theorem d_R_adds_310 : decode b_R_adds 310 = .ok (.return_, 1) := by decide +kernel
theorem d_R_held_0 : decode b_R_held 0 = .ok (.iconst 0, 1) := by decide +kernel
theorem d_R_held_1 : decode b_R_held 1 = .ok (.istore 4, 2) := by decide +kernel
theorem d_R_held_3 : decode b_R_held 3 = .ok (.iconst 0, 1) := by decide +kernel
theorem d_R_held_4 : decode b_R_held 4 = .ok (.istore 5, 2) := by decide +kernel
theorem d_R_held_6 : decode b_R_held 6 = .ok (.iload 5, 2) := by decide +kernel
theorem d_R_held_8 : decode b_R_held 8 = .ok (.bipush (27), 2) := by decide +kernel
theorem d_R_held_10 : decode b_R_held 10 = .ok (.if_icmp .ge (45), 3) := by decide +kernel
theorem d_R_held_13 : decode b_R_held 13 = .ok (.iload_n 2, 1) := by decide +kernel
theorem d_R_held_14 : decode b_R_held 14 = .ok (.iload 5, 2) := by decide +kernel
theorem d_R_held_16 : decode b_R_held 16 = .ok (.ishr, 1) := by decide +kernel
theorem d_R_held_17 : decode b_R_held 17 = .ok (.iconst 1, 1) := by decide +kernel
theorem d_R_held_18 : decode b_R_held 18 = .ok (.iand, 1) := by decide +kernel
theorem d_R_held_19 : decode b_R_held 19 = .ok (.iconst 1, 1) := by decide +kernel
theorem d_R_held_20 : decode b_R_held 20 = .ok (.if_icmp .ne (25), 3) := by decide +kernel
theorem d_R_held_23 : decode b_R_held 23 = .ok (.iload 4, 2) := by decide +kernel
theorem d_R_held_25 : decode b_R_held 25 = .ok (.aload_n 0, 1) := by decide +kernel
theorem d_R_held_26 : decode b_R_held 26 = .ok (.getfield 34, 3) := by decide +kernel
theorem d_R_held_29 : decode b_R_held 29 = .ok (.bipush (54), 2) := by decide +kernel
theorem d_R_held_31 : decode b_R_held 31 = .ok (.iload_n 1, 1) := by decide +kernel
theorem d_R_held_32 : decode b_R_held 32 = .ok (.imul, 1) := by decide +kernel
theorem d_R_held_33 : decode b_R_held 33 = .ok (.iconst 2, 1) := by decide +kernel
theorem d_R_held_34 : decode b_R_held 34 = .ok (.iload 5, 2) := by decide +kernel
theorem d_R_held_36 : decode b_R_held 36 = .ok (.imul, 1) := by decide +kernel
theorem d_R_held_37 : decode b_R_held 37 = .ok (.iadd, 1) := by decide +kernel
theorem d_R_held_38 : decode b_R_held 38 = .ok (.iload_n 3, 1) := by decide +kernel
theorem d_R_held_39 : decode b_R_held 39 = .ok (.iadd, 1) := by decide +kernel
theorem d_R_held_40 : decode b_R_held 40 = .ok (.iaload, 1) := by decide +kernel
theorem d_R_held_41 : decode b_R_held 41 = .ok (.ior, 1) := by decide +kernel
theorem d_R_held_42 : decode b_R_held 42 = .ok (.goto (5), 3) := by decide +kernel
theorem d_R_held_45 : decode b_R_held 45 = .ok (.iload 4, 2) := by decide +kernel
theorem d_R_held_47 : decode b_R_held 47 = .ok (.istore 4, 2) := by decide +kernel
theorem d_R_held_49 : decode b_R_held 49 = .ok (.iinc 5 (1), 3) := by decide +kernel
theorem d_R_held_52 : decode b_R_held 52 = .ok (.goto (-46), 3) := by decide +kernel
theorem d_R_held_55 : decode b_R_held 55 = .ok (.iload 4, 2) := by decide +kernel
theorem d_R_held_57 : decode b_R_held 57 = .ok (.ireturn, 1) := by decide +kernel
theorem d_R_calls_0 : decode b_R_calls 0 = .ok (.aload_n 0, 1) := by decide +kernel
theorem d_R_calls_1 : decode b_R_calls 1 = .ok (.getfield 28, 3) := by decide +kernel
theorem d_R_calls_4 : decode b_R_calls 4 = .ok (.bipush (24), 2) := by decide +kernel
theorem d_R_calls_6 : decode b_R_calls 6 = .ok (.iload_n 1, 1) := by decide +kernel
theorem d_R_calls_7 : decode b_R_calls 7 = .ok (.imul, 1) := by decide +kernel
theorem d_R_calls_8 : decode b_R_calls 8 = .ok (.iload_n 2, 1) := by decide +kernel
theorem d_R_calls_9 : decode b_R_calls 9 = .ok (.iadd, 1) := by decide +kernel
theorem d_R_calls_10 : decode b_R_calls 10 = .ok (.iaload, 1) := by decide +kernel
theorem d_R_calls_11 : decode b_R_calls 11 = .ok (.istore_n 3, 1) := by decide +kernel
theorem d_R_calls_12 : decode b_R_calls 12 = .ok (.iconst 4, 1) := by decide +kernel
theorem d_R_calls_13 : decode b_R_calls 13 = .ok (.iload_n 1, 1) := by decide +kernel
theorem d_R_calls_14 : decode b_R_calls 14 = .ok (.imul, 1) := by decide +kernel
theorem d_R_calls_15 : decode b_R_calls 15 = .ok (.aload_n 0, 1) := by decide +kernel
theorem d_R_calls_16 : decode b_R_calls 16 = .ok (.getfield 19, 3) := by decide +kernel
theorem d_R_calls_19 : decode b_R_calls 19 = .ok (.bipush (24), 2) := by decide +kernel
theorem d_R_calls_21 : decode b_R_calls 21 = .ok (.iload_n 1, 1) := by decide +kernel
theorem d_R_calls_22 : decode b_R_calls 22 = .ok (.imul, 1) := by decide +kernel
theorem d_R_calls_23 : decode b_R_calls 23 = .ok (.iload_n 2, 1) := by decide +kernel
theorem d_R_calls_24 : decode b_R_calls 24 = .ok (.iadd, 1) := by decide +kernel
theorem d_R_calls_25 : decode b_R_calls 25 = .ok (.iaload, 1) := by decide +kernel
theorem d_R_calls_26 : decode b_R_calls 26 = .ok (.iadd, 1) := by decide +kernel
theorem d_R_calls_27 : decode b_R_calls 27 = .ok (.istore 4, 2) := by decide +kernel
theorem d_R_calls_29 : decode b_R_calls 29 = .ok (.iconst 0, 1) := by decide +kernel
theorem d_R_calls_30 : decode b_R_calls 30 = .ok (.istore 5, 2) := by decide +kernel
theorem d_R_calls_32 : decode b_R_calls 32 = .ok (.aload_n 0, 1) := by decide +kernel
theorem d_R_calls_33 : decode b_R_calls 33 = .ok (.iload_n 1, 1) := by decide +kernel
theorem d_R_calls_34 : decode b_R_calls 34 = .ok (.ldc 92, 2) := by decide +kernel
theorem d_R_calls_36 : decode b_R_calls 36 = .ok (.invokevirtual 93, 3) := by decide +kernel
theorem d_R_calls_39 : decode b_R_calls 39 = .ok (.istore 6, 2) := by decide +kernel
theorem d_R_calls_41 : decode b_R_calls 41 = .ok (.aload_n 0, 1) := by decide +kernel
theorem d_R_calls_42 : decode b_R_calls 42 = .ok (.iload_n 1, 1) := by decide +kernel
theorem d_R_calls_43 : decode b_R_calls 43 = .ok (.iload 6, 2) := by decide +kernel
theorem d_R_calls_45 : decode b_R_calls 45 = .ok (.iconst 2, 1) := by decide +kernel
theorem d_R_calls_46 : decode b_R_calls 46 = .ok (.ldc 92, 2) := by decide +kernel
theorem d_R_calls_48 : decode b_R_calls 48 = .ok (.invokevirtual 97, 3) := by decide +kernel
theorem d_R_calls_51 : decode b_R_calls 51 = .ok (.aload_n 0, 1) := by decide +kernel
theorem d_R_calls_52 : decode b_R_calls 52 = .ok (.getfield 31, 3) := by decide +kernel
theorem d_R_calls_55 : decode b_R_calls 55 = .ok (.iload 4, 2) := by decide +kernel
theorem d_R_calls_57 : decode b_R_calls 57 = .ok (.aload_n 0, 1) := by decide +kernel
theorem d_R_calls_58 : decode b_R_calls 58 = .ok (.getfield 31, 3) := by decide +kernel
theorem d_R_calls_61 : decode b_R_calls 61 = .ok (.iload 4, 2) := by decide +kernel
theorem d_R_calls_63 : decode b_R_calls 63 = .ok (.iaload, 1) := by decide +kernel
theorem d_R_calls_64 : decode b_R_calls 64 = .ok (.aload_n 0, 1) := by decide +kernel
theorem d_R_calls_65 : decode b_R_calls 65 = .ok (.iload_n 1, 1) := by decide +kernel
theorem d_R_calls_66 : decode b_R_calls 66 = .ok (.ldc 92, 2) := by decide +kernel
theorem d_R_calls_68 : decode b_R_calls 68 = .ok (.iconst 0, 1) := by decide +kernel
theorem d_R_calls_69 : decode b_R_calls 69 = .ok (.invokevirtual 101, 3) := by decide +kernel
theorem d_R_calls_72 : decode b_R_calls 72 = .ok (.ior, 1) := by decide +kernel
theorem d_R_calls_73 : decode b_R_calls 73 = .ok (.iastore, 1) := by decide +kernel
theorem d_R_calls_74 : decode b_R_calls 74 = .ok (.iconst 0, 1) := by decide +kernel
theorem d_R_calls_75 : decode b_R_calls 75 = .ok (.istore 7, 2) := by decide +kernel
theorem d_R_calls_77 : decode b_R_calls 77 = .ok (.iload 7, 2) := by decide +kernel
theorem d_R_calls_79 : decode b_R_calls 79 = .ok (.aload_n 0, 1) := by decide +kernel
theorem d_R_calls_80 : decode b_R_calls 80 = .ok (.getfield 7, 3) := by decide +kernel
theorem d_R_calls_83 : decode b_R_calls 83 = .ok (.iload_n 3, 1) := by decide +kernel
theorem d_R_calls_84 : decode b_R_calls 84 = .ok (.iaload, 1) := by decide +kernel
theorem d_R_calls_85 : decode b_R_calls 85 = .ok (.if_icmp .ge (131), 3) := by decide +kernel
theorem d_R_calls_88 : decode b_R_calls 88 = .ok (.aload_n 0, 1) := by decide +kernel
theorem d_R_calls_89 : decode b_R_calls 89 = .ok (.getfield 31, 3) := by decide +kernel
theorem d_R_calls_92 : decode b_R_calls 92 = .ok (.iconst 4, 1) := by decide +kernel
theorem d_R_calls_93 : decode b_R_calls 93 = .ok (.iload_n 1, 1) := by decide +kernel
theorem d_R_calls_94 : decode b_R_calls 94 = .ok (.imul, 1) := by decide +kernel
theorem d_R_calls_95 : decode b_R_calls 95 = .ok (.iload 7, 2) := by decide +kernel
theorem d_R_calls_97 : decode b_R_calls 97 = .ok (.ifCond .ne (17), 3) := by decide +kernel
theorem d_R_calls_100 : decode b_R_calls 100 = .ok (.aload_n 0, 1) := by decide +kernel
theorem d_R_calls_101 : decode b_R_calls 101 = .ok (.getfield 22, 3) := by decide +kernel
theorem d_R_calls_104 : decode b_R_calls 104 = .ok (.bipush (24), 2) := by decide +kernel
theorem d_R_calls_106 : decode b_R_calls 106 = .ok (.iload_n 1, 1) := by decide +kernel
theorem d_R_calls_107 : decode b_R_calls 107 = .ok (.imul, 1) := by decide +kernel
theorem d_R_calls_108 : decode b_R_calls 108 = .ok (.iload_n 2, 1) := by decide +kernel
theorem d_R_calls_109 : decode b_R_calls 109 = .ok (.iadd, 1) := by decide +kernel
theorem d_R_calls_110 : decode b_R_calls 110 = .ok (.iaload, 1) := by decide +kernel
theorem d_R_calls_111 : decode b_R_calls 111 = .ok (.goto (14), 3) := by decide +kernel
theorem d_R_calls_114 : decode b_R_calls 114 = .ok (.aload_n 0, 1) := by decide +kernel
theorem d_R_calls_115 : decode b_R_calls 115 = .ok (.getfield 25, 3) := by decide +kernel
theorem d_R_calls_118 : decode b_R_calls 118 = .ok (.bipush (24), 2) := by decide +kernel
theorem d_R_calls_120 : decode b_R_calls 120 = .ok (.iload_n 1, 1) := by decide +kernel
theorem d_R_calls_121 : decode b_R_calls 121 = .ok (.imul, 1) := by decide +kernel
theorem d_R_calls_122 : decode b_R_calls 122 = .ok (.iload_n 2, 1) := by decide +kernel
theorem d_R_calls_123 : decode b_R_calls 123 = .ok (.iadd, 1) := by decide +kernel
theorem d_R_calls_124 : decode b_R_calls 124 = .ok (.iaload, 1) := by decide +kernel
theorem d_R_calls_125 : decode b_R_calls 125 = .ok (.iadd, 1) := by decide +kernel
theorem d_R_calls_126 : decode b_R_calls 126 = .ok (.iaload, 1) := by decide +kernel
theorem d_R_calls_127 : decode b_R_calls 127 = .ok (.istore 8, 2) := by decide +kernel
theorem d_R_calls_129 : decode b_R_calls 129 = .ok (.aload_n 0, 1) := by decide +kernel
theorem d_R_calls_130 : decode b_R_calls 130 = .ok (.iload_n 1, 1) := by decide +kernel
theorem d_R_calls_131 : decode b_R_calls 131 = .ok (.iload 8, 2) := by decide +kernel
theorem d_R_calls_133 : decode b_R_calls 133 = .ok (.invokevirtual 93, 3) := by decide +kernel
theorem d_R_calls_136 : decode b_R_calls 136 = .ok (.istore 9, 2) := by decide +kernel
theorem d_R_calls_138 : decode b_R_calls 138 = .ok (.aload_n 0, 1) := by decide +kernel
theorem d_R_calls_139 : decode b_R_calls 139 = .ok (.iload_n 1, 1) := by decide +kernel
theorem d_R_calls_140 : decode b_R_calls 140 = .ok (.iload_n 3, 1) := by decide +kernel
theorem d_R_calls_141 : decode b_R_calls 141 = .ok (.iload 7, 2) := by decide +kernel
theorem d_R_calls_143 : decode b_R_calls 143 = .ok (.invokevirtual 105, 3) := by decide +kernel
theorem d_R_calls_146 : decode b_R_calls 146 = .ok (.iconst 2, 1) := by decide +kernel
theorem d_R_calls_147 : decode b_R_calls 147 = .ok (.if_icmp .eq (26), 3) := by decide +kernel
theorem d_R_calls_150 : decode b_R_calls 150 = .ok (.aload_n 0, 1) := by decide +kernel
theorem d_R_calls_151 : decode b_R_calls 151 = .ok (.iload_n 3, 1) := by decide +kernel
theorem d_R_calls_152 : decode b_R_calls 152 = .ok (.iconst 1, 1) := by decide +kernel
theorem d_R_calls_153 : decode b_R_calls 153 = .ok (.bipush (24), 2) := by decide +kernel
theorem d_R_calls_155 : decode b_R_calls 155 = .ok (.iload 7, 2) := by decide +kernel
theorem d_R_calls_157 : decode b_R_calls 157 = .ok (.iadd, 1) := by decide +kernel
theorem d_R_calls_158 : decode b_R_calls 158 = .ok (.ishl, 1) := by decide +kernel
theorem d_R_calls_159 : decode b_R_calls 159 = .ok (.invokevirtual 93, 3) := by decide +kernel
theorem d_R_calls_162 : decode b_R_calls 162 = .ok (.aload_n 0, 1) := by decide +kernel
theorem d_R_calls_163 : decode b_R_calls 163 = .ok (.iload_n 3, 1) := by decide +kernel
theorem d_R_calls_164 : decode b_R_calls 164 = .ok (.ldc 92, 2) := by decide +kernel
theorem d_R_calls_166 : decode b_R_calls 166 = .ok (.invokevirtual 93, 3) := by decide +kernel
theorem d_R_calls_169 : decode b_R_calls 169 = .ok (.iand, 1) := by decide +kernel
theorem d_R_calls_170 : decode b_R_calls 170 = .ok (.ifCond .eq (7), 3) := by decide +kernel
theorem d_R_calls_173 : decode b_R_calls 173 = .ok (.iconst 1, 1) := by decide +kernel
theorem d_R_calls_174 : decode b_R_calls 174 = .ok (.goto (4), 3) := by decide +kernel
theorem d_R_calls_177 : decode b_R_calls 177 = .ok (.iconst 0, 1) := by decide +kernel
theorem d_R_calls_178 : decode b_R_calls 178 = .ok (.istore 10, 2) := by decide +kernel
theorem d_R_calls_180 : decode b_R_calls 180 = .ok (.aload_n 0, 1) := by decide +kernel
theorem d_R_calls_181 : decode b_R_calls 181 = .ok (.iload_n 1, 1) := by decide +kernel
theorem d_R_calls_182 : decode b_R_calls 182 = .ok (.iload 9, 2) := by decide +kernel
theorem d_R_calls_184 : decode b_R_calls 184 = .ok (.iconst 2, 1) := by decide +kernel
theorem d_R_calls_185 : decode b_R_calls 185 = .ok (.iload 10, 2) := by decide +kernel
theorem d_R_calls_187 : decode b_R_calls 187 = .ok (.ifCond .eq (11), 3) := by decide +kernel
theorem d_R_calls_190 : decode b_R_calls 190 = .ok (.iload 9, 2) := by decide +kernel
theorem d_R_calls_192 : decode b_R_calls 192 = .ok (.ldc 92, 2) := by decide +kernel
theorem d_R_calls_194 : decode b_R_calls 194 = .ok (.ior, 1) := by decide +kernel
theorem d_R_calls_195 : decode b_R_calls 195 = .ok (.goto (5), 3) := by decide +kernel
theorem d_R_calls_198 : decode b_R_calls 198 = .ok (.iload 9, 2) := by decide +kernel
theorem d_R_calls_200 : decode b_R_calls 200 = .ok (.invokevirtual 97, 3) := by decide +kernel
theorem d_R_calls_203 : decode b_R_calls 203 = .ok (.iload 5, 2) := by decide +kernel
theorem d_R_calls_205 : decode b_R_calls 205 = .ok (.iload 8, 2) := by decide +kernel
theorem d_R_calls_207 : decode b_R_calls 207 = .ok (.ior, 1) := by decide +kernel
theorem d_R_calls_208 : decode b_R_calls 208 = .ok (.istore 5, 2) := by decide +kernel
theorem d_R_calls_210 : decode b_R_calls 210 = .ok (.iinc 7 (1), 3) := by decide +kernel
theorem d_R_calls_213 : decode b_R_calls 213 = .ok (.goto (-136), 3) := by decide +kernel
theorem d_R_calls_216 : decode b_R_calls 216 = .ok (.iconst 0, 1) := by decide +kernel
theorem d_R_calls_217 : decode b_R_calls 217 = .ok (.istore 7, 2) := by decide +kernel
theorem d_R_calls_219 : decode b_R_calls 219 = .ok (.iload 7, 2) := by decide +kernel
theorem d_R_calls_221 : decode b_R_calls 221 = .ok (.aload_n 0, 1) := by decide +kernel
theorem d_R_calls_222 : decode b_R_calls 222 = .ok (.getfield 7, 3) := by decide +kernel
theorem d_R_calls_225 : decode b_R_calls 225 = .ok (.iload_n 3, 1) := by decide +kernel
theorem d_R_calls_226 : decode b_R_calls 226 = .ok (.iaload, 1) := by decide +kernel
theorem d_R_calls_227 : decode b_R_calls 227 = .ok (.if_icmp .ge (121), 3) := by decide +kernel
theorem d_R_calls_230 : decode b_R_calls 230 = .ok (.aload_n 0, 1) := by decide +kernel
theorem d_R_calls_231 : decode b_R_calls 231 = .ok (.getfield 31, 3) := by decide +kernel
theorem d_R_calls_234 : decode b_R_calls 234 = .ok (.iconst 4, 1) := by decide +kernel
theorem d_R_calls_235 : decode b_R_calls 235 = .ok (.iload_n 1, 1) := by decide +kernel
theorem d_R_calls_236 : decode b_R_calls 236 = .ok (.imul, 1) := by decide +kernel
theorem d_R_calls_237 : decode b_R_calls 237 = .ok (.iload 7, 2) := by decide +kernel
theorem d_R_calls_239 : decode b_R_calls 239 = .ok (.ifCond .ne (17), 3) := by decide +kernel
theorem d_R_calls_242 : decode b_R_calls 242 = .ok (.aload_n 0, 1) := by decide +kernel
theorem d_R_calls_243 : decode b_R_calls 243 = .ok (.getfield 22, 3) := by decide +kernel
theorem d_R_calls_246 : decode b_R_calls 246 = .ok (.bipush (24), 2) := by decide +kernel
theorem d_R_calls_248 : decode b_R_calls 248 = .ok (.iload_n 1, 1) := by decide +kernel
theorem d_R_calls_249 : decode b_R_calls 249 = .ok (.imul, 1) := by decide +kernel
theorem d_R_calls_250 : decode b_R_calls 250 = .ok (.iload_n 2, 1) := by decide +kernel
theorem d_R_calls_251 : decode b_R_calls 251 = .ok (.iadd, 1) := by decide +kernel
theorem d_R_calls_252 : decode b_R_calls 252 = .ok (.iaload, 1) := by decide +kernel
theorem d_R_calls_253 : decode b_R_calls 253 = .ok (.goto (14), 3) := by decide +kernel
theorem d_R_calls_256 : decode b_R_calls 256 = .ok (.aload_n 0, 1) := by decide +kernel
theorem d_R_calls_257 : decode b_R_calls 257 = .ok (.getfield 25, 3) := by decide +kernel
theorem d_R_calls_260 : decode b_R_calls 260 = .ok (.bipush (24), 2) := by decide +kernel
theorem d_R_calls_262 : decode b_R_calls 262 = .ok (.iload_n 1, 1) := by decide +kernel
theorem d_R_calls_263 : decode b_R_calls 263 = .ok (.imul, 1) := by decide +kernel
theorem d_R_calls_264 : decode b_R_calls 264 = .ok (.iload_n 2, 1) := by decide +kernel
theorem d_R_calls_265 : decode b_R_calls 265 = .ok (.iadd, 1) := by decide +kernel
theorem d_R_calls_266 : decode b_R_calls 266 = .ok (.iaload, 1) := by decide +kernel
theorem d_R_calls_267 : decode b_R_calls 267 = .ok (.iadd, 1) := by decide +kernel
theorem d_R_calls_268 : decode b_R_calls 268 = .ok (.iaload, 1) := by decide +kernel
theorem d_R_calls_269 : decode b_R_calls 269 = .ok (.istore 8, 2) := by decide +kernel
theorem d_R_calls_271 : decode b_R_calls 271 = .ok (.aload_n 0, 1) := by decide +kernel
theorem d_R_calls_272 : decode b_R_calls 272 = .ok (.iload_n 1, 1) := by decide +kernel
theorem d_R_calls_273 : decode b_R_calls 273 = .ok (.iload_n 3, 1) := by decide +kernel
theorem d_R_calls_274 : decode b_R_calls 274 = .ok (.iload 7, 2) := by decide +kernel
theorem d_R_calls_276 : decode b_R_calls 276 = .ok (.invokevirtual 105, 3) := by decide +kernel
theorem d_R_calls_279 : decode b_R_calls 279 = .ok (.istore 9, 2) := by decide +kernel
theorem d_R_calls_281 : decode b_R_calls 281 = .ok (.iload 9, 2) := by decide +kernel
theorem d_R_calls_283 : decode b_R_calls 283 = .ok (.iconst 2, 1) := by decide +kernel
theorem d_R_calls_284 : decode b_R_calls 284 = .ok (.if_icmp .ne (16), 3) := by decide +kernel
theorem d_R_calls_287 : decode b_R_calls 287 = .ok (.aload_n 0, 1) := by decide +kernel
theorem d_R_calls_288 : decode b_R_calls 288 = .ok (.iload_n 1, 1) := by decide +kernel
theorem d_R_calls_289 : decode b_R_calls 289 = .ok (.ldc 92, 2) := by decide +kernel
theorem d_R_calls_291 : decode b_R_calls 291 = .ok (.iconst 2, 1) := by decide +kernel
theorem d_R_calls_292 : decode b_R_calls 292 = .ok (.iload 8, 2) := by decide +kernel
theorem d_R_calls_294 : decode b_R_calls 294 = .ok (.invokevirtual 97, 3) := by decide +kernel
theorem d_R_calls_297 : decode b_R_calls 297 = .ok (.goto (45), 3) := by decide +kernel
theorem d_R_calls_300 : decode b_R_calls 300 = .ok (.iload 9, 2) := by decide +kernel
theorem d_R_calls_302 : decode b_R_calls 302 = .ok (.iconst 1, 1) := by decide +kernel
theorem d_R_calls_303 : decode b_R_calls 303 = .ok (.if_icmp .ne (39), 3) := by decide +kernel
theorem d_R_calls_306 : decode b_R_calls 306 = .ok (.aload_n 0, 1) := by decide +kernel
theorem d_R_calls_307 : decode b_R_calls 307 = .ok (.iload_n 1, 1) := by decide +kernel
theorem d_R_calls_308 : decode b_R_calls 308 = .ok (.iload 5, 2) := by decide +kernel
theorem d_R_calls_310 : decode b_R_calls 310 = .ok (.invokevirtual 93, 3) := by decide +kernel
theorem d_R_calls_313 : decode b_R_calls 313 = .ok (.istore 10, 2) := by decide +kernel
theorem d_R_calls_315 : decode b_R_calls 315 = .ok (.aload_n 0, 1) := by decide +kernel
theorem d_R_calls_316 : decode b_R_calls 316 = .ok (.iload_n 1, 1) := by decide +kernel
theorem d_R_calls_317 : decode b_R_calls 317 = .ok (.iload 10, 2) := by decide +kernel
theorem d_R_calls_319 : decode b_R_calls 319 = .ok (.iconst 2, 1) := by decide +kernel
theorem d_R_calls_320 : decode b_R_calls 320 = .ok (.iload 10, 2) := by decide +kernel
theorem d_R_calls_322 : decode b_R_calls 322 = .ok (.invokevirtual 97, 3) := by decide +kernel
theorem d_R_calls_325 : decode b_R_calls 325 = .ok (.aload_n 0, 1) := by decide +kernel
theorem d_R_calls_326 : decode b_R_calls 326 = .ok (.getfield 31, 3) := by decide +kernel
theorem d_R_calls_329 : decode b_R_calls 329 = .ok (.iload 4, 2) := by decide +kernel
theorem d_R_calls_331 : decode b_R_calls 331 = .ok (.aload_n 0, 1) := by decide +kernel
theorem d_R_calls_332 : decode b_R_calls 332 = .ok (.getfield 31, 3) := by decide +kernel
theorem d_R_calls_335 : decode b_R_calls 335 = .ok (.iload 4, 2) := by decide +kernel
theorem d_R_calls_337 : decode b_R_calls 337 = .ok (.iaload, 1) := by decide +kernel
theorem d_R_calls_338 : decode b_R_calls 338 = .ok (.iload 10, 2) := by decide +kernel
theorem d_R_calls_340 : decode b_R_calls 340 = .ok (.ior, 1) := by decide +kernel
theorem d_R_calls_341 : decode b_R_calls 341 = .ok (.iastore, 1) := by decide +kernel
theorem d_R_calls_342 : decode b_R_calls 342 = .ok (.iinc 7 (1), 3) := by decide +kernel
theorem d_R_calls_345 : decode b_R_calls 345 = .ok (.goto (-126), 3) := by decide +kernel
theorem d_R_calls_348 : decode b_R_calls 348 = .ok (.return_, 1) := by decide +kernel
theorem d_R_reached_0 : decode b_R_reached 0 = .ok (.iload_n 2, 1) := by decide +kernel
theorem d_R_reached_1 : decode b_R_reached 1 = .ok (.istore_n 3, 1) := by decide +kernel
theorem d_R_reached_2 : decode b_R_reached 2 = .ok (.iconst 0, 1) := by decide +kernel
theorem d_R_reached_3 : decode b_R_reached 3 = .ok (.istore 4, 2) := by decide +kernel
theorem d_R_reached_5 : decode b_R_reached 5 = .ok (.iload 4, 2) := by decide +kernel
theorem d_R_reached_7 : decode b_R_reached 7 = .ok (.bipush (28), 2) := by decide +kernel
theorem d_R_reached_9 : decode b_R_reached 9 = .ok (.if_icmp .ge (69), 3) := by decide +kernel
theorem d_R_reached_12 : decode b_R_reached 12 = .ok (.iconst 0, 1) := by decide +kernel
theorem d_R_reached_13 : decode b_R_reached 13 = .ok (.istore 5, 2) := by decide +kernel
theorem d_R_reached_15 : decode b_R_reached 15 = .ok (.iload 5, 2) := by decide +kernel
theorem d_R_reached_17 : decode b_R_reached 17 = .ok (.bipush (27), 2) := by decide +kernel
theorem d_R_reached_19 : decode b_R_reached 19 = .ok (.if_icmp .ge (53), 3) := by decide +kernel
theorem d_R_reached_22 : decode b_R_reached 22 = .ok (.iload_n 3, 1) := by decide +kernel
theorem d_R_reached_23 : decode b_R_reached 23 = .ok (.iload 5, 2) := by decide +kernel
theorem d_R_reached_25 : decode b_R_reached 25 = .ok (.ishr, 1) := by decide +kernel
theorem d_R_reached_26 : decode b_R_reached 26 = .ok (.iconst 1, 1) := by decide +kernel
theorem d_R_reached_27 : decode b_R_reached 27 = .ok (.iand, 1) := by decide +kernel
theorem d_R_reached_28 : decode b_R_reached 28 = .ok (.iconst 1, 1) := by decide +kernel
theorem d_R_reached_29 : decode b_R_reached 29 = .ok (.if_icmp .ne (37), 3) := by decide +kernel
theorem d_R_reached_32 : decode b_R_reached 32 = .ok (.iload_n 3, 1) := by decide +kernel
theorem d_R_reached_33 : decode b_R_reached 33 = .ok (.aload_n 0, 1) := by decide +kernel
theorem d_R_reached_34 : decode b_R_reached 34 = .ok (.getfield 34, 3) := by decide +kernel
theorem d_R_reached_37 : decode b_R_reached 37 = .ok (.bipush (54), 2) := by decide +kernel
theorem d_R_reached_39 : decode b_R_reached 39 = .ok (.iload_n 1, 1) := by decide +kernel
theorem d_R_reached_40 : decode b_R_reached 40 = .ok (.imul, 1) := by decide +kernel
theorem d_R_reached_41 : decode b_R_reached 41 = .ok (.iconst 2, 1) := by decide +kernel
theorem d_R_reached_42 : decode b_R_reached 42 = .ok (.iload 5, 2) := by decide +kernel
theorem d_R_reached_44 : decode b_R_reached 44 = .ok (.imul, 1) := by decide +kernel
theorem d_R_reached_45 : decode b_R_reached 45 = .ok (.iadd, 1) := by decide +kernel
theorem d_R_reached_46 : decode b_R_reached 46 = .ok (.iaload, 1) := by decide +kernel
theorem d_R_reached_47 : decode b_R_reached 47 = .ok (.ior, 1) := by decide +kernel
theorem d_R_reached_48 : decode b_R_reached 48 = .ok (.aload_n 0, 1) := by decide +kernel
theorem d_R_reached_49 : decode b_R_reached 49 = .ok (.getfield 34, 3) := by decide +kernel
theorem d_R_reached_52 : decode b_R_reached 52 = .ok (.bipush (54), 2) := by decide +kernel
theorem d_R_reached_54 : decode b_R_reached 54 = .ok (.iload_n 1, 1) := by decide +kernel
theorem d_R_reached_55 : decode b_R_reached 55 = .ok (.imul, 1) := by decide +kernel
theorem d_R_reached_56 : decode b_R_reached 56 = .ok (.iconst 2, 1) := by decide +kernel
theorem d_R_reached_57 : decode b_R_reached 57 = .ok (.iload 5, 2) := by decide +kernel
theorem d_R_reached_59 : decode b_R_reached 59 = .ok (.imul, 1) := by decide +kernel
theorem d_R_reached_60 : decode b_R_reached 60 = .ok (.iadd, 1) := by decide +kernel
theorem d_R_reached_61 : decode b_R_reached 61 = .ok (.iconst 1, 1) := by decide +kernel
theorem d_R_reached_62 : decode b_R_reached 62 = .ok (.iadd, 1) := by decide +kernel
theorem d_R_reached_63 : decode b_R_reached 63 = .ok (.iaload, 1) := by decide +kernel
theorem d_R_reached_64 : decode b_R_reached 64 = .ok (.ior, 1) := by decide +kernel
theorem d_R_reached_65 : decode b_R_reached 65 = .ok (.istore_n 3, 1) := by decide +kernel
theorem d_R_reached_66 : decode b_R_reached 66 = .ok (.iinc 5 (1), 3) := by decide +kernel
theorem d_R_reached_69 : decode b_R_reached 69 = .ok (.goto (-54), 3) := by decide +kernel
theorem d_R_reached_72 : decode b_R_reached 72 = .ok (.iinc 4 (1), 3) := by decide +kernel
theorem d_R_reached_75 : decode b_R_reached 75 = .ok (.goto (-70), 3) := by decide +kernel
theorem d_R_reached_78 : decode b_R_reached 78 = .ok (.iload_n 3, 1) := by decide +kernel
theorem d_R_reached_79 : decode b_R_reached 79 = .ok (.ireturn, 1) := by decide +kernel
theorem d_R_stateOf_0 : decode b_R_stateOf 0 = .ok (.iload_n 2, 1) := by decide +kernel
theorem d_R_stateOf_1 : decode b_R_stateOf 1 = .ok (.iload_n 1, 1) := by decide +kernel
theorem d_R_stateOf_2 : decode b_R_stateOf 2 = .ok (.if_icmp .le (12), 3) := by decide +kernel
theorem d_R_stateOf_5 : decode b_R_stateOf 5 = .ok (.aload_n 0, 1) := by decide +kernel
theorem d_R_stateOf_6 : decode b_R_stateOf 6 = .ok (.getfield 13, 3) := by decide +kernel
theorem d_R_stateOf_9 : decode b_R_stateOf 9 = .ok (.iload_n 2, 1) := by decide +kernel
theorem d_R_stateOf_10 : decode b_R_stateOf 10 = .ok (.iaload, 1) := by decide +kernel
theorem d_R_stateOf_11 : decode b_R_stateOf 11 = .ok (.ifCond .ne (7), 3) := by decide +kernel
theorem d_R_stateOf_14 : decode b_R_stateOf 14 = .ok (.iconst 2, 1) := by decide +kernel
theorem d_R_stateOf_15 : decode b_R_stateOf 15 = .ok (.goto (13), 3) := by decide +kernel
theorem d_R_stateOf_18 : decode b_R_stateOf 18 = .ok (.aload_n 0, 1) := by decide +kernel
theorem d_R_stateOf_19 : decode b_R_stateOf 19 = .ok (.getfield 40, 3) := by decide +kernel
theorem d_R_stateOf_22 : decode b_R_stateOf 22 = .ok (.iconst 2, 1) := by decide +kernel
theorem d_R_stateOf_23 : decode b_R_stateOf 23 = .ok (.iload_n 2, 1) := by decide +kernel
theorem d_R_stateOf_24 : decode b_R_stateOf 24 = .ok (.imul, 1) := by decide +kernel
theorem d_R_stateOf_25 : decode b_R_stateOf 25 = .ok (.iload_n 3, 1) := by decide +kernel
theorem d_R_stateOf_26 : decode b_R_stateOf 26 = .ok (.iadd, 1) := by decide +kernel
theorem d_R_stateOf_27 : decode b_R_stateOf 27 = .ok (.iaload, 1) := by decide +kernel
theorem d_R_stateOf_28 : decode b_R_stateOf 28 = .ok (.ireturn, 1) := by decide +kernel
theorem d_R_fateOf_0 : decode b_R_fateOf 0 = .ok (.bipush (24), 2) := by decide +kernel
theorem d_R_fateOf_2 : decode b_R_fateOf 2 = .ok (.iload_n 1, 1) := by decide +kernel
theorem d_R_fateOf_3 : decode b_R_fateOf 3 = .ok (.imul, 1) := by decide +kernel
theorem d_R_fateOf_4 : decode b_R_fateOf 4 = .ok (.iload_n 2, 1) := by decide +kernel
theorem d_R_fateOf_5 : decode b_R_fateOf 5 = .ok (.iadd, 1) := by decide +kernel
theorem d_R_fateOf_6 : decode b_R_fateOf 6 = .ok (.istore_n 3, 1) := by decide +kernel
theorem d_R_fateOf_7 : decode b_R_fateOf 7 = .ok (.iconst 0, 1) := by decide +kernel
theorem d_R_fateOf_8 : decode b_R_fateOf 8 = .ok (.istore 4, 2) := by decide +kernel
theorem d_R_fateOf_10 : decode b_R_fateOf 10 = .ok (.iload 4, 2) := by decide +kernel
theorem d_R_fateOf_12 : decode b_R_fateOf 12 = .ok (.iconst 4, 1) := by decide +kernel
theorem d_R_fateOf_13 : decode b_R_fateOf 13 = .ok (.if_icmp .ge (64), 3) := by decide +kernel
theorem d_R_fateOf_16 : decode b_R_fateOf 16 = .ok (.aload_n 0, 1) := by decide +kernel
theorem d_R_fateOf_17 : decode b_R_fateOf 17 = .ok (.getfield 16, 3) := by decide +kernel
theorem d_R_fateOf_20 : decode b_R_fateOf 20 = .ok (.iload_n 3, 1) := by decide +kernel
theorem d_R_fateOf_21 : decode b_R_fateOf 21 = .ok (.iaload, 1) := by decide +kernel
theorem d_R_fateOf_22 : decode b_R_fateOf 22 = .ok (.ifCond .ne (22), 3) := by decide +kernel
theorem d_R_fateOf_25 : decode b_R_fateOf 25 = .ok (.aload_n 0, 1) := by decide +kernel
theorem d_R_fateOf_26 : decode b_R_fateOf 26 = .ok (.getfield 19, 3) := by decide +kernel
theorem d_R_fateOf_29 : decode b_R_fateOf 29 = .ok (.iload_n 3, 1) := by decide +kernel
theorem d_R_fateOf_30 : decode b_R_fateOf 30 = .ok (.iaload, 1) := by decide +kernel
theorem d_R_fateOf_31 : decode b_R_fateOf 31 = .ok (.iload 4, 2) := by decide +kernel
theorem d_R_fateOf_33 : decode b_R_fateOf 33 = .ok (.if_icmp .ne (7), 3) := by decide +kernel
theorem d_R_fateOf_36 : decode b_R_fateOf 36 = .ok (.iconst 1, 1) := by decide +kernel
theorem d_R_fateOf_37 : decode b_R_fateOf 37 = .ok (.goto (15), 3) := by decide +kernel
theorem d_R_fateOf_40 : decode b_R_fateOf 40 = .ok (.iconst 0, 1) := by decide +kernel
theorem d_R_fateOf_41 : decode b_R_fateOf 41 = .ok (.goto (11), 3) := by decide +kernel
theorem d_R_fateOf_44 : decode b_R_fateOf 44 = .ok (.aload_n 0, 1) := by decide +kernel
theorem d_R_fateOf_45 : decode b_R_fateOf 45 = .ok (.iload_n 1, 1) := by decide +kernel
theorem d_R_fateOf_46 : decode b_R_fateOf 46 = .ok (.iload_n 2, 1) := by decide +kernel
theorem d_R_fateOf_47 : decode b_R_fateOf 47 = .ok (.iload 4, 2) := by decide +kernel
theorem d_R_fateOf_49 : decode b_R_fateOf 49 = .ok (.invokevirtual 138, 3) := by decide +kernel
theorem d_R_fateOf_52 : decode b_R_fateOf 52 = .ok (.istore 5, 2) := by decide +kernel
theorem d_R_fateOf_54 : decode b_R_fateOf 54 = .ok (.iload 5, 2) := by decide +kernel
theorem d_R_fateOf_56 : decode b_R_fateOf 56 = .ok (.ifCond .eq (15), 3) := by decide +kernel
theorem d_R_fateOf_59 : decode b_R_fateOf 59 = .ok (.aload_n 0, 1) := by decide +kernel
theorem d_R_fateOf_60 : decode b_R_fateOf 60 = .ok (.iload_n 1, 1) := by decide +kernel
theorem d_R_fateOf_61 : decode b_R_fateOf 61 = .ok (.iload 4, 2) := by decide +kernel
theorem d_R_fateOf_63 : decode b_R_fateOf 63 = .ok (.invokevirtual 148, 3) := by decide +kernel
theorem d_R_fateOf_66 : decode b_R_fateOf 66 = .ok (.ifCond .eq (5), 3) := by decide +kernel
theorem d_R_fateOf_69 : decode b_R_fateOf 69 = .ok (.iconst 1, 1) := by decide +kernel
theorem d_R_fateOf_70 : decode b_R_fateOf 70 = .ok (.ireturn, 1) := by decide +kernel
theorem d_R_fateOf_71 : decode b_R_fateOf 71 = .ok (.iinc 4 (1), 3) := by decide +kernel
theorem d_R_fateOf_74 : decode b_R_fateOf 74 = .ok (.goto (-64), 3) := by decide +kernel
theorem d_R_fateOf_77 : decode b_R_fateOf 77 = .ok (.iconst 0, 1) := by decide +kernel
theorem d_R_fateOf_78 : decode b_R_fateOf 78 = .ok (.istore 4, 2) := by decide +kernel
theorem d_R_fateOf_80 : decode b_R_fateOf 80 = .ok (.iload 4, 2) := by decide +kernel
theorem d_R_fateOf_82 : decode b_R_fateOf 82 = .ok (.aload_n 0, 1) := by decide +kernel
theorem d_R_fateOf_83 : decode b_R_fateOf 83 = .ok (.getfield 13, 3) := by decide +kernel
theorem d_R_fateOf_86 : decode b_R_fateOf 86 = .ok (.iload_n 1, 1) := by decide +kernel
theorem d_R_fateOf_87 : decode b_R_fateOf 87 = .ok (.iaload, 1) := by decide +kernel
theorem d_R_fateOf_88 : decode b_R_fateOf 88 = .ok (.if_icmp .ge (57), 3) := by decide +kernel
theorem d_R_fateOf_91 : decode b_R_fateOf 91 = .ok (.iload 4, 2) := by decide +kernel
theorem d_R_fateOf_93 : decode b_R_fateOf 93 = .ok (.iload_n 2, 1) := by decide +kernel
theorem d_R_fateOf_94 : decode b_R_fateOf 94 = .ok (.if_icmp .le (14), 3) := by decide +kernel
theorem d_R_fateOf_97 : decode b_R_fateOf 97 = .ok (.aload_n 0, 1) := by decide +kernel
theorem d_R_fateOf_98 : decode b_R_fateOf 98 = .ok (.iload_n 1, 1) := by decide +kernel
theorem d_R_fateOf_99 : decode b_R_fateOf 99 = .ok (.iload_n 2, 1) := by decide +kernel
theorem d_R_fateOf_100 : decode b_R_fateOf 100 = .ok (.iload 4, 2) := by decide +kernel
theorem d_R_fateOf_102 : decode b_R_fateOf 102 = .ok (.invokevirtual 154, 3) := by decide +kernel
theorem d_R_fateOf_105 : decode b_R_fateOf 105 = .ok (.ifCond .ne (20), 3) := by decide +kernel
theorem d_R_fateOf_108 : decode b_R_fateOf 108 = .ok (.iload 4, 2) := by decide +kernel
theorem d_R_fateOf_110 : decode b_R_fateOf 110 = .ok (.iload_n 2, 1) := by decide +kernel
theorem d_R_fateOf_111 : decode b_R_fateOf 111 = .ok (.if_icmp .ge (18), 3) := by decide +kernel
theorem d_R_fateOf_114 : decode b_R_fateOf 114 = .ok (.aload_n 0, 1) := by decide +kernel
theorem d_R_fateOf_115 : decode b_R_fateOf 115 = .ok (.iload_n 1, 1) := by decide +kernel
theorem d_R_fateOf_116 : decode b_R_fateOf 116 = .ok (.iload 4, 2) := by decide +kernel
theorem d_R_fateOf_118 : decode b_R_fateOf 118 = .ok (.iload_n 2, 1) := by decide +kernel
theorem d_R_fateOf_119 : decode b_R_fateOf 119 = .ok (.invokevirtual 154, 3) := by decide +kernel
theorem d_R_fateOf_122 : decode b_R_fateOf 122 = .ok (.ifCond .eq (7), 3) := by decide +kernel
theorem d_R_fateOf_125 : decode b_R_fateOf 125 = .ok (.iconst 1, 1) := by decide +kernel
theorem d_R_fateOf_126 : decode b_R_fateOf 126 = .ok (.goto (4), 3) := by decide +kernel
theorem d_R_fateOf_129 : decode b_R_fateOf 129 = .ok (.iconst 0, 1) := by decide +kernel
theorem d_R_fateOf_130 : decode b_R_fateOf 130 = .ok (.istore 5, 2) := by decide +kernel
theorem d_R_fateOf_132 : decode b_R_fateOf 132 = .ok (.iload 5, 2) := by decide +kernel
theorem d_R_fateOf_134 : decode b_R_fateOf 134 = .ok (.ifCond .eq (5), 3) := by decide +kernel
theorem d_R_fateOf_137 : decode b_R_fateOf 137 = .ok (.iconst 2, 1) := by decide +kernel
theorem d_R_fateOf_138 : decode b_R_fateOf 138 = .ok (.ireturn, 1) := by decide +kernel
theorem d_R_fateOf_139 : decode b_R_fateOf 139 = .ok (.iinc 4 (1), 3) := by decide +kernel
theorem d_R_fateOf_142 : decode b_R_fateOf 142 = .ok (.goto (-62), 3) := by decide +kernel
theorem d_R_fateOf_145 : decode b_R_fateOf 145 = .ok (.iconst 0, 1) := by decide +kernel
theorem d_R_fateOf_146 : decode b_R_fateOf 146 = .ok (.ireturn, 1) := by decide +kernel
theorem d_R_worksOn_0 : decode b_R_worksOn 0 = .ok (.bipush (24), 2) := by decide +kernel
theorem d_R_worksOn_2 : decode b_R_worksOn 2 = .ok (.iload_n 1, 1) := by decide +kernel
theorem d_R_worksOn_3 : decode b_R_worksOn 3 = .ok (.imul, 1) := by decide +kernel
theorem d_R_worksOn_4 : decode b_R_worksOn 4 = .ok (.iload_n 2, 1) := by decide +kernel
theorem d_R_worksOn_5 : decode b_R_worksOn 5 = .ok (.iadd, 1) := by decide +kernel
theorem d_R_worksOn_6 : decode b_R_worksOn 6 = .ok (.istore 4, 2) := by decide +kernel
theorem d_R_worksOn_8 : decode b_R_worksOn 8 = .ok (.aload_n 0, 1) := by decide +kernel
theorem d_R_worksOn_9 : decode b_R_worksOn 9 = .ok (.getfield 16, 3) := by decide +kernel
theorem d_R_worksOn_12 : decode b_R_worksOn 12 = .ok (.iload 4, 2) := by decide +kernel
theorem d_R_worksOn_14 : decode b_R_worksOn 14 = .ok (.iaload, 1) := by decide +kernel
theorem d_R_worksOn_15 : decode b_R_worksOn 15 = .ok (.istore 5, 2) := by decide +kernel
theorem d_R_worksOn_17 : decode b_R_worksOn 17 = .ok (.iload 5, 2) := by decide +kernel
theorem d_R_worksOn_19 : decode b_R_worksOn 19 = .ok (.iconst 3, 1) := by decide +kernel
theorem d_R_worksOn_20 : decode b_R_worksOn 20 = .ok (.if_icmp .eq (16), 3) := by decide +kernel
theorem d_R_worksOn_23 : decode b_R_worksOn 23 = .ok (.iload 5, 2) := by decide +kernel
theorem d_R_worksOn_25 : decode b_R_worksOn 25 = .ok (.iconst 5, 1) := by decide +kernel
theorem d_R_worksOn_26 : decode b_R_worksOn 26 = .ok (.if_icmp .eq (10), 3) := by decide +kernel
theorem d_R_worksOn_29 : decode b_R_worksOn 29 = .ok (.iload 5, 2) := by decide +kernel
theorem d_R_worksOn_31 : decode b_R_worksOn 31 = .ok (.bipush (9), 2) := by decide +kernel
theorem d_R_worksOn_33 : decode b_R_worksOn 33 = .ok (.if_icmp .ne (7), 3) := by decide +kernel
theorem d_R_worksOn_36 : decode b_R_worksOn 36 = .ok (.iconst 1, 1) := by decide +kernel
theorem d_R_worksOn_37 : decode b_R_worksOn 37 = .ok (.goto (4), 3) := by decide +kernel
theorem d_R_worksOn_40 : decode b_R_worksOn 40 = .ok (.iconst 0, 1) := by decide +kernel
theorem d_R_worksOn_41 : decode b_R_worksOn 41 = .ok (.istore 6, 2) := by decide +kernel
theorem d_R_worksOn_43 : decode b_R_worksOn 43 = .ok (.iload 5, 2) := by decide +kernel
theorem d_R_worksOn_45 : decode b_R_worksOn 45 = .ok (.iconst 4, 1) := by decide +kernel
theorem d_R_worksOn_46 : decode b_R_worksOn 46 = .ok (.if_icmp .eq (24), 3) := by decide +kernel
theorem d_R_worksOn_49 : decode b_R_worksOn 49 = .ok (.iload 5, 2) := by decide +kernel
theorem d_R_worksOn_51 : decode b_R_worksOn 51 = .ok (.bipush (6), 2) := by decide +kernel
theorem d_R_worksOn_53 : decode b_R_worksOn 53 = .ok (.if_icmp .eq (17), 3) := by decide +kernel
theorem d_R_worksOn_56 : decode b_R_worksOn 56 = .ok (.iload 5, 2) := by decide +kernel
theorem d_R_worksOn_58 : decode b_R_worksOn 58 = .ok (.bipush (10), 2) := by decide +kernel
theorem d_R_worksOn_60 : decode b_R_worksOn 60 = .ok (.if_icmp .eq (10), 3) := by decide +kernel
theorem d_R_worksOn_63 : decode b_R_worksOn 63 = .ok (.iload 5, 2) := by decide +kernel
theorem d_R_worksOn_65 : decode b_R_worksOn 65 = .ok (.bipush (11), 2) := by decide +kernel
theorem d_R_worksOn_67 : decode b_R_worksOn 67 = .ok (.if_icmp .ne (7), 3) := by decide +kernel
theorem d_R_worksOn_70 : decode b_R_worksOn 70 = .ok (.iconst 1, 1) := by decide +kernel
theorem d_R_worksOn_71 : decode b_R_worksOn 71 = .ok (.goto (4), 3) := by decide +kernel
theorem d_R_worksOn_74 : decode b_R_worksOn 74 = .ok (.iconst 0, 1) := by decide +kernel
theorem d_R_worksOn_75 : decode b_R_worksOn 75 = .ok (.istore 7, 2) := by decide +kernel
theorem d_R_worksOn_77 : decode b_R_worksOn 77 = .ok (.iload 6, 2) := by decide +kernel
theorem d_R_worksOn_79 : decode b_R_worksOn 79 = .ok (.ifCond .eq (14), 3) := by decide +kernel
theorem d_R_worksOn_82 : decode b_R_worksOn 82 = .ok (.aload_n 0, 1) := by decide +kernel
theorem d_R_worksOn_83 : decode b_R_worksOn 83 = .ok (.getfield 22, 3) := by decide +kernel
theorem d_R_worksOn_86 : decode b_R_worksOn 86 = .ok (.iload 4, 2) := by decide +kernel
theorem d_R_worksOn_88 : decode b_R_worksOn 88 = .ok (.iaload, 1) := by decide +kernel
theorem d_R_worksOn_89 : decode b_R_worksOn 89 = .ok (.iload_n 3, 1) := by decide +kernel
theorem d_R_worksOn_90 : decode b_R_worksOn 90 = .ok (.if_icmp .eq (37), 3) := by decide +kernel
theorem d_R_worksOn_93 : decode b_R_worksOn 93 = .ok (.iload 7, 2) := by decide +kernel
theorem d_R_worksOn_95 : decode b_R_worksOn 95 = .ok (.ifCond .eq (14), 3) := by decide +kernel
theorem d_R_worksOn_98 : decode b_R_worksOn 98 = .ok (.aload_n 0, 1) := by decide +kernel
theorem d_R_worksOn_99 : decode b_R_worksOn 99 = .ok (.getfield 19, 3) := by decide +kernel
theorem d_R_worksOn_102 : decode b_R_worksOn 102 = .ok (.iload 4, 2) := by decide +kernel
theorem d_R_worksOn_104 : decode b_R_worksOn 104 = .ok (.iaload, 1) := by decide +kernel
theorem d_R_worksOn_105 : decode b_R_worksOn 105 = .ok (.iload_n 3, 1) := by decide +kernel
theorem d_R_worksOn_106 : decode b_R_worksOn 106 = .ok (.if_icmp .eq (21), 3) := by decide +kernel
theorem d_R_worksOn_109 : decode b_R_worksOn 109 = .ok (.iload 5, 2) := by decide +kernel
theorem d_R_worksOn_111 : decode b_R_worksOn 111 = .ok (.bipush (9), 2) := by decide +kernel
theorem d_R_worksOn_113 : decode b_R_worksOn 113 = .ok (.if_icmp .ne (18), 3) := by decide +kernel
theorem d_R_worksOn_116 : decode b_R_worksOn 116 = .ok (.aload_n 0, 1) := by decide +kernel
theorem d_R_worksOn_117 : decode b_R_worksOn 117 = .ok (.getfield 25, 3) := by decide +kernel
theorem d_R_worksOn_120 : decode b_R_worksOn 120 = .ok (.iload 4, 2) := by decide +kernel
theorem d_R_worksOn_122 : decode b_R_worksOn 122 = .ok (.iaload, 1) := by decide +kernel
theorem d_R_worksOn_123 : decode b_R_worksOn 123 = .ok (.iload_n 3, 1) := by decide +kernel
theorem d_R_worksOn_124 : decode b_R_worksOn 124 = .ok (.if_icmp .ne (7), 3) := by decide +kernel
theorem d_R_worksOn_127 : decode b_R_worksOn 127 = .ok (.iconst 1, 1) := by decide +kernel
theorem d_R_worksOn_128 : decode b_R_worksOn 128 = .ok (.goto (4), 3) := by decide +kernel
theorem d_R_worksOn_131 : decode b_R_worksOn 131 = .ok (.iconst 0, 1) := by decide +kernel
theorem d_R_worksOn_132 : decode b_R_worksOn 132 = .ok (.ireturn, 1) := by decide +kernel
theorem d_R_apart_0 : decode b_R_apart 0 = .ok (.aload_n 0, 1) := by decide +kernel
theorem d_R_apart_1 : decode b_R_apart 1 = .ok (.iload_n 1, 1) := by decide +kernel
theorem d_R_apart_2 : decode b_R_apart 2 = .ok (.iload_n 2, 1) := by decide +kernel
theorem d_R_apart_3 : decode b_R_apart 3 = .ok (.invokevirtual 135, 3) := by decide +kernel
theorem d_R_apart_6 : decode b_R_apart 6 = .ok (.istore_n 3, 1) := by decide +kernel
theorem d_R_apart_7 : decode b_R_apart 7 = .ok (.iload_n 3, 1) := by decide +kernel
theorem d_R_apart_8 : decode b_R_apart 8 = .ok (.ifCond .lt (7), 3) := by decide +kernel
theorem d_R_apart_11 : decode b_R_apart 11 = .ok (.iconst 1, 1) := by decide +kernel
theorem d_R_apart_12 : decode b_R_apart 12 = .ok (.goto (4), 3) := by decide +kernel
theorem d_R_apart_15 : decode b_R_apart 15 = .ok (.iconst 0, 1) := by decide +kernel
theorem d_R_apart_16 : decode b_R_apart 16 = .ok (.istore 4, 2) := by decide +kernel
theorem d_R_apart_18 : decode b_R_apart 18 = .ok (.iconst 0, 1) := by decide +kernel
theorem d_R_apart_19 : decode b_R_apart 19 = .ok (.istore 5, 2) := by decide +kernel
theorem d_R_apart_21 : decode b_R_apart 21 = .ok (.iload 5, 2) := by decide +kernel
theorem d_R_apart_23 : decode b_R_apart 23 = .ok (.aload_n 0, 1) := by decide +kernel
theorem d_R_apart_24 : decode b_R_apart 24 = .ok (.getfield 13, 3) := by decide +kernel
theorem d_R_apart_27 : decode b_R_apart 27 = .ok (.iload_n 1, 1) := by decide +kernel
theorem d_R_apart_28 : decode b_R_apart 28 = .ok (.iaload, 1) := by decide +kernel
theorem d_R_apart_29 : decode b_R_apart 29 = .ok (.if_icmp .ge (62), 3) := by decide +kernel
theorem d_R_apart_32 : decode b_R_apart 32 = .ok (.iload 4, 2) := by decide +kernel
theorem d_R_apart_34 : decode b_R_apart 34 = .ok (.ifCond .eq (57), 3) := by decide +kernel
theorem d_R_apart_37 : decode b_R_apart 37 = .ok (.aload_n 0, 1) := by decide +kernel
theorem d_R_apart_38 : decode b_R_apart 38 = .ok (.iload_n 1, 1) := by decide +kernel
theorem d_R_apart_39 : decode b_R_apart 39 = .ok (.iload 5, 2) := by decide +kernel
theorem d_R_apart_41 : decode b_R_apart 41 = .ok (.iload_n 2, 1) := by decide +kernel
theorem d_R_apart_42 : decode b_R_apart 42 = .ok (.invokevirtual 138, 3) := by decide +kernel
theorem d_R_apart_45 : decode b_R_apart 45 = .ok (.istore 6, 2) := by decide +kernel
theorem d_R_apart_47 : decode b_R_apart 47 = .ok (.aload_n 0, 1) := by decide +kernel
theorem d_R_apart_48 : decode b_R_apart 48 = .ok (.iload_n 1, 1) := by decide +kernel
theorem d_R_apart_49 : decode b_R_apart 49 = .ok (.iload 5, 2) := by decide +kernel
theorem d_R_apart_51 : decode b_R_apart 51 = .ok (.iload_n 2, 1) := by decide +kernel
theorem d_R_apart_52 : decode b_R_apart 52 = .ok (.invokevirtual 142, 3) := by decide +kernel
theorem d_R_apart_55 : decode b_R_apart 55 = .ok (.istore 7, 2) := by decide +kernel
theorem d_R_apart_57 : decode b_R_apart 57 = .ok (.iload 7, 2) := by decide +kernel
theorem d_R_apart_59 : decode b_R_apart 59 = .ok (.ifCond .ne (23), 3) := by decide +kernel
theorem d_R_apart_62 : decode b_R_apart 62 = .ok (.iload 6, 2) := by decide +kernel
theorem d_R_apart_64 : decode b_R_apart 64 = .ok (.ifCond .eq (14), 3) := by decide +kernel
theorem d_R_apart_67 : decode b_R_apart 67 = .ok (.aload_n 0, 1) := by decide +kernel
theorem d_R_apart_68 : decode b_R_apart 68 = .ok (.iload_n 1, 1) := by decide +kernel
theorem d_R_apart_69 : decode b_R_apart 69 = .ok (.iload_n 3, 1) := by decide +kernel
theorem d_R_apart_70 : decode b_R_apart 70 = .ok (.iload 5, 2) := by decide +kernel
theorem d_R_apart_72 : decode b_R_apart 72 = .ok (.invokevirtual 145, 3) := by decide +kernel
theorem d_R_apart_75 : decode b_R_apart 75 = .ok (.ifCond .eq (7), 3) := by decide +kernel
theorem d_R_apart_78 : decode b_R_apart 78 = .ok (.iconst 1, 1) := by decide +kernel
theorem d_R_apart_79 : decode b_R_apart 79 = .ok (.goto (4), 3) := by decide +kernel
theorem d_R_apart_82 : decode b_R_apart 82 = .ok (.iconst 0, 1) := by decide +kernel
theorem d_R_apart_83 : decode b_R_apart 83 = .ok (.istore 4, 2) := by decide +kernel
theorem d_R_apart_85 : decode b_R_apart 85 = .ok (.iinc 5 (1), 3) := by decide +kernel
theorem d_R_apart_88 : decode b_R_apart 88 = .ok (.goto (-67), 3) := by decide +kernel
theorem d_R_apart_91 : decode b_R_apart 91 = .ok (.iload 4, 2) := by decide +kernel
theorem d_R_apart_93 : decode b_R_apart 93 = .ok (.ireturn, 1) := by decide +kernel
theorem d_R_onlyNew_0 : decode b_R_onlyNew 0 = .ok (.iconst (-1), 1) := by decide +kernel
theorem d_R_onlyNew_1 : decode b_R_onlyNew 1 = .ok (.istore_n 3, 1) := by decide +kernel
theorem d_R_onlyNew_2 : decode b_R_onlyNew 2 = .ok (.iconst 0, 1) := by decide +kernel
theorem d_R_onlyNew_3 : decode b_R_onlyNew 3 = .ok (.istore 4, 2) := by decide +kernel
theorem d_R_onlyNew_5 : decode b_R_onlyNew 5 = .ok (.iconst 0, 1) := by decide +kernel
theorem d_R_onlyNew_6 : decode b_R_onlyNew 6 = .ok (.istore 5, 2) := by decide +kernel
theorem d_R_onlyNew_8 : decode b_R_onlyNew 8 = .ok (.iload 5, 2) := by decide +kernel
theorem d_R_onlyNew_10 : decode b_R_onlyNew 10 = .ok (.aload_n 0, 1) := by decide +kernel
theorem d_R_onlyNew_11 : decode b_R_onlyNew 11 = .ok (.getfield 13, 3) := by decide +kernel
theorem d_R_onlyNew_14 : decode b_R_onlyNew 14 = .ok (.iload_n 1, 1) := by decide +kernel
theorem d_R_onlyNew_15 : decode b_R_onlyNew 15 = .ok (.iaload, 1) := by decide +kernel
theorem d_R_onlyNew_16 : decode b_R_onlyNew 16 = .ok (.if_icmp .ge (92), 3) := by decide +kernel
theorem d_R_onlyNew_19 : decode b_R_onlyNew 19 = .ok (.aload_n 0, 1) := by decide +kernel
theorem d_R_onlyNew_20 : decode b_R_onlyNew 20 = .ok (.getfield 16, 3) := by decide +kernel
theorem d_R_onlyNew_23 : decode b_R_onlyNew 23 = .ok (.bipush (24), 2) := by decide +kernel
theorem d_R_onlyNew_25 : decode b_R_onlyNew 25 = .ok (.iload_n 1, 1) := by decide +kernel
theorem d_R_onlyNew_26 : decode b_R_onlyNew 26 = .ok (.imul, 1) := by decide +kernel
theorem d_R_onlyNew_27 : decode b_R_onlyNew 27 = .ok (.iload 5, 2) := by decide +kernel
theorem d_R_onlyNew_29 : decode b_R_onlyNew 29 = .ok (.iadd, 1) := by decide +kernel
theorem d_R_onlyNew_30 : decode b_R_onlyNew 30 = .ok (.iaload, 1) := by decide +kernel
theorem d_R_onlyNew_31 : decode b_R_onlyNew 31 = .ok (.invokestatic 132, 3) := by decide +kernel
theorem d_R_onlyNew_34 : decode b_R_onlyNew 34 = .ok (.ifCond .eq (23), 3) := by decide +kernel
theorem d_R_onlyNew_37 : decode b_R_onlyNew 37 = .ok (.aload_n 0, 1) := by decide +kernel
theorem d_R_onlyNew_38 : decode b_R_onlyNew 38 = .ok (.getfield 19, 3) := by decide +kernel
theorem d_R_onlyNew_41 : decode b_R_onlyNew 41 = .ok (.bipush (24), 2) := by decide +kernel
theorem d_R_onlyNew_43 : decode b_R_onlyNew 43 = .ok (.iload_n 1, 1) := by decide +kernel
theorem d_R_onlyNew_44 : decode b_R_onlyNew 44 = .ok (.imul, 1) := by decide +kernel
theorem d_R_onlyNew_45 : decode b_R_onlyNew 45 = .ok (.iload 5, 2) := by decide +kernel
theorem d_R_onlyNew_47 : decode b_R_onlyNew 47 = .ok (.iadd, 1) := by decide +kernel
theorem d_R_onlyNew_48 : decode b_R_onlyNew 48 = .ok (.iaload, 1) := by decide +kernel
theorem d_R_onlyNew_49 : decode b_R_onlyNew 49 = .ok (.iload_n 2, 1) := by decide +kernel
theorem d_R_onlyNew_50 : decode b_R_onlyNew 50 = .ok (.if_icmp .ne (7), 3) := by decide +kernel
theorem d_R_onlyNew_53 : decode b_R_onlyNew 53 = .ok (.iconst 1, 1) := by decide +kernel
theorem d_R_onlyNew_54 : decode b_R_onlyNew 54 = .ok (.goto (4), 3) := by decide +kernel
theorem d_R_onlyNew_57 : decode b_R_onlyNew 57 = .ok (.iconst 0, 1) := by decide +kernel
theorem d_R_onlyNew_58 : decode b_R_onlyNew 58 = .ok (.istore 6, 2) := by decide +kernel
theorem d_R_onlyNew_60 : decode b_R_onlyNew 60 = .ok (.iload 4, 2) := by decide +kernel
theorem d_R_onlyNew_62 : decode b_R_onlyNew 62 = .ok (.iload 6, 2) := by decide +kernel
theorem d_R_onlyNew_64 : decode b_R_onlyNew 64 = .ok (.ifCond .eq (7), 3) := by decide +kernel
theorem d_R_onlyNew_67 : decode b_R_onlyNew 67 = .ok (.iconst 1, 1) := by decide +kernel
theorem d_R_onlyNew_68 : decode b_R_onlyNew 68 = .ok (.goto (4), 3) := by decide +kernel
theorem d_R_onlyNew_71 : decode b_R_onlyNew 71 = .ok (.iconst 0, 1) := by decide +kernel
theorem d_R_onlyNew_72 : decode b_R_onlyNew 72 = .ok (.iadd, 1) := by decide +kernel
theorem d_R_onlyNew_73 : decode b_R_onlyNew 73 = .ok (.istore 4, 2) := by decide +kernel
theorem d_R_onlyNew_75 : decode b_R_onlyNew 75 = .ok (.iload 6, 2) := by decide +kernel
theorem d_R_onlyNew_77 : decode b_R_onlyNew 77 = .ok (.ifCond .eq (23), 3) := by decide +kernel
theorem d_R_onlyNew_80 : decode b_R_onlyNew 80 = .ok (.aload_n 0, 1) := by decide +kernel
theorem d_R_onlyNew_81 : decode b_R_onlyNew 81 = .ok (.getfield 16, 3) := by decide +kernel
theorem d_R_onlyNew_84 : decode b_R_onlyNew 84 = .ok (.bipush (24), 2) := by decide +kernel
theorem d_R_onlyNew_86 : decode b_R_onlyNew 86 = .ok (.iload_n 1, 1) := by decide +kernel
theorem d_R_onlyNew_87 : decode b_R_onlyNew 87 = .ok (.imul, 1) := by decide +kernel
theorem d_R_onlyNew_88 : decode b_R_onlyNew 88 = .ok (.iload 5, 2) := by decide +kernel
theorem d_R_onlyNew_90 : decode b_R_onlyNew 90 = .ok (.iadd, 1) := by decide +kernel
theorem d_R_onlyNew_91 : decode b_R_onlyNew 91 = .ok (.iaload, 1) := by decide +kernel
theorem d_R_onlyNew_92 : decode b_R_onlyNew 92 = .ok (.ifCond .ne (8), 3) := by decide +kernel
theorem d_R_onlyNew_95 : decode b_R_onlyNew 95 = .ok (.iload 5, 2) := by decide +kernel
theorem d_R_onlyNew_97 : decode b_R_onlyNew 97 = .ok (.goto (4), 3) := by decide +kernel
theorem d_R_onlyNew_100 : decode b_R_onlyNew 100 = .ok (.iload_n 3, 1) := by decide +kernel
theorem d_R_onlyNew_101 : decode b_R_onlyNew 101 = .ok (.istore_n 3, 1) := by decide +kernel
theorem d_R_onlyNew_102 : decode b_R_onlyNew 102 = .ok (.iinc 5 (1), 3) := by decide +kernel
theorem d_R_onlyNew_105 : decode b_R_onlyNew 105 = .ok (.goto (-97), 3) := by decide +kernel
theorem d_R_onlyNew_108 : decode b_R_onlyNew 108 = .ok (.iload 4, 2) := by decide +kernel
theorem d_R_onlyNew_110 : decode b_R_onlyNew 110 = .ok (.iconst 1, 1) := by decide +kernel
theorem d_R_onlyNew_111 : decode b_R_onlyNew 111 = .ok (.if_icmp .ne (17), 3) := by decide +kernel
theorem d_R_onlyNew_114 : decode b_R_onlyNew 114 = .ok (.iload_n 2, 1) := by decide +kernel
theorem d_R_onlyNew_115 : decode b_R_onlyNew 115 = .ok (.aload_n 0, 1) := by decide +kernel
theorem d_R_onlyNew_116 : decode b_R_onlyNew 116 = .ok (.getfield 7, 3) := by decide +kernel
theorem d_R_onlyNew_119 : decode b_R_onlyNew 119 = .ok (.iload_n 1, 1) := by decide +kernel
theorem d_R_onlyNew_120 : decode b_R_onlyNew 120 = .ok (.iaload, 1) := by decide +kernel
theorem d_R_onlyNew_121 : decode b_R_onlyNew 121 = .ok (.if_icmp .lt (7), 3) := by decide +kernel
theorem d_R_onlyNew_124 : decode b_R_onlyNew 124 = .ok (.iload_n 3, 1) := by decide +kernel
