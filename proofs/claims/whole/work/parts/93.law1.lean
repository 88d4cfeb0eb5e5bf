/-! THE LAW: its calls (written by program) -/
set_option maxRecDepth 100000 in
set_option maxHeartbeats 4000000 in
theorem law_0 {xs : Nat → Int32} {L b : Nat} {tL : ClassId} {X : cn_X} {la : Array Slot} {cells slots i : Nat} {adC adR : Nat → Nat} {o : Nat} {f : Nat → Int64} {P : pr_T} {Mc Mr : fm_M} (C : ll_C xs L b tL X) (J : jI P Mc Mr) (hl : lv_has la 7 (ll_lv adC adR o b (nI i))) (hi : i + 7 ≤ L) (hL : L < 2 ^ 30) (hcc : cells + 1 ≤ (cn_R X).cells) (hss : slots + 6 ≤ (cn_R X).slots) (next : ∀ (P1 : pr_T) (Mc1 Mr1 : fm_M) (f1 : Nat → Int64) (la1 : Array Slot), jI P1 Mc1 Mr1 → lv_has la1 7 (ll_lv adC adR o b (nI i)) → cn_G X 644 la1 [] (LW adC adR (cn_tA X) o tL f1 Mc1 Mr1) (cells + 1) (slots + 6)) : cn_G X 100 la [] (LW adC adR (cn_tA X) o tL f Mc Mr) cells slots := by
  have J0 := J
  obtain ⟨hw, jc, jr, -, -, -, ⟨sh, js, js1, js2⟩, -⟩ := J
  refine lc_aload_n C.1.b d_L_law_100 rfl hl 3 rfl ?_
  refine ll_arg (i := i) (j := 1) (p0 := 4) (p1 := 0) C hl rfl rfl (by omega) hL d_L_law_101 d_L_law_102 d_L_law_104 (by decide) d_L_law_105 d_L_law_106 ?_
  refine ll_arg (i := i) (j := 2) (p0 := 4) (p1 := 0) C hl rfl rfl (by omega) hL d_L_law_107 d_L_law_108 d_L_law_110 (by decide) d_L_law_111 d_L_law_112 ?_
  refine lc_aload_n C.1.b d_L_law_113 rfl hl 1 rfl ?_
  refine ll_H (na := 4) (as := [.inr 0, .inl (xs (i + 1)), .inl (xs (i + 2))]) (st := []) C (k_L_parameters Mc jc (xs (i + 1)) (xs (i + 2))) hL_parameters mL_34 iniL stL_parameters ⟨by decide, by decide, by decide +kernel⟩ (by decide) rfl rfl hcc hss hl.1 (Nat.le_of_ble_eq_true rfl) d_L_law_114 (fun k f1 Mc1 hp => ?_)
  refine lc_istore C.1.b d_L_law_117 hl (by decide) rfl (fun la1 hl1 => ?_)
  refine lc_aload_n C.1.b d_L_law_119 rfl hl1 3 rfl ?_
  refine ll_arg (i := i) (j := 1) (p0 := 5) (p1 := 1) C hl1 rfl rfl (by omega) hL d_L_law_120 d_L_law_121 d_L_law_123 (by decide) d_L_law_124 d_L_law_125 ?_
  refine ll_arg (i := i) (j := 2) (p0 := 5) (p1 := 1) C hl1 rfl rfl (by omega) hL d_L_law_126 d_L_law_127 d_L_law_129 (by decide) d_L_law_130 d_L_law_131 ?_
  refine ll_R (as := [.inl (xs (i + 1)), .inl (xs (i + 2))]) (st := []) C (k_R_parameters Mr jr hw (xs (i + 1)) (xs (i + 2))) cL_39 iL_R_parameters sL_R_parameters rfl rfl (by omega) (by omega) (by omega) (by omega) hl1.1 (Nat.le_of_ble_eq_true rfl) d_L_law_132 (fun r Mr1 hq => ?_)
  obtain ⟨bx, rfl, hx1⟩ := hq
  obtain ⟨e1, e2, P1, J1⟩ := jh_par J0 hp hx1
  refine lc_istore (x := bx) (st := []) C.1.b d_L_law_135 hl1 (by decide) rfl (fun la2 hl2 => ?_)
  have fin := next P1 Mc1 Mr1 f1 la2 J1 (lv_tl (lv_tl hl2))
  refine lc_aload_n C.1.b d_L_law_137 rfl hl2 4 rfl ?_
  refine ll_R (as := []) (st := []) C (k_R_thrown Mr1) cL_40 iL_R_thrown sL_R_thrown rfl rfl (by omega) (by omega) (by omega) (by omega) hl2.1 (Nat.le_of_ble_eq_true rfl) d_L_law_138 (fun r Mr2 hp => ?_)
  obtain ⟨q1, q2⟩ := hp
  subst q1
  subst q2
  refine lc_st (st1 := [.int (Mr2 0 0)]) rfl ?_
  refine lc_iload C.1.b d_L_law_141 hl2 1 rfl ?_
  refine lc_icmp_eq (x := Mr2 0 0) (y := k) (st := []) (tgt := 148) C.1.b d_L_law_143 (by decide) (fun _ => ?_) (fun z => absurd e1 z)
  refine lc_iload C.1.b d_L_law_148 hl2 1 rfl ?_
  have fin2 : cn_G X 172 la2 [] (LW adC adR (cn_tA X) o tL f1 Mc1 Mr2) (cells + 1) (slots + 6) := lc_goto (tgt := 644) C.1.b d_L_law_172 (by decide) fin
  refine lc_if_ne (x := k) (st := []) (tgt := 172) C.1.b d_L_law_150 (by decide) (fun _ => fin2) (fun z => ?_)
  have ez := e2 z
  refine lc_aload_n C.1.b d_L_law_153 rfl hl2 3 rfl ?_
  refine lc_iconst (v := nI 0) C.1.b d_L_law_154 (by decide) ?_
  refine lc_laload (i0 := 23) (j := 0) (N := 1) C.1 d_L_law_155 LW_at rfl (by decide) (by decide) ?_
  refine lc_iload C.1.b d_L_law_156 hl2 0 rfl ?_
  obtain ⟨ez1, ez2⟩ := ez
  refine lc_if_eq (x := bx) (st := [.long (f1 0)]) (tgt := 165) C.1.b d_L_law_158 (by decide) (fun q => absurd q (by rw [ez2]; decide)) (fun _ => ?_)
  refine lc_lconst (v := 1) C.1.b d_L_law_161 (by decide) ?_
  refine lc_goto (tgt := 166) C.1.b d_L_law_162 (by decide) ?_
  refine lc_lcmp (v := 0) C.1.b d_L_law_166 (by rw [ez1]; exact lg_cmp_0 1) ?_
  exact lc_if_eq (x := 0) (st := []) (tgt := 172) C.1.b d_L_law_167 (by decide) (fun _ => fin2) (fun q => absurd rfl q)
set_option maxRecDepth 100000 in
set_option maxHeartbeats 4000000 in
theorem law_1 {xs : Nat → Int32} {L b : Nat} {tL : ClassId} {X : cn_X} {la : Array Slot} {cells slots i : Nat} {adC adR : Nat → Nat} {o : Nat} {f : Nat → Int64} {P : pr_T} {Mc Mr : fm_M} (C : ll_C xs L b tL X) (J : jI P Mc Mr) (hl : lv_has la 7 (ll_lv adC adR o b (nI i))) (hi : i + 7 ≤ L) (hL : L < 2 ^ 30) (hcc : cells + 1 ≤ (cn_R X).cells) (hss : slots + 6 ≤ (cn_R X).slots) (next : ∀ (P1 : pr_T) (Mc1 Mr1 : fm_M) (f1 : Nat → Int64) (la1 : Array Slot), jI P1 Mc1 Mr1 → lv_has la1 7 (ll_lv adC adR o b (nI i)) → cn_G X 644 la1 [] (LW adC adR (cn_tA X) o tL f1 Mc1 Mr1) (cells + 1) (slots + 6)) : cn_G X 175 la [] (LW adC adR (cn_tA X) o tL f Mc Mr) cells slots := by
  have J0 := J
  obtain ⟨hw, jc, jr, -, -, -, ⟨sh, js, js1, js2⟩, -⟩ := J
  refine lc_aload_n C.1.b d_L_law_175 rfl hl 3 rfl ?_
  refine ll_arg (i := i) (j := 1) (p0 := 4) (p1 := 0) C hl rfl rfl (by omega) hL d_L_law_176 d_L_law_177 d_L_law_179 (by decide) d_L_law_180 d_L_law_181 ?_
  refine ll_arg (i := i) (j := 2) (p0 := 4) (p1 := 0) C hl rfl rfl (by omega) hL d_L_law_182 d_L_law_183 d_L_law_185 (by decide) d_L_law_186 d_L_law_187 ?_
  refine ll_arg (i := i) (j := 3) (p0 := 4) (p1 := 0) C hl rfl rfl (by omega) hL d_L_law_188 d_L_law_189 d_L_law_191 (by decide) d_L_law_192 d_L_law_193 ?_
  refine ll_arg (i := i) (j := 4) (p0 := 4) (p1 := 0) C hl rfl rfl (by omega) hL d_L_law_194 d_L_law_195 d_L_law_197 (by decide) d_L_law_198 d_L_law_199 ?_
  refine ll_arg (i := i) (j := 5) (p0 := 4) (p1 := 0) C hl rfl rfl (by omega) hL d_L_law_200 d_L_law_201 d_L_law_203 (by decide) d_L_law_204 d_L_law_205 ?_
  refine ll_arg6 (i := i) (j := 6) (p0 := 4) (p1 := 0) C hl rfl rfl (by omega) hL d_L_law_206 d_L_law_207 d_L_law_209 (by decide) d_L_law_211 d_L_law_212 ?_
  refine lc_aload_n C.1.b d_L_law_213 rfl hl 1 rfl ?_
  refine ll_H (na := 8) (as := [.inr 0, .inl (xs (i + 1)), .inl (xs (i + 2)), .inl (xs (i + 3)), .inl (xs (i + 4)), .inl (xs (i + 5)), .inl (xs (i + 6))]) (st := []) C (k_L_put Mc jc hw (xs (i + 1)) (xs (i + 2)) (xs (i + 3)) (xs (i + 4)) (xs (i + 5)) (xs (i + 6))) hL_put mL_44 iniL stL_put ⟨by decide, by decide, by decide +kernel⟩ (by decide) rfl rfl hcc hss hl.1 (Nat.le_of_ble_eq_true rfl) d_L_law_214 (fun k f1 Mc1 hp => ?_)
  refine lc_istore C.1.b d_L_law_217 hl (by decide) rfl (fun la1 hl1 => ?_)
  refine lc_aload_n C.1.b d_L_law_219 rfl hl1 3 rfl ?_
  refine ll_arg (i := i) (j := 1) (p0 := 5) (p1 := 1) C hl1 rfl rfl (by omega) hL d_L_law_220 d_L_law_221 d_L_law_223 (by decide) d_L_law_224 d_L_law_225 ?_
  refine ll_arg (i := i) (j := 2) (p0 := 5) (p1 := 1) C hl1 rfl rfl (by omega) hL d_L_law_226 d_L_law_227 d_L_law_229 (by decide) d_L_law_230 d_L_law_231 ?_
  refine ll_arg (i := i) (j := 3) (p0 := 5) (p1 := 1) C hl1 rfl rfl (by omega) hL d_L_law_232 d_L_law_233 d_L_law_235 (by decide) d_L_law_236 d_L_law_237 ?_
  refine ll_arg (i := i) (j := 4) (p0 := 5) (p1 := 1) C hl1 rfl rfl (by omega) hL d_L_law_238 d_L_law_239 d_L_law_241 (by decide) d_L_law_242 d_L_law_243 ?_
  refine ll_arg (i := i) (j := 5) (p0 := 5) (p1 := 1) C hl1 rfl rfl (by omega) hL d_L_law_244 d_L_law_245 d_L_law_247 (by decide) d_L_law_248 d_L_law_249 ?_
  refine ll_arg6 (i := i) (j := 6) (p0 := 5) (p1 := 1) C hl1 rfl rfl (by omega) hL d_L_law_250 d_L_law_251 d_L_law_253 (by decide) d_L_law_255 d_L_law_256 ?_
  refine ll_R (as := [.inl (xs (i + 1)), .inl (xs (i + 2)), .inl (xs (i + 3)), .inl (xs (i + 4)), .inl (xs (i + 5)), .inl (xs (i + 6))]) (st := []) C (k_R_put Mr jr hw (xs (i + 1)) (xs (i + 2)) (xs (i + 3)) (xs (i + 4)) (xs (i + 5)) (xs (i + 6))) cL_47 iL_R_put sL_R_put rfl rfl (by omega) (by omega) (by omega) (by omega) hl1.1 (Nat.le_of_ble_eq_true rfl) d_L_law_257 (fun r Mr1 hq => ?_)
  obtain ⟨bx, rfl, hx1⟩ := hq
  obtain ⟨e1, e2, P1, J1⟩ := jh_put J0 hp hx1
  refine lc_istore (x := bx) (st := []) C.1.b d_L_law_260 hl1 (by decide) rfl (fun la2 hl2 => ?_)
  have fin := next P1 Mc1 Mr1 f1 la2 J1 (lv_tl (lv_tl hl2))
  refine lc_aload_n C.1.b d_L_law_262 rfl hl2 4 rfl ?_
  refine ll_R (as := []) (st := []) C (k_R_thrown Mr1) cL_40 iL_R_thrown sL_R_thrown rfl rfl (by omega) (by omega) (by omega) (by omega) hl2.1 (Nat.le_of_ble_eq_true rfl) d_L_law_263 (fun r Mr2 hp => ?_)
  obtain ⟨q1, q2⟩ := hp
  subst q1
  subst q2
  refine lc_st (st1 := [.int (Mr2 0 0)]) rfl ?_
  refine lc_iload C.1.b d_L_law_266 hl2 1 rfl ?_
  refine lc_icmp_eq (x := Mr2 0 0) (y := k) (st := []) (tgt := 273) C.1.b d_L_law_268 (by decide) (fun _ => ?_) (fun z => absurd e1 z)
  refine lc_iload C.1.b d_L_law_273 hl2 1 rfl ?_
  have fin2 : cn_G X 290 la2 [] (LW adC adR (cn_tA X) o tL f1 Mc1 Mr2) (cells + 1) (slots + 6) := lc_goto (tgt := 644) C.1.b d_L_law_290 (by decide) fin
  refine lc_if_ne (x := k) (st := []) (tgt := 290) C.1.b d_L_law_275 (by decide) (fun _ => fin2) (fun z => ?_)
  have ez := e2 z
  refine lc_aload_n C.1.b d_L_law_278 rfl hl2 3 rfl ?_
  refine lc_iconst (v := nI 0) C.1.b d_L_law_279 (by decide) ?_
  refine lc_laload (i0 := 23) (j := 0) (N := 1) C.1 d_L_law_280 LW_at rfl (by decide) (by decide) ?_
  refine lc_iload C.1.b d_L_law_281 hl2 0 rfl ?_
  refine lc_i2l C.1.b d_L_law_283 ez.symm ?_
  refine lc_lcmp (v := 0) C.1.b d_L_law_284 (lg_cmp_0 _) ?_
  exact lc_if_eq (x := 0) (st := []) (tgt := 290) C.1.b d_L_law_285 (by decide) (fun _ => fin2) (fun q => absurd rfl q)
set_option maxRecDepth 100000 in
set_option maxHeartbeats 4000000 in
theorem law_2 {xs : Nat → Int32} {L b : Nat} {tL : ClassId} {X : cn_X} {la : Array Slot} {cells slots i : Nat} {adC adR : Nat → Nat} {o : Nat} {f : Nat → Int64} {P : pr_T} {Mc Mr : fm_M} (C : ll_C xs L b tL X) (J : jI P Mc Mr) (hl : lv_has la 7 (ll_lv adC adR o b (nI i))) (hi : i + 7 ≤ L) (hL : L < 2 ^ 30) (hcc : cells + 1 ≤ (cn_R X).cells) (hss : slots + 6 ≤ (cn_R X).slots) (next : ∀ (P1 : pr_T) (Mc1 Mr1 : fm_M) (f1 : Nat → Int64) (la1 : Array Slot), jI P1 Mc1 Mr1 → lv_has la1 7 (ll_lv adC adR o b (nI i)) → cn_G X 644 la1 [] (LW adC adR (cn_tA X) o tL f1 Mc1 Mr1) (cells + 1) (slots + 6)) : cn_G X 293 la [] (LW adC adR (cn_tA X) o tL f Mc Mr) cells slots := by
  have J0 := J
  obtain ⟨hw, jc, jr, -, -, -, ⟨sh, js, js1, js2⟩, -⟩ := J
  refine lc_aload_n C.1.b d_L_law_293 rfl hl 3 rfl ?_
  refine ll_arg (i := i) (j := 1) (p0 := 4) (p1 := 0) C hl rfl rfl (by omega) hL d_L_law_294 d_L_law_295 d_L_law_297 (by decide) d_L_law_298 d_L_law_299 ?_
  refine lc_aload_n C.1.b d_L_law_300 rfl hl 1 rfl ?_
  refine ll_H (na := 3) (as := [.inr 0, .inl (xs (i + 1))]) (st := []) C (k_L_clear Mc jc (xs (i + 1))) hL_clear mL_48 iniL stL_clear ⟨by decide, by decide, by decide +kernel⟩ (by decide) rfl rfl hcc hss hl.1 (Nat.le_of_ble_eq_true rfl) d_L_law_301 (fun k f1 Mc1 hp => ?_)
  refine lc_istore C.1.b d_L_law_304 hl (by decide) rfl (fun la1 hl1 => ?_)
  refine lc_aload_n C.1.b d_L_law_306 rfl hl1 3 rfl ?_
  refine ll_arg (i := i) (j := 1) (p0 := 5) (p1 := 1) C hl1 rfl rfl (by omega) hL d_L_law_307 d_L_law_308 d_L_law_310 (by decide) d_L_law_311 d_L_law_312 ?_
  refine ll_R (as := [.inl (xs (i + 1))]) (st := []) C (k_R_clear Mr jr hw (xs (i + 1))) cL_51 iL_R_clear sL_R_clear rfl rfl (by omega) (by omega) (by omega) (by omega) hl1.1 (Nat.le_of_ble_eq_true rfl) d_L_law_313 (fun r Mr1 hq => ?_)
  obtain ⟨bx, rfl, hx1⟩ := hq
  obtain ⟨e1, e2, P1, J1⟩ := jh_clr J0 hp hx1
  refine lc_istore (x := bx) (st := []) C.1.b d_L_law_316 hl1 (by decide) rfl (fun la2 hl2 => ?_)
  have fin := next P1 Mc1 Mr1 f1 la2 J1 (lv_tl (lv_tl hl2))
  refine lc_aload_n C.1.b d_L_law_318 rfl hl2 4 rfl ?_
  refine ll_R (as := []) (st := []) C (k_R_thrown Mr1) cL_40 iL_R_thrown sL_R_thrown rfl rfl (by omega) (by omega) (by omega) (by omega) hl2.1 (Nat.le_of_ble_eq_true rfl) d_L_law_319 (fun r Mr2 hp => ?_)
  obtain ⟨q1, q2⟩ := hp
  subst q1
  subst q2
  refine lc_st (st1 := [.int (Mr2 0 0)]) rfl ?_
  refine lc_iload C.1.b d_L_law_322 hl2 1 rfl ?_
  refine lc_icmp_eq (x := Mr2 0 0) (y := k) (st := []) (tgt := 329) C.1.b d_L_law_324 (by decide) (fun _ => ?_) (fun z => absurd e1 z)
  refine lc_iload C.1.b d_L_law_329 hl2 1 rfl ?_
  have fin2 : cn_G X 346 la2 [] (LW adC adR (cn_tA X) o tL f1 Mc1 Mr2) (cells + 1) (slots + 6) := lc_goto (tgt := 644) C.1.b d_L_law_346 (by decide) fin
  refine lc_if_ne (x := k) (st := []) (tgt := 346) C.1.b d_L_law_331 (by decide) (fun _ => fin2) (fun z => ?_)
  have ez := e2 z
  refine lc_aload_n C.1.b d_L_law_334 rfl hl2 3 rfl ?_
  refine lc_iconst (v := nI 0) C.1.b d_L_law_335 (by decide) ?_
  refine lc_laload (i0 := 23) (j := 0) (N := 1) C.1 d_L_law_336 LW_at rfl (by decide) (by decide) ?_
  refine lc_iload C.1.b d_L_law_337 hl2 0 rfl ?_
  refine lc_i2l C.1.b d_L_law_339 ez.symm ?_
  refine lc_lcmp (v := 0) C.1.b d_L_law_340 (lg_cmp_0 _) ?_
  exact lc_if_eq (x := 0) (st := []) (tgt := 346) C.1.b d_L_law_341 (by decide) (fun _ => fin2) (fun q => absurd rfl q)
set_option maxRecDepth 100000 in
set_option maxHeartbeats 4000000 in
theorem law_3 {xs : Nat → Int32} {L b : Nat} {tL : ClassId} {X : cn_X} {la : Array Slot} {cells slots i : Nat} {adC adR : Nat → Nat} {o : Nat} {f : Nat → Int64} {P : pr_T} {Mc Mr : fm_M} (C : ll_C xs L b tL X) (J : jI P Mc Mr) (hl : lv_has la 7 (ll_lv adC adR o b (nI i))) (hi : i + 7 ≤ L) (hL : L < 2 ^ 30) (hcc : cells + 1 ≤ (cn_R X).cells) (hss : slots + 6 ≤ (cn_R X).slots) (next : ∀ (P1 : pr_T) (Mc1 Mr1 : fm_M) (f1 : Nat → Int64) (la1 : Array Slot), jI P1 Mc1 Mr1 → lv_has la1 7 (ll_lv adC adR o b (nI i)) → cn_G X 644 la1 [] (LW adC adR (cn_tA X) o tL f1 Mc1 Mr1) (cells + 1) (slots + 6)) : cn_G X 349 la [] (LW adC adR (cn_tA X) o tL f Mc Mr) cells slots := by
  obtain ⟨pcx, h1, h2⟩ := j_run J (decide (¬ xs (i + 1) = 0))
  refine lc_aload_n C.1.b d_L_law_349 rfl hl 3 rfl ?_
  refine ll_arg (i := i) (j := 1) (p0 := 4) (p1 := 0) C hl rfl rfl (by omega) hL d_L_law_350 d_L_law_351 d_L_law_353 (by decide) d_L_law_354 d_L_law_355 ?_
  have hb356 : cn_G X 364 la (.int (bI (decide (¬ xs (i + 1) = 0))) :: [.ref (adC 0)]) (LW adC adR (cn_tA X) o tL f Mc Mr) cells slots := ?_
  · refine lc_if_eq (x := xs (i + 1)) (st := [.ref (adC 0)]) (tgt := 363) C.1.b d_L_law_356 (by decide) (fun z => ?_) (fun z => ?_)
    · refine lc_iconst (v := bI (decide (¬ xs (i + 1) = 0))) C.1.b d_L_law_363 (by rw [decide_eq_false (fun q => q z)]; decide) ?_
      exact hb356
    · refine lc_iconst (v := bI (decide (¬ xs (i + 1) = 0))) C.1.b d_L_law_359 (by rw [decide_eq_true z]; decide) ?_
      refine lc_goto (tgt := 364) C.1.b d_L_law_360 (by decide) ?_
      exact hb356
  refine ll_E (as := [.inl (bI (decide (¬ xs (i + 1) = 0)))]) (st := []) C h1 cL_52 iL_E_run sL_E_run rfl rfl (by omega) (by omega) (by omega) (by omega) hl.1 (Nat.le_of_ble_eq_true rfl) d_L_law_364 (fun r Mc1 hp => ?_)
  obtain ⟨ax, rfl, hx⟩ := hp
  obtain ⟨pr, h3, h4⟩ := h2 ax Mc1 hx
  refine lc_st (st1 := [.int ax]) rfl ?_
  refine lc_aload_n C.1.b d_L_law_367 rfl hl 2 rfl ?_
  refine ll_arg (i := i) (j := 1) (p0 := 4) (p1 := 0) C hl rfl rfl (by omega) hL d_L_law_368 d_L_law_369 d_L_law_371 (by decide) d_L_law_372 d_L_law_373 ?_
  have hb374 : cn_G X 382 la (.int (bI (decide (¬ xs (i + 1) = 0))) :: [.ref (adR 0), .int ax]) (LW adC adR (cn_tA X) o tL f Mc1 Mr) cells slots := ?_
  · refine lc_if_eq (x := xs (i + 1)) (st := [.ref (adR 0), .int ax]) (tgt := 381) C.1.b d_L_law_374 (by decide) (fun z => ?_) (fun z => ?_)
    · refine lc_iconst (v := bI (decide (¬ xs (i + 1) = 0))) C.1.b d_L_law_381 (by rw [decide_eq_false (fun q => q z)]; decide) ?_
      exact hb374
    · refine lc_iconst (v := bI (decide (¬ xs (i + 1) = 0))) C.1.b d_L_law_377 (by rw [decide_eq_true z]; decide) ?_
      refine lc_goto (tgt := 382) C.1.b d_L_law_378 (by decide) ?_
      exact hb374
  refine ll_R (as := [.inl (bI (decide (¬ xs (i + 1) = 0)))]) (st := [.int ax]) C h3 cL_56 iL_R_run sL_R_run rfl rfl (by omega) (by omega) (by omega) (by omega) hl.1 (Nat.le_of_ble_eq_true rfl) d_L_law_382 (fun r Mr1 hp => ?_)
  obtain ⟨bx, rfl, hx1⟩ := hp
  obtain ⟨e, P1, J1⟩ := h4 bx Mr1 hx1
  refine lc_icmp_eq (x := ax) (y := bx) (st := []) (tgt := 644) C.1.b d_L_law_385 (by decide) (fun _ => ?_) (fun z => absurd e.symm z)
  exact cn_wide (by omega) (by omega) (next P1 Mc1 Mr1 f la J1 hl)
set_option maxRecDepth 100000 in
set_option maxHeartbeats 4000000 in
theorem law_4 {xs : Nat → Int32} {L b : Nat} {tL : ClassId} {X : cn_X} {la : Array Slot} {cells slots i : Nat} {adC adR : Nat → Nat} {o : Nat} {f : Nat → Int64} {P : pr_T} {Mc Mr : fm_M} (C : ll_C xs L b tL X) (J : jI P Mc Mr) (hl : lv_has la 7 (ll_lv adC adR o b (nI i))) (hi : i + 7 ≤ L) (hL : L < 2 ^ 30) (hcc : cells + 1 ≤ (cn_R X).cells) (hss : slots + 6 ≤ (cn_R X).slots) (next : ∀ (P1 : pr_T) (Mc1 Mr1 : fm_M) (f1 : Nat → Int64) (la1 : Array Slot), jI P1 Mc1 Mr1 → lv_has la1 7 (ll_lv adC adR o b (nI i)) → cn_G X 644 la1 [] (LW adC adR (cn_tA X) o tL f1 Mc1 Mr1) (cells + 1) (slots + 6)) : cn_G X 390 la [] (LW adC adR (cn_tA X) o tL f Mc Mr) cells slots := by
  have J0 := J
  obtain ⟨hw, jc, jr, -, -, -, ⟨sh, js, js1, js2⟩, -⟩ := J
  refine lc_aload_n C.1.b d_L_law_390 rfl hl 3 rfl ?_
  refine ll_arg (i := i) (j := 1) (p0 := 4) (p1 := 0) C hl rfl rfl (by omega) hL d_L_law_391 d_L_law_392 d_L_law_394 (by decide) d_L_law_395 d_L_law_396 ?_
  refine lc_aload_n C.1.b d_L_law_397 rfl hl 1 rfl ?_
  refine ll_H (na := 3) (as := [.inr 0, .inl (xs (i + 1))]) (st := []) C (k_L_shown Mc js1 (by omega) (xs (i + 1))) hL_shown mL_57 iniL stL_shown ⟨by decide, by decide, by decide +kernel⟩ (by decide) rfl rfl hcc hss hl.1 (Nat.le_of_ble_eq_true rfl) d_L_law_398 (fun k f1 Mc1 hp => ?_)
  refine lc_istore C.1.b d_L_law_401 hl (by decide) rfl (fun la1 hl1 => ?_)
  refine lc_aload_n C.1.b d_L_law_403 rfl hl1 3 rfl ?_
  refine ll_arg (i := i) (j := 1) (p0 := 5) (p1 := 1) C hl1 rfl rfl (by omega) hL d_L_law_404 d_L_law_405 d_L_law_407 (by decide) d_L_law_408 d_L_law_409 ?_
  refine ll_R (as := [.inl (xs (i + 1))]) (st := []) C (k_R_shown Mr js2 (by omega) (xs (i + 1))) cL_59 iL_R_shown sL_R_shown rfl rfl (by omega) (by omega) (by omega) (by omega) hl1.1 (Nat.le_of_ble_eq_true rfl) d_L_law_410 (fun r Mr1 hq => ?_)
  obtain ⟨bx, rfl, hx1⟩ := hq
  obtain ⟨e1, e2, P1, J1⟩ := jh_shn J0 hp hx1
  refine lc_istore (x := bx) (st := []) C.1.b d_L_law_413 hl1 (by decide) rfl (fun la2 hl2 => ?_)
  have fin := next P1 Mc1 Mr1 f1 la2 J1 (lv_tl (lv_tl hl2))
  refine lc_aload_n C.1.b d_L_law_415 rfl hl2 4 rfl ?_
  refine ll_R (as := []) (st := []) C (k_R_thrown Mr1) cL_40 iL_R_thrown sL_R_thrown rfl rfl (by omega) (by omega) (by omega) (by omega) hl2.1 (Nat.le_of_ble_eq_true rfl) d_L_law_416 (fun r Mr2 hp => ?_)
  obtain ⟨q1, q2⟩ := hp
  subst q1
  subst q2
  refine lc_st (st1 := [.int (Mr2 0 0)]) rfl ?_
  refine lc_iload C.1.b d_L_law_419 hl2 1 rfl ?_
  refine lc_icmp_eq (x := Mr2 0 0) (y := k) (st := []) (tgt := 426) C.1.b d_L_law_421 (by decide) (fun _ => ?_) (fun z => absurd e1 z)
  refine lc_iload C.1.b d_L_law_426 hl2 1 rfl ?_
  have fin2 : cn_G X 443 la2 [] (LW adC adR (cn_tA X) o tL f1 Mc1 Mr2) (cells + 1) (slots + 6) := lc_goto (tgt := 644) C.1.b d_L_law_443 (by decide) fin
  refine lc_if_ne (x := k) (st := []) (tgt := 443) C.1.b d_L_law_428 (by decide) (fun _ => fin2) (fun z => ?_)
  have ez := e2 z
  refine lc_aload_n C.1.b d_L_law_431 rfl hl2 3 rfl ?_
  refine lc_iconst (v := nI 0) C.1.b d_L_law_432 (by decide) ?_
  refine lc_laload (i0 := 23) (j := 0) (N := 1) C.1 d_L_law_433 LW_at rfl (by decide) (by decide) ?_
  refine lc_iload C.1.b d_L_law_434 hl2 0 rfl ?_
  refine lc_i2l C.1.b d_L_law_436 ez.symm ?_
  refine lc_lcmp (v := 0) C.1.b d_L_law_437 (lg_cmp_0 _) ?_
  exact lc_if_eq (x := 0) (st := []) (tgt := 443) C.1.b d_L_law_438 (by decide) (fun _ => fin2) (fun q => absurd rfl q)
set_option maxRecDepth 100000 in
set_option maxHeartbeats 4000000 in
theorem law_5 {xs : Nat → Int32} {L b : Nat} {tL : ClassId} {X : cn_X} {la : Array Slot} {cells slots i : Nat} {adC adR : Nat → Nat} {o : Nat} {f : Nat → Int64} {P : pr_T} {Mc Mr : fm_M} (C : ll_C xs L b tL X) (J : jI P Mc Mr) (hl : lv_has la 7 (ll_lv adC adR o b (nI i))) (hi : i + 7 ≤ L) (hL : L < 2 ^ 30) (hcc : cells + 1 ≤ (cn_R X).cells) (hss : slots + 6 ≤ (cn_R X).slots) (next : ∀ (P1 : pr_T) (Mc1 Mr1 : fm_M) (f1 : Nat → Int64) (la1 : Array Slot), jI P1 Mc1 Mr1 → lv_has la1 7 (ll_lv adC adR o b (nI i)) → cn_G X 644 la1 [] (LW adC adR (cn_tA X) o tL f1 Mc1 Mr1) (cells + 1) (slots + 6)) : cn_G X 446 la [] (LW adC adR (cn_tA X) o tL f Mc Mr) cells slots := by
  obtain ⟨pcx, h1, h2⟩ := j_latest J (xs (i + 1))
  refine lc_aload_n C.1.b d_L_law_446 rfl hl 3 rfl ?_
  refine ll_arg (i := i) (j := 1) (p0 := 4) (p1 := 0) C hl rfl rfl (by omega) hL d_L_law_447 d_L_law_448 d_L_law_450 (by decide) d_L_law_451 d_L_law_452 ?_
  refine ll_E (as := [.inl (xs (i + 1))]) (st := []) C h1 cL_60 iL_E_latest sL_E_latest rfl rfl (by omega) (by omega) (by omega) (by omega) hl.1 (Nat.le_of_ble_eq_true rfl) d_L_law_453 (fun r Mc1 hp => ?_)
  obtain ⟨ax, rfl, hx⟩ := hp
  obtain ⟨pr, h3, h4⟩ := h2 ax Mc1 hx
  refine lc_st (st1 := [.int ax]) rfl ?_
  refine lc_aload_n C.1.b d_L_law_456 rfl hl 2 rfl ?_
  refine ll_arg (i := i) (j := 1) (p0 := 4) (p1 := 0) C hl rfl rfl (by omega) hL d_L_law_457 d_L_law_458 d_L_law_460 (by decide) d_L_law_461 d_L_law_462 ?_
  refine ll_R (as := [.inl (xs (i + 1))]) (st := [.int ax]) C h3 cL_63 iL_R_latest sL_R_latest rfl rfl (by omega) (by omega) (by omega) (by omega) hl.1 (Nat.le_of_ble_eq_true rfl) d_L_law_463 (fun r Mr1 hp => ?_)
  obtain ⟨bx, rfl, hx1⟩ := hp
  obtain ⟨e, P1, J1⟩ := h4 bx Mr1 hx1
  refine lc_icmp_eq (x := ax) (y := bx) (st := []) (tgt := 644) C.1.b d_L_law_466 (by decide) (fun _ => ?_) (fun z => absurd e.symm z)
  exact cn_wide (by omega) (by omega) (next P1 Mc1 Mr1 f la J1 hl)
set_option maxRecDepth 100000 in
set_option maxHeartbeats 4000000 in
theorem law_6 {xs : Nat → Int32} {L b : Nat} {tL : ClassId} {X : cn_X} {la : Array Slot} {cells slots i : Nat} {adC adR : Nat → Nat} {o : Nat} {f : Nat → Int64} {P : pr_T} {Mc Mr : fm_M} (C : ll_C xs L b tL X) (J : jI P Mc Mr) (hl : lv_has la 7 (ll_lv adC adR o b (nI i))) (hi : i + 7 ≤ L) (hL : L < 2 ^ 30) (hcc : cells + 1 ≤ (cn_R X).cells) (hss : slots + 6 ≤ (cn_R X).slots) (next : ∀ (P1 : pr_T) (Mc1 Mr1 : fm_M) (f1 : Nat → Int64) (la1 : Array Slot), jI P1 Mc1 Mr1 → lv_has la1 7 (ll_lv adC adR o b (nI i)) → cn_G X 644 la1 [] (LW adC adR (cn_tA X) o tL f1 Mc1 Mr1) (cells + 1) (slots + 6)) : cn_G X 471 la [] (LW adC adR (cn_tA X) o tL f Mc Mr) cells slots := by
  obtain ⟨pcx, h1, h2⟩ := j_escape J (xs (i + 1)) (xs (i + 2))
  refine lc_aload_n C.1.b d_L_law_471 rfl hl 3 rfl ?_
  refine ll_arg (i := i) (j := 1) (p0 := 4) (p1 := 0) C hl rfl rfl (by omega) hL d_L_law_472 d_L_law_473 d_L_law_475 (by decide) d_L_law_476 d_L_law_477 ?_
  refine ll_arg (i := i) (j := 2) (p0 := 4) (p1 := 0) C hl rfl rfl (by omega) hL d_L_law_478 d_L_law_479 d_L_law_481 (by decide) d_L_law_482 d_L_law_483 ?_
  refine ll_E (as := [.inl (xs (i + 1)), .inl (xs (i + 2))]) (st := []) C h1 cL_64 iL_E_escape sL_E_escape rfl rfl (by omega) (by omega) (by omega) (by omega) hl.1 (Nat.le_of_ble_eq_true rfl) d_L_law_484 (fun r Mc1 hp => ?_)
  obtain ⟨ax, rfl, hx⟩ := hp
  obtain ⟨pr, h3, h4⟩ := h2 ax Mc1 hx
  refine lc_st (st1 := [.int ax]) rfl ?_
  refine lc_aload_n C.1.b d_L_law_487 rfl hl 2 rfl ?_
  refine ll_arg (i := i) (j := 1) (p0 := 4) (p1 := 0) C hl rfl rfl (by omega) hL d_L_law_488 d_L_law_489 d_L_law_491 (by decide) d_L_law_492 d_L_law_493 ?_
  refine ll_arg (i := i) (j := 2) (p0 := 4) (p1 := 0) C hl rfl rfl (by omega) hL d_L_law_494 d_L_law_495 d_L_law_497 (by decide) d_L_law_498 d_L_law_499 ?_
  refine ll_R (as := [.inl (xs (i + 1)), .inl (xs (i + 2))]) (st := [.int ax]) C h3 cL_68 iL_R_escape sL_R_escape rfl rfl (by omega) (by omega) (by omega) (by omega) hl.1 (Nat.le_of_ble_eq_true rfl) d_L_law_500 (fun r Mr1 hp => ?_)
  obtain ⟨bx, rfl, hx1⟩ := hp
  obtain ⟨e, P1, J1⟩ := h4 bx Mr1 hx1
  refine lc_icmp_eq (x := ax) (y := bx) (st := []) (tgt := 644) C.1.b d_L_law_503 (by decide) (fun _ => ?_) (fun z => absurd e.symm z)
  exact cn_wide (by omega) (by omega) (next P1 Mc1 Mr1 f la J1 hl)
set_option maxRecDepth 100000 in
set_option maxHeartbeats 4000000 in
theorem law_7 {xs : Nat → Int32} {L b : Nat} {tL : ClassId} {X : cn_X} {la : Array Slot} {cells slots i : Nat} {adC adR : Nat → Nat} {o : Nat} {f : Nat → Int64} {P : pr_T} {Mc Mr : fm_M} (C : ll_C xs L b tL X) (J : jI P Mc Mr) (hl : lv_has la 7 (ll_lv adC adR o b (nI i))) (hi : i + 7 ≤ L) (hL : L < 2 ^ 30) (hcc : cells + 1 ≤ (cn_R X).cells) (hss : slots + 6 ≤ (cn_R X).slots) (next : ∀ (P1 : pr_T) (Mc1 Mr1 : fm_M) (f1 : Nat → Int64) (la1 : Array Slot), jI P1 Mc1 Mr1 → lv_has la1 7 (ll_lv adC adR o b (nI i)) → cn_G X 644 la1 [] (LW adC adR (cn_tA X) o tL f1 Mc1 Mr1) (cells + 1) (slots + 6)) : cn_G X 508 la [] (LW adC adR (cn_tA X) o tL f Mc Mr) cells slots := by
  obtain ⟨pcx, h1, h2⟩ := j_summary J (xs (i + 1)) (xs (i + 2))
  refine lc_aload_n C.1.b d_L_law_508 rfl hl 3 rfl ?_
  refine ll_arg (i := i) (j := 1) (p0 := 4) (p1 := 0) C hl rfl rfl (by omega) hL d_L_law_509 d_L_law_510 d_L_law_512 (by decide) d_L_law_513 d_L_law_514 ?_
  refine ll_arg (i := i) (j := 2) (p0 := 4) (p1 := 0) C hl rfl rfl (by omega) hL d_L_law_515 d_L_law_516 d_L_law_518 (by decide) d_L_law_519 d_L_law_520 ?_
  refine ll_E (as := [.inl (xs (i + 1)), .inl (xs (i + 2))]) (st := []) C h1 cL_69 iL_E_summary sL_E_summary rfl rfl (by omega) (by omega) (by omega) (by omega) hl.1 (Nat.le_of_ble_eq_true rfl) d_L_law_521 (fun r Mc1 hp => ?_)
  obtain ⟨ax, rfl, hx⟩ := hp
  obtain ⟨pr, h3, h4⟩ := h2 ax Mc1 hx
  refine lc_st (st1 := [.int ax]) rfl ?_
  refine lc_aload_n C.1.b d_L_law_524 rfl hl 2 rfl ?_
  refine ll_arg (i := i) (j := 1) (p0 := 4) (p1 := 0) C hl rfl rfl (by omega) hL d_L_law_525 d_L_law_526 d_L_law_528 (by decide) d_L_law_529 d_L_law_530 ?_
  refine ll_arg (i := i) (j := 2) (p0 := 4) (p1 := 0) C hl rfl rfl (by omega) hL d_L_law_531 d_L_law_532 d_L_law_534 (by decide) d_L_law_535 d_L_law_536 ?_
  refine ll_R (as := [.inl (xs (i + 1)), .inl (xs (i + 2))]) (st := [.int ax]) C h3 cL_72 iL_R_summary sL_R_summary rfl rfl (by omega) (by omega) (by omega) (by omega) hl.1 (Nat.le_of_ble_eq_true rfl) d_L_law_537 (fun r Mr1 hp => ?_)
  obtain ⟨bx, rfl, hx1⟩ := hp
  obtain ⟨e, P1, J1⟩ := h4 bx Mr1 hx1
  refine lc_icmp_eq (x := ax) (y := bx) (st := []) (tgt := 644) C.1.b d_L_law_540 (by decide) (fun _ => ?_) (fun z => absurd e.symm z)
  exact cn_wide (by omega) (by omega) (next P1 Mc1 Mr1 f la J1 hl)
set_option maxRecDepth 100000 in
set_option maxHeartbeats 4000000 in
theorem law_8 {xs : Nat → Int32} {L b : Nat} {tL : ClassId} {X : cn_X} {la : Array Slot} {cells slots i : Nat} {adC adR : Nat → Nat} {o : Nat} {f : Nat → Int64} {P : pr_T} {Mc Mr : fm_M} (C : ll_C xs L b tL X) (J : jI P Mc Mr) (hl : lv_has la 7 (ll_lv adC adR o b (nI i))) (hi : i + 7 ≤ L) (hL : L < 2 ^ 30) (hcc : cells + 1 ≤ (cn_R X).cells) (hss : slots + 6 ≤ (cn_R X).slots) (next : ∀ (P1 : pr_T) (Mc1 Mr1 : fm_M) (f1 : Nat → Int64) (la1 : Array Slot), jI P1 Mc1 Mr1 → lv_has la1 7 (ll_lv adC adR o b (nI i)) → cn_G X 644 la1 [] (LW adC adR (cn_tA X) o tL f1 Mc1 Mr1) (cells + 1) (slots + 6)) : cn_G X 545 la [] (LW adC adR (cn_tA X) o tL f Mc Mr) cells slots := by
  obtain ⟨pcx, h1, h2⟩ := j_fate J (xs (i + 1)) (xs (i + 2))
  refine lc_aload_n C.1.b d_L_law_545 rfl hl 3 rfl ?_
  refine ll_arg (i := i) (j := 1) (p0 := 4) (p1 := 0) C hl rfl rfl (by omega) hL d_L_law_546 d_L_law_547 d_L_law_549 (by decide) d_L_law_550 d_L_law_551 ?_
  refine ll_arg (i := i) (j := 2) (p0 := 4) (p1 := 0) C hl rfl rfl (by omega) hL d_L_law_552 d_L_law_553 d_L_law_555 (by decide) d_L_law_556 d_L_law_557 ?_
  refine ll_E (as := [.inl (xs (i + 1)), .inl (xs (i + 2))]) (st := []) C h1 cL_73 iL_E_fate sL_E_fate rfl rfl (by omega) (by omega) (by omega) (by omega) hl.1 (Nat.le_of_ble_eq_true rfl) d_L_law_558 (fun r Mc1 hp => ?_)
  obtain ⟨ax, rfl, hx⟩ := hp
  obtain ⟨pr, h3, h4⟩ := h2 ax Mc1 hx
  refine lc_st (st1 := [.int ax]) rfl ?_
  refine lc_aload_n C.1.b d_L_law_561 rfl hl 2 rfl ?_
  refine ll_arg (i := i) (j := 1) (p0 := 4) (p1 := 0) C hl rfl rfl (by omega) hL d_L_law_562 d_L_law_563 d_L_law_565 (by decide) d_L_law_566 d_L_law_567 ?_
  refine ll_arg (i := i) (j := 2) (p0 := 4) (p1 := 0) C hl rfl rfl (by omega) hL d_L_law_568 d_L_law_569 d_L_law_571 (by decide) d_L_law_572 d_L_law_573 ?_
  refine ll_R (as := [.inl (xs (i + 1)), .inl (xs (i + 2))]) (st := [.int ax]) C h3 cL_76 iL_R_fate sL_R_fate rfl rfl (by omega) (by omega) (by omega) (by omega) hl.1 (Nat.le_of_ble_eq_true rfl) d_L_law_574 (fun r Mr1 hp => ?_)
  obtain ⟨bx, rfl, hx1⟩ := hp
  obtain ⟨e, P1, J1⟩ := h4 bx Mr1 hx1
  refine lc_icmp_eq (x := ax) (y := bx) (st := []) (tgt := 644) C.1.b d_L_law_577 (by decide) (fun _ => ?_) (fun z => absurd e.symm z)
  exact cn_wide (by omega) (by omega) (next P1 Mc1 Mr1 f la J1 hl)
set_option maxRecDepth 100000 in
set_option maxHeartbeats 4000000 in
theorem law_9 {xs : Nat → Int32} {L b : Nat} {tL : ClassId} {X : cn_X} {la : Array Slot} {cells slots i : Nat} {adC adR : Nat → Nat} {o : Nat} {f : Nat → Int64} {P : pr_T} {Mc Mr : fm_M} (C : ll_C xs L b tL X) (J : jI P Mc Mr) (hl : lv_has la 7 (ll_lv adC adR o b (nI i))) (hi : i + 7 ≤ L) (hL : L < 2 ^ 30) (hcc : cells + 1 ≤ (cn_R X).cells) (hss : slots + 6 ≤ (cn_R X).slots) (next : ∀ (P1 : pr_T) (Mc1 Mr1 : fm_M) (f1 : Nat → Int64) (la1 : Array Slot), jI P1 Mc1 Mr1 → lv_has la1 7 (ll_lv adC adR o b (nI i)) → cn_G X 644 la1 [] (LW adC adR (cn_tA X) o tL f1 Mc1 Mr1) (cells + 1) (slots + 6)) : cn_G X 582 la [] (LW adC adR (cn_tA X) o tL f Mc Mr) cells slots := by
  obtain ⟨pcx, h1, h2⟩ := j_may J (xs (i + 1)) (xs (i + 2))
  refine lc_aload_n C.1.b d_L_law_582 rfl hl 3 rfl ?_
  refine ll_arg (i := i) (j := 1) (p0 := 4) (p1 := 0) C hl rfl rfl (by omega) hL d_L_law_583 d_L_law_584 d_L_law_586 (by decide) d_L_law_587 d_L_law_588 ?_
  refine ll_arg (i := i) (j := 2) (p0 := 4) (p1 := 0) C hl rfl rfl (by omega) hL d_L_law_589 d_L_law_590 d_L_law_592 (by decide) d_L_law_593 d_L_law_594 ?_
  refine ll_E (as := [.inl (xs (i + 1)), .inl (xs (i + 2))]) (st := []) C h1 cL_77 iL_E_may sL_E_may rfl rfl (by omega) (by omega) (by omega) (by omega) hl.1 (Nat.le_of_ble_eq_true rfl) d_L_law_595 (fun r Mc1 hp => ?_)
  obtain ⟨ax, rfl, hx⟩ := hp
  obtain ⟨pr, h3, h4⟩ := h2 ax Mc1 hx
  refine lc_st (st1 := [.int ax]) rfl ?_
  refine lc_aload_n C.1.b d_L_law_598 rfl hl 2 rfl ?_
  refine ll_arg (i := i) (j := 1) (p0 := 4) (p1 := 0) C hl rfl rfl (by omega) hL d_L_law_599 d_L_law_600 d_L_law_602 (by decide) d_L_law_603 d_L_law_604 ?_
  refine ll_arg (i := i) (j := 2) (p0 := 4) (p1 := 0) C hl rfl rfl (by omega) hL d_L_law_605 d_L_law_606 d_L_law_608 (by decide) d_L_law_609 d_L_law_610 ?_
  refine ll_R (as := [.inl (xs (i + 1)), .inl (xs (i + 2))]) (st := [.int ax]) C h3 cL_80 iL_R_may sL_R_may rfl rfl (by omega) (by omega) (by omega) (by omega) hl.1 (Nat.le_of_ble_eq_true rfl) d_L_law_611 (fun r Mr1 hp => ?_)
  obtain ⟨bx, rfl, hx1⟩ := hp
  obtain ⟨e, P1, J1⟩ := h4 bx Mr1 hx1
  refine lc_icmp_eq (x := ax) (y := bx) (st := []) (tgt := 644) C.1.b d_L_law_614 (by decide) (fun _ => ?_) (fun z => absurd e.symm z)
  exact cn_wide (by omega) (by omega) (next P1 Mc1 Mr1 f la J1 hl)
set_option maxRecDepth 100000 in
set_option maxHeartbeats 4000000 in
theorem law_10 {xs : Nat → Int32} {L b : Nat} {tL : ClassId} {X : cn_X} {la : Array Slot} {cells slots i : Nat} {adC adR : Nat → Nat} {o : Nat} {f : Nat → Int64} {P : pr_T} {Mc Mr : fm_M} (C : ll_C xs L b tL X) (J : jI P Mc Mr) (hl : lv_has la 7 (ll_lv adC adR o b (nI i))) (hi : i + 7 ≤ L) (hL : L < 2 ^ 30) (hcc : cells + 1 ≤ (cn_R X).cells) (hss : slots + 6 ≤ (cn_R X).slots) (next : ∀ (P1 : pr_T) (Mc1 Mr1 : fm_M) (f1 : Nat → Int64) (la1 : Array Slot), jI P1 Mc1 Mr1 → lv_has la1 7 (ll_lv adC adR o b (nI i)) → cn_G X 644 la1 [] (LW adC adR (cn_tA X) o tL f1 Mc1 Mr1) (cells + 1) (slots + 6)) : cn_G X 619 la [] (LW adC adR (cn_tA X) o tL f Mc Mr) cells slots := by
  obtain ⟨pcx, h1, h2⟩ := j_length J (xs (i + 1))
  refine lc_aload_n C.1.b d_L_law_619 rfl hl 3 rfl ?_
  refine ll_arg (i := i) (j := 1) (p0 := 4) (p1 := 0) C hl rfl rfl (by omega) hL d_L_law_620 d_L_law_621 d_L_law_623 (by decide) d_L_law_624 d_L_law_625 ?_
  refine ll_E (as := [.inl (xs (i + 1))]) (st := []) C h1 cL_81 iL_E_length sL_E_length rfl rfl (by omega) (by omega) (by omega) (by omega) hl.1 (Nat.le_of_ble_eq_true rfl) d_L_law_626 (fun r Mc1 hp => ?_)
  obtain ⟨ax, rfl, hx⟩ := hp
  obtain ⟨pr, h3, h4⟩ := h2 ax Mc1 hx
  refine lc_st (st1 := [.int ax]) rfl ?_
  refine lc_aload_n C.1.b d_L_law_629 rfl hl 2 rfl ?_
  refine ll_arg (i := i) (j := 1) (p0 := 4) (p1 := 0) C hl rfl rfl (by omega) hL d_L_law_630 d_L_law_631 d_L_law_633 (by decide) d_L_law_634 d_L_law_635 ?_
  refine ll_R (as := [.inl (xs (i + 1))]) (st := [.int ax]) C h3 cL_84 iL_R_length sL_R_length rfl rfl (by omega) (by omega) (by omega) (by omega) hl.1 (Nat.le_of_ble_eq_true rfl) d_L_law_636 (fun r Mr1 hp => ?_)
  obtain ⟨bx, rfl, hx1⟩ := hp
  obtain ⟨e, P1, J1⟩ := h4 bx Mr1 hx1
  refine lc_icmp_eq (x := ax) (y := bx) (st := []) (tgt := 644) C.1.b d_L_law_639 (by decide) (fun _ => ?_) (fun z => absurd e.symm z)
  exact cn_wide (by omega) (by omega) (next P1 Mc1 Mr1 f la J1 hl)
