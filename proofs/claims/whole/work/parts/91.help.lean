/-! THE LAW: names, words, decode rows (written by program) -/
abbrev b_L_parameters : ByteArray := method_3_code
def y_L_parameters : MethodName := ⟨"EscapeMillLaw", "parameters", "(LEscapeMill;II[J)I"⟩
abbrev b_L_put : ByteArray := method_4_code
def y_L_put : MethodName := ⟨"EscapeMillLaw", "put", "(LEscapeMill;IIIIII[J)I"⟩
abbrev b_L_clear : ByteArray := method_5_code
def y_L_clear : MethodName := ⟨"EscapeMillLaw", "clear", "(LEscapeMill;I[J)I"⟩
abbrev b_L_shown : ByteArray := method_6_code
def y_L_shown : MethodName := ⟨"EscapeMillLaw", "shown", "(LEscapeMill;I[J)I"⟩
abbrev b_L_law : ByteArray := code
def wH : List Cond := [(Cond.initialized "EscapeMillLaw"), (Cond.classLink "EscapeMillLaw" 8 "EscapeMill"), (Cond.methodLink "EscapeMillLaw" 30 y_E_init), (Cond.methodLink "EscapeMillLaw" 52 y_E_run), (Cond.methodLink "EscapeMillLaw" 60 y_E_latest), (Cond.methodLink "EscapeMillLaw" 64 y_E_escape), (Cond.methodLink "EscapeMillLaw" 69 y_E_summary), (Cond.methodLink "EscapeMillLaw" 73 y_E_fate), (Cond.methodLink "EscapeMillLaw" 77 y_E_may), (Cond.methodLink "EscapeMillLaw" 81 y_E_length), (Cond.methodLink "EscapeMillLaw" 34 y_L_parameters), (Cond.static y_L_parameters), (Cond.codeWith y_L_parameters b_L_parameters 5 (some FieldType.int) [(0, 17, 20, 13)]), (Cond.classLink "EscapeMillLaw" 13 "java/lang/IllegalArgumentException"), (Cond.methodLink "EscapeMillLaw" 7 y_E_parameters), (Cond.methodLink "EscapeMillLaw" 44 y_L_put), (Cond.static y_L_put), (Cond.codeWith y_L_put b_L_put 9 (some FieldType.int) [(0, 18, 21, 13), (0, 18, 25, 19)]), (Cond.classLink "EscapeMillLaw" 19 "java/lang/IllegalStateException"), (Cond.methodLink "EscapeMillLaw" 15 y_E_put), (Cond.methodLink "EscapeMillLaw" 48 y_L_clear), (Cond.static y_L_clear), (Cond.codeWith y_L_clear b_L_clear 4 (some FieldType.int) [(0, 9, 12, 13)]), (Cond.methodLink "EscapeMillLaw" 21 y_E_clear), (Cond.methodLink "EscapeMillLaw" 57 y_L_shown), (Cond.static y_L_shown), (Cond.codeWith y_L_shown b_L_shown 4 (some FieldType.int) [(0, 9, 12, 28)]), (Cond.classLink "EscapeMillLaw" 28 "java/lang/IndexOutOfBoundsException"), (Cond.methodLink "EscapeMillLaw" 25 y_E_shown), (Cond.classLink "EscapeMillLaw" 31 "EscapeMillModel"), (Cond.methodLink "EscapeMillLaw" 33 y_R_init), (Cond.methodLink "EscapeMillLaw" 40 y_R_thrown), (Cond.methodLink "EscapeMillLaw" 39 y_R_parameters), (Cond.methodLink "EscapeMillLaw" 47 y_R_put), (Cond.methodLink "EscapeMillLaw" 51 y_R_clear), (Cond.methodLink "EscapeMillLaw" 56 y_R_run), (Cond.methodLink "EscapeMillLaw" 59 y_R_shown), (Cond.methodLink "EscapeMillLaw" 63 y_R_latest), (Cond.methodLink "EscapeMillLaw" 68 y_R_escape), (Cond.methodLink "EscapeMillLaw" 72 y_R_summary), (Cond.methodLink "EscapeMillLaw" 76 y_R_fate), (Cond.methodLink "EscapeMillLaw" 80 y_R_may), (Cond.methodLink "EscapeMillLaw" 84 y_R_length), (Cond.arrayClass FieldType.long), (Cond.instantiable "EscapeMill" 5), (Cond.instantiable "EscapeMillModel" 30)]
def wsL : List Cond := wH ++ (wI ++ wsT)
theorem wsL_H {w : Cond} (h : w ∈ wH) : w ∈ wsL := List.mem_append_left _ h
theorem wsL_T {w : Cond} (h : w ∈ wsT) : w ∈ wsL := List.mem_append_right _ (List.mem_append_right _ h)
theorem wsL_A {w : Cond} (h : w ∈ wsA) : w ∈ wsL := wsL_T (wsT_A h)
theorem wsL_I {w : Cond} (h : w ∈ wsI) : w ∈ wsL := (List.mem_append.mp h).elim (fun z => List.mem_append_right _ (List.mem_append_left _ z)) wsL_A
set_option maxRecDepth 20000 in
theorem wsL_good : wsL.all goodWord = true := by
  unfold wsL
  rw [List.all_append, List.all_append, wsT_good, Bool.and_true]
  decide +kernel
theorem cL_30 : fm_cs wsL "EscapeMillLaw" 30 y_E_init b_E_init 2 none 0 := ⟨wsL_A (iA_0 (mem_i 8 rfl)), (wsL_H (mem_i 2 rfl)), wsL_A (iA_0 (mem_i 0 rfl)), ⟨by decide, by decide, by decide +kernel⟩, by decide⟩
theorem iL_E_init : Cond.instanceMethod y_E_init ∈ wsL := wsL_A (iA_0 (mem_i 7 rfl))
theorem cL_52 : fm_cs wsL "EscapeMillLaw" 52 y_E_run b_E_run 2 (some .int) 1 := ⟨wsL_A (iA_3 (mem_i 10 rfl)), (wsL_H (mem_i 3 rfl)), wsL_A (iA_0 (mem_i 0 rfl)), ⟨by decide, by decide, by decide +kernel⟩, by decide⟩
theorem iL_E_run : Cond.instanceMethod y_E_run ∈ wsL := wsL_A im_E_run
theorem sL_E_run : Cond.selects "EscapeMill" y_E_run y_E_run ∈ wsL := wsL_A se_E_run
theorem cL_60 : fm_cs wsL "EscapeMillLaw" 60 y_E_latest b_E_latest 2 (some .int) 1 := ⟨wsL_A (iA_7 (mem_i 11 rfl)), (wsL_H (mem_i 4 rfl)), wsL_A (iA_0 (mem_i 0 rfl)), ⟨by decide, by decide, by decide +kernel⟩, by decide⟩
theorem iL_E_latest : Cond.instanceMethod y_E_latest ∈ wsL := wsL_A im_E_latest
theorem sL_E_latest : Cond.selects "EscapeMill" y_E_latest y_E_latest ∈ wsL := wsL_A se_E_latest
theorem cL_64 : fm_cs wsL "EscapeMillLaw" 64 y_E_escape b_E_escape 3 (some .int) 2 := ⟨wsL_A (iA_7 (mem_i 14 rfl)), (wsL_H (mem_i 5 rfl)), wsL_A (iA_0 (mem_i 0 rfl)), ⟨by decide, by decide, by decide +kernel⟩, by decide⟩
theorem iL_E_escape : Cond.instanceMethod y_E_escape ∈ wsL := wsL_A im_E_escape
theorem sL_E_escape : Cond.selects "EscapeMill" y_E_escape y_E_escape ∈ wsL := wsL_A se_E_escape
theorem cL_69 : fm_cs wsL "EscapeMillLaw" 69 y_E_summary b_E_summary 3 (some .int) 2 := ⟨wsL_A (iA_7 (mem_i 22 rfl)), (wsL_H (mem_i 6 rfl)), wsL_A (iA_0 (mem_i 0 rfl)), ⟨by decide, by decide, by decide +kernel⟩, by decide⟩
theorem iL_E_summary : Cond.instanceMethod y_E_summary ∈ wsL := wsL_A im_E_summary
theorem sL_E_summary : Cond.selects "EscapeMill" y_E_summary y_E_summary ∈ wsL := wsL_A se_E_summary
theorem cL_73 : fm_cs wsL "EscapeMillLaw" 73 y_E_fate b_E_fate 3 (some .int) 2 := ⟨wsL_A (iA_7 (mem_i 25 rfl)), (wsL_H (mem_i 7 rfl)), wsL_A (iA_0 (mem_i 0 rfl)), ⟨by decide, by decide, by decide +kernel⟩, by decide⟩
theorem iL_E_fate : Cond.instanceMethod y_E_fate ∈ wsL := wsL_A im_E_fate
theorem sL_E_fate : Cond.selects "EscapeMill" y_E_fate y_E_fate ∈ wsL := wsL_A se_E_fate
theorem cL_77 : fm_cs wsL "EscapeMillLaw" 77 y_E_may b_E_may 3 (some .int) 2 := ⟨wsL_A (iA_7 (mem_i 28 rfl)), (wsL_H (mem_i 8 rfl)), wsL_A (iA_0 (mem_i 0 rfl)), ⟨by decide, by decide, by decide +kernel⟩, by decide⟩
theorem iL_E_may : Cond.instanceMethod y_E_may ∈ wsL := wsL_A im_E_may
theorem sL_E_may : Cond.selects "EscapeMill" y_E_may y_E_may ∈ wsL := wsL_A se_E_may
theorem cL_81 : fm_cs wsL "EscapeMillLaw" 81 y_E_length b_E_length 2 (some .int) 1 := ⟨wsL_A (iA_7 (mem_i 31 rfl)), (wsL_H (mem_i 9 rfl)), wsL_A (iA_0 (mem_i 0 rfl)), ⟨by decide, by decide, by decide +kernel⟩, by decide⟩
theorem iL_E_length : Cond.instanceMethod y_E_length ∈ wsL := wsL_A im_E_length
theorem sL_E_length : Cond.selects "EscapeMill" y_E_length y_E_length ∈ wsL := wsL_A se_E_length
theorem mL_34 : Cond.methodLink "EscapeMillLaw" 34 y_L_parameters ∈ wsL := (wsL_H (mem_i 10 rfl))
theorem stL_parameters : Cond.static y_L_parameters ∈ wsL := (wsL_H (mem_i 11 rfl))
theorem hL_parameters : Cond.codeWith y_L_parameters b_L_parameters 5 (some FieldType.int) [(0, 17, 20, 13)] ∈ wsL := (wsL_H (mem_i 12 rfl))
theorem cL_7 : fm_cs wsL "EscapeMillLaw" 7 y_E_parameters b_E_parameters 3 (some .boolean) 2 := ⟨wsL_A (iA_7 (mem_i 34 rfl)), (wsL_H (mem_i 14 rfl)), wsL_A (iA_0 (mem_i 0 rfl)), ⟨by decide, by decide, by decide +kernel⟩, by decide⟩
theorem iL_E_parameters : Cond.instanceMethod y_E_parameters ∈ wsL := wsL_A im_E_parameters
theorem sL_E_parameters : Cond.selects "EscapeMill" y_E_parameters y_E_parameters ∈ wsL := wsL_A se_E_parameters
theorem mL_44 : Cond.methodLink "EscapeMillLaw" 44 y_L_put ∈ wsL := (wsL_H (mem_i 15 rfl))
theorem stL_put : Cond.static y_L_put ∈ wsL := (wsL_H (mem_i 16 rfl))
theorem hL_put : Cond.codeWith y_L_put b_L_put 9 (some FieldType.int) [(0, 18, 21, 13), (0, 18, 25, 19)] ∈ wsL := (wsL_H (mem_i 17 rfl))
theorem cL_15 : fm_cs wsL "EscapeMillLaw" 15 y_E_put b_E_put 7 (some .int) 6 := ⟨wsL_A (iA_7 (mem_i 38 rfl)), (wsL_H (mem_i 19 rfl)), wsL_A (iA_0 (mem_i 0 rfl)), ⟨by decide, by decide, by decide +kernel⟩, by decide⟩
theorem iL_E_put : Cond.instanceMethod y_E_put ∈ wsL := wsL_A im_E_put
theorem sL_E_put : Cond.selects "EscapeMill" y_E_put y_E_put ∈ wsL := wsL_A se_E_put
theorem mL_48 : Cond.methodLink "EscapeMillLaw" 48 y_L_clear ∈ wsL := (wsL_H (mem_i 20 rfl))
theorem stL_clear : Cond.static y_L_clear ∈ wsL := (wsL_H (mem_i 21 rfl))
theorem hL_clear : Cond.codeWith y_L_clear b_L_clear 4 (some FieldType.int) [(0, 9, 12, 13)] ∈ wsL := (wsL_H (mem_i 22 rfl))
theorem cL_21 : fm_cs wsL "EscapeMillLaw" 21 y_E_clear b_E_clear 3 (some .int) 1 := ⟨wsL_A (iA_8 (mem_i 12 rfl)), (wsL_H (mem_i 23 rfl)), wsL_A (iA_0 (mem_i 0 rfl)), ⟨by decide, by decide, by decide +kernel⟩, by decide⟩
theorem iL_E_clear : Cond.instanceMethod y_E_clear ∈ wsL := wsL_A im_E_clear
theorem sL_E_clear : Cond.selects "EscapeMill" y_E_clear y_E_clear ∈ wsL := wsL_A se_E_clear
theorem mL_57 : Cond.methodLink "EscapeMillLaw" 57 y_L_shown ∈ wsL := (wsL_H (mem_i 24 rfl))
theorem stL_shown : Cond.static y_L_shown ∈ wsL := (wsL_H (mem_i 25 rfl))
theorem hL_shown : Cond.codeWith y_L_shown b_L_shown 4 (some FieldType.int) [(0, 9, 12, 28)] ∈ wsL := (wsL_H (mem_i 26 rfl))
theorem cL_25 : fm_cs wsL "EscapeMillLaw" 25 y_E_shown b_E_shown 2 (some .int) 1 := ⟨wsL_A (iA_8 (mem_i 15 rfl)), (wsL_H (mem_i 28 rfl)), wsL_A (iA_0 (mem_i 0 rfl)), ⟨by decide, by decide, by decide +kernel⟩, by decide⟩
theorem iL_E_shown : Cond.instanceMethod y_E_shown ∈ wsL := wsL_A im_E_shown
theorem sL_E_shown : Cond.selects "EscapeMill" y_E_shown y_E_shown ∈ wsL := wsL_A se_E_shown
theorem cL_33 : fm_cs wsL "EscapeMillLaw" 33 y_R_init b_R_init 1 none 0 := ⟨wsL_A (iA_8 (mem_i 18 rfl)), (wsL_H (mem_i 30 rfl)), wsL_A (iA_0 (mem_i 5 rfl)), ⟨by decide, by decide, by decide +kernel⟩, by decide⟩
theorem iL_R_init : Cond.instanceMethod y_R_init ∈ wsL := wsL_A (iA_8 (mem_i 17 rfl))
theorem cL_40 : fm_cs wsL "EscapeMillLaw" 40 y_R_thrown b_R_thrown 1 (some .int) 0 := ⟨wsL_A (iA_10 (mem_i 2 rfl)), (wsL_H (mem_i 31 rfl)), wsL_A (iA_0 (mem_i 5 rfl)), ⟨by decide, by decide, by decide +kernel⟩, by decide⟩
theorem iL_R_thrown : Cond.instanceMethod y_R_thrown ∈ wsL := wsL_A im_R_thrown
theorem sL_R_thrown : Cond.selects "EscapeMillModel" y_R_thrown y_R_thrown ∈ wsL := wsL_A se_R_thrown
theorem cL_39 : fm_cs wsL "EscapeMillLaw" 39 y_R_parameters b_R_parameters 3 (some .boolean) 2 := ⟨wsL_A (iA_10 (mem_i 5 rfl)), (wsL_H (mem_i 32 rfl)), wsL_A (iA_0 (mem_i 5 rfl)), ⟨by decide, by decide, by decide +kernel⟩, by decide⟩
theorem iL_R_parameters : Cond.instanceMethod y_R_parameters ∈ wsL := wsL_A im_R_parameters
theorem sL_R_parameters : Cond.selects "EscapeMillModel" y_R_parameters y_R_parameters ∈ wsL := wsL_A se_R_parameters
theorem cL_47 : fm_cs wsL "EscapeMillLaw" 47 y_R_put b_R_put 9 (some .int) 6 := ⟨wsL_A (iA_10 (mem_i 11 rfl)), (wsL_H (mem_i 33 rfl)), wsL_A (iA_0 (mem_i 5 rfl)), ⟨by decide, by decide, by decide +kernel⟩, by decide⟩
theorem iL_R_put : Cond.instanceMethod y_R_put ∈ wsL := wsL_A im_R_put
theorem sL_R_put : Cond.selects "EscapeMillModel" y_R_put y_R_put ∈ wsL := wsL_A se_R_put
theorem cL_51 : fm_cs wsL "EscapeMillLaw" 51 y_R_clear b_R_clear 3 (some .int) 1 := ⟨wsL_A (iA_10 (mem_i 17 rfl)), (wsL_H (mem_i 34 rfl)), wsL_A (iA_0 (mem_i 5 rfl)), ⟨by decide, by decide, by decide +kernel⟩, by decide⟩
theorem iL_R_clear : Cond.instanceMethod y_R_clear ∈ wsL := wsL_A im_R_clear
theorem sL_R_clear : Cond.selects "EscapeMillModel" y_R_clear y_R_clear ∈ wsL := wsL_A se_R_clear
theorem cL_56 : fm_cs wsL "EscapeMillLaw" 56 y_R_run b_R_run 5 (some .int) 1 := ⟨wsL_A (iA_10 (mem_i 20 rfl)), (wsL_H (mem_i 35 rfl)), wsL_A (iA_0 (mem_i 5 rfl)), ⟨by decide, by decide, by decide +kernel⟩, by decide⟩
theorem iL_R_run : Cond.instanceMethod y_R_run ∈ wsL := wsL_A im_R_run
theorem sL_R_run : Cond.selects "EscapeMillModel" y_R_run y_R_run ∈ wsL := wsL_A se_R_run
theorem cL_59 : fm_cs wsL "EscapeMillLaw" 59 y_R_shown b_R_shown 2 (some .int) 1 := ⟨wsL_A (iA_12 (mem_i 30 rfl)), (wsL_H (mem_i 36 rfl)), wsL_A (iA_0 (mem_i 5 rfl)), ⟨by decide, by decide, by decide +kernel⟩, by decide⟩
theorem iL_R_shown : Cond.instanceMethod y_R_shown ∈ wsL := wsL_A im_R_shown
theorem sL_R_shown : Cond.selects "EscapeMillModel" y_R_shown y_R_shown ∈ wsL := wsL_A se_R_shown
theorem cL_63 : fm_cs wsL "EscapeMillLaw" 63 y_R_latest b_R_latest 2 (some .int) 1 := ⟨wsL_A (iA_12 (mem_i 33 rfl)), (wsL_H (mem_i 37 rfl)), wsL_A (iA_0 (mem_i 5 rfl)), ⟨by decide, by decide, by decide +kernel⟩, by decide⟩
theorem iL_R_latest : Cond.instanceMethod y_R_latest ∈ wsL := wsL_A im_R_latest
theorem sL_R_latest : Cond.selects "EscapeMillModel" y_R_latest y_R_latest ∈ wsL := wsL_A se_R_latest
theorem cL_68 : fm_cs wsL "EscapeMillLaw" 68 y_R_escape b_R_escape 3 (some .int) 2 := ⟨wsL_A (iA_12 (mem_i 36 rfl)), (wsL_H (mem_i 38 rfl)), wsL_A (iA_0 (mem_i 5 rfl)), ⟨by decide, by decide, by decide +kernel⟩, by decide⟩
theorem iL_R_escape : Cond.instanceMethod y_R_escape ∈ wsL := wsL_A im_R_escape
theorem sL_R_escape : Cond.selects "EscapeMillModel" y_R_escape y_R_escape ∈ wsL := wsL_A se_R_escape
theorem cL_72 : fm_cs wsL "EscapeMillLaw" 72 y_R_summary b_R_summary 3 (some .int) 2 := ⟨wsL_A (iA_12 (mem_i 39 rfl)), (wsL_H (mem_i 39 rfl)), wsL_A (iA_0 (mem_i 5 rfl)), ⟨by decide, by decide, by decide +kernel⟩, by decide⟩
theorem iL_R_summary : Cond.instanceMethod y_R_summary ∈ wsL := wsL_A im_R_summary
theorem sL_R_summary : Cond.selects "EscapeMillModel" y_R_summary y_R_summary ∈ wsL := wsL_A se_R_summary
theorem cL_76 : fm_cs wsL "EscapeMillLaw" 76 y_R_fate b_R_fate 3 (some .int) 2 := ⟨wsL_A (iA_13 (mem_i 2 rfl)), (wsL_H (mem_i 40 rfl)), wsL_A (iA_0 (mem_i 5 rfl)), ⟨by decide, by decide, by decide +kernel⟩, by decide⟩
theorem iL_R_fate : Cond.instanceMethod y_R_fate ∈ wsL := wsL_A im_R_fate
theorem sL_R_fate : Cond.selects "EscapeMillModel" y_R_fate y_R_fate ∈ wsL := wsL_A se_R_fate
theorem cL_80 : fm_cs wsL "EscapeMillLaw" 80 y_R_may b_R_may 3 (some .int) 2 := ⟨wsL_A (iA_13 (mem_i 5 rfl)), (wsL_H (mem_i 41 rfl)), wsL_A (iA_0 (mem_i 5 rfl)), ⟨by decide, by decide, by decide +kernel⟩, by decide⟩
theorem iL_R_may : Cond.instanceMethod y_R_may ∈ wsL := wsL_A im_R_may
theorem sL_R_may : Cond.selects "EscapeMillModel" y_R_may y_R_may ∈ wsL := wsL_A se_R_may
theorem cL_84 : fm_cs wsL "EscapeMillLaw" 84 y_R_length b_R_length 2 (some .int) 1 := ⟨wsL_A (iA_13 (mem_i 8 rfl)), (wsL_H (mem_i 42 rfl)), wsL_A (iA_0 (mem_i 5 rfl)), ⟨by decide, by decide, by decide +kernel⟩, by decide⟩
theorem iL_R_length : Cond.instanceMethod y_R_length ∈ wsL := wsL_A im_R_length
theorem sL_R_length : Cond.selects "EscapeMillModel" y_R_length y_R_length ∈ wsL := wsL_A se_R_length
theorem kL_IAE : Cond.classLink "EscapeMillLaw" 13 nIAE ∈ wsL := (wsL_H (mem_i 13 rfl))
theorem kL_ISE : Cond.classLink "EscapeMillLaw" 19 nISE ∈ wsL := (wsL_H (mem_i 18 rfl))
theorem kL_IOB : Cond.classLink "EscapeMillLaw" 28 nIOB ∈ wsL := (wsL_H (mem_i 27 rfl))
theorem kL_E : Cond.classLink "EscapeMillLaw" 8 nE ∈ wsL := (wsL_H (mem_i 1 rfl))
theorem kL_R : Cond.classLink "EscapeMillLaw" 31 nR ∈ wsL := (wsL_H (mem_i 29 rfl))
theorem iniL : Cond.initialized "EscapeMillLaw" ∈ wsL := (wsL_H (mem_i 0 rfl))
theorem aL_long : Cond.arrayClass .long ∈ wsL := (wsL_H (mem_i 43 rfl))
theorem inL_E : Cond.instantiable nE 5 ∈ wsL := (wsL_H (mem_i 44 rfl))
theorem inL_R : Cond.instantiable nR 30 ∈ wsL := (wsL_H (mem_i 45 rfl))
theorem d_L_parameters_0 : decode b_L_parameters 0 = .ok (.aload_n 3, 1) := by decide +kernel
theorem d_L_parameters_1 : decode b_L_parameters 1 = .ok (.iconst 0, 1) := by decide +kernel
theorem d_L_parameters_2 : decode b_L_parameters 2 = .ok (.aload_n 0, 1) := by decide +kernel
theorem d_L_parameters_3 : decode b_L_parameters 3 = .ok (.iload_n 1, 1) := by decide +kernel
theorem d_L_parameters_4 : decode b_L_parameters 4 = .ok (.iload_n 2, 1) := by decide +kernel
theorem d_L_parameters_5 : decode b_L_parameters 5 = .ok (.invokevirtual 7, 3) := by decide +kernel
theorem d_L_parameters_8 : decode b_L_parameters 8 = .ok (.ifCond .eq (7), 3) := by decide +kernel
theorem d_L_parameters_11 : decode b_L_parameters 11 = .ok (.lconst 1, 1) := by decide +kernel
theorem d_L_parameters_12 : decode b_L_parameters 12 = .ok (.goto (4), 3) := by decide +kernel
theorem d_L_parameters_15 : decode b_L_parameters 15 = .ok (.lconst 0, 1) := by decide +kernel
theorem d_L_parameters_16 : decode b_L_parameters 16 = .ok (.lastore, 1) := by decide +kernel
theorem d_L_parameters_17 : decode b_L_parameters 17 = .ok (.goto (7), 3) := by decide +kernel
theorem d_L_parameters_20 : decode b_L_parameters 20 = .ok (.astore 4, 2) := by decide +kernel
theorem d_L_parameters_22 : decode b_L_parameters 22 = .ok (.iconst 1, 1) := by decide +kernel
theorem d_L_parameters_23 : decode b_L_parameters 23 = .ok (.ireturn, 1) := by decide +kernel
theorem d_L_parameters_24 : decode b_L_parameters 24 = .ok (.iconst 0, 1) := by decide +kernel
theorem d_L_parameters_25 : decode b_L_parameters 25 = .ok (.ireturn, 1) := by decide +kernel
theorem d_L_put_0 : decode b_L_put 0 = .ok (.aload 7, 2) := by decide +kernel
theorem d_L_put_2 : decode b_L_put 2 = .ok (.iconst 0, 1) := by decide +kernel
theorem d_L_put_3 : decode b_L_put 3 = .ok (.aload_n 0, 1) := by decide +kernel
theorem d_L_put_4 : decode b_L_put 4 = .ok (.iload_n 1, 1) := by decide +kernel
theorem d_L_put_5 : decode b_L_put 5 = .ok (.iload_n 2, 1) := by decide +kernel
theorem d_L_put_6 : decode b_L_put 6 = .ok (.iload_n 3, 1) := by decide +kernel
theorem d_L_put_7 : decode b_L_put 7 = .ok (.iload 4, 2) := by decide +kernel
theorem d_L_put_9 : decode b_L_put 9 = .ok (.iload 5, 2) := by decide +kernel
theorem d_L_put_11 : decode b_L_put 11 = .ok (.iload 6, 2) := by decide +kernel
theorem d_L_put_13 : decode b_L_put 13 = .ok (.invokevirtual 15, 3) := by decide +kernel
theorem d_L_put_16 : decode b_L_put 16 = .ok (.i2l, 1) := by decide +kernel
theorem d_L_put_17 : decode b_L_put 17 = .ok (.lastore, 1) := by decide +kernel
theorem d_L_put_18 : decode b_L_put 18 = .ok (.goto (11), 3) := by decide +kernel
theorem d_L_put_21 : decode b_L_put 21 = .ok (.astore 8, 2) := by decide +kernel
theorem d_L_put_23 : decode b_L_put 23 = .ok (.iconst 1, 1) := by decide +kernel
theorem d_L_put_24 : decode b_L_put 24 = .ok (.ireturn, 1) := by decide +kernel
theorem d_L_put_25 : decode b_L_put 25 = .ok (.astore 8, 2) := by decide +kernel
theorem d_L_put_27 : decode b_L_put 27 = .ok (.iconst 2, 1) := by decide +kernel
theorem d_L_put_28 : decode b_L_put 28 = .ok (.ireturn, 1) := by decide +kernel
theorem d_L_put_29 : decode b_L_put 29 = .ok (.iconst 0, 1) := by decide +kernel
theorem d_L_put_30 : decode b_L_put 30 = .ok (.ireturn, 1) := by decide +kernel
theorem d_L_clear_0 : decode b_L_clear 0 = .ok (.aload_n 2, 1) := by decide +kernel
theorem d_L_clear_1 : decode b_L_clear 1 = .ok (.iconst 0, 1) := by decide +kernel
theorem d_L_clear_2 : decode b_L_clear 2 = .ok (.aload_n 0, 1) := by decide +kernel
theorem d_L_clear_3 : decode b_L_clear 3 = .ok (.iload_n 1, 1) := by decide +kernel
theorem d_L_clear_4 : decode b_L_clear 4 = .ok (.invokevirtual 21, 3) := by decide +kernel
theorem d_L_clear_7 : decode b_L_clear 7 = .ok (.i2l, 1) := by decide +kernel
theorem d_L_clear_8 : decode b_L_clear 8 = .ok (.lastore, 1) := by decide +kernel
theorem d_L_clear_9 : decode b_L_clear 9 = .ok (.goto (6), 3) := by decide +kernel
theorem d_L_clear_12 : decode b_L_clear 12 = .ok (.astore_n 3, 1) := by decide +kernel
theorem d_L_clear_13 : decode b_L_clear 13 = .ok (.iconst 1, 1) := by decide +kernel
theorem d_L_clear_14 : decode b_L_clear 14 = .ok (.ireturn, 1) := by decide +kernel
theorem d_L_clear_15 : decode b_L_clear 15 = .ok (.iconst 0, 1) := by decide +kernel
theorem d_L_clear_16 : decode b_L_clear 16 = .ok (.ireturn, 1) := by decide +kernel
theorem d_L_shown_0 : decode b_L_shown 0 = .ok (.aload_n 2, 1) := by decide +kernel
theorem d_L_shown_1 : decode b_L_shown 1 = .ok (.iconst 0, 1) := by decide +kernel
theorem d_L_shown_2 : decode b_L_shown 2 = .ok (.aload_n 0, 1) := by decide +kernel
theorem d_L_shown_3 : decode b_L_shown 3 = .ok (.iload_n 1, 1) := by decide +kernel
theorem d_L_shown_4 : decode b_L_shown 4 = .ok (.invokevirtual 25, 3) := by decide +kernel
theorem d_L_shown_7 : decode b_L_shown 7 = .ok (.i2l, 1) := by decide +kernel
theorem d_L_shown_8 : decode b_L_shown 8 = .ok (.lastore, 1) := by decide +kernel
theorem d_L_shown_9 : decode b_L_shown 9 = .ok (.goto (6), 3) := by decide +kernel
theorem d_L_shown_12 : decode b_L_shown 12 = .ok (.astore_n 3, 1) := by decide +kernel
theorem d_L_shown_13 : decode b_L_shown 13 = .ok (.iconst 1, 1) := by decide +kernel
theorem d_L_shown_14 : decode b_L_shown 14 = .ok (.ireturn, 1) := by decide +kernel
theorem d_L_shown_15 : decode b_L_shown 15 = .ok (.iconst 0, 1) := by decide +kernel
theorem d_L_shown_16 : decode b_L_shown 16 = .ok (.ireturn, 1) := by decide +kernel
theorem d_L_law_0 : decode b_L_law 0 = .ok (.new 8, 3) := by decide +kernel
theorem d_L_law_3 : decode b_L_law 3 = .ok (.dup, 1) := by decide +kernel
theorem d_L_law_4 : decode b_L_law 4 = .ok (.invokespecial 30, 3) := by decide +kernel
theorem d_L_law_7 : decode b_L_law 7 = .ok (.astore_n 1, 1) := by decide +kernel
theorem d_L_law_8 : decode b_L_law 8 = .ok (.new 31, 3) := by decide +kernel
theorem d_L_law_11 : decode b_L_law 11 = .ok (.dup, 1) := by decide +kernel
theorem d_L_law_12 : decode b_L_law 12 = .ok (.invokespecial 33, 3) := by decide +kernel
theorem d_L_law_15 : decode b_L_law 15 = .ok (.astore_n 2, 1) := by decide +kernel
theorem d_L_law_16 : decode b_L_law 16 = .ok (.iconst 1, 1) := by decide +kernel
theorem d_L_law_17 : decode b_L_law 17 = .ok (.newarray .long, 2) := by decide +kernel
theorem d_L_law_19 : decode b_L_law 19 = .ok (.astore_n 3, 1) := by decide +kernel
theorem d_L_law_20 : decode b_L_law 20 = .ok (.iconst 0, 1) := by decide +kernel
theorem d_L_law_21 : decode b_L_law 21 = .ok (.istore 4, 2) := by decide +kernel
theorem d_L_law_23 : decode b_L_law 23 = .ok (.iload 4, 2) := by decide +kernel
theorem d_L_law_25 : decode b_L_law 25 = .ok (.aload_n 0, 1) := by decide +kernel
theorem d_L_law_26 : decode b_L_law 26 = .ok (.arraylength, 1) := by decide +kernel
theorem d_L_law_27 : decode b_L_law 27 = .ok (.bipush (7), 2) := by decide +kernel
theorem d_L_law_29 : decode b_L_law 29 = .ok (.isub, 1) := by decide +kernel
theorem d_L_law_30 : decode b_L_law 30 = .ok (.if_icmp .gt (620), 3) := by decide +kernel
theorem d_L_law_33 : decode b_L_law 33 = .ok (.aload_n 0, 1) := by decide +kernel
theorem d_L_law_34 : decode b_L_law 34 = .ok (.iload 4, 2) := by decide +kernel
theorem d_L_law_36 : decode b_L_law 36 = .ok (.iaload, 1) := by decide +kernel
theorem d_L_law_37 : decode b_L_law 37 = .ok (.bipush (15), 2) := by decide +kernel
theorem d_L_law_39 : decode b_L_law 39 = .ok (.iand, 1) := by decide +kernel
theorem d_L_law_40 : decode b_L_law 40 = .ok (.tableswitch (604) (0) (10) #[60, 135, 253, 309, 350, 406, 431, 468, 505, 542, 579], 60) := by decide +kernel
theorem d_L_law_100 : decode b_L_law 100 = .ok (.aload_n 1, 1) := by decide +kernel
theorem d_L_law_101 : decode b_L_law 101 = .ok (.aload_n 0, 1) := by decide +kernel
theorem d_L_law_102 : decode b_L_law 102 = .ok (.iload 4, 2) := by decide +kernel
theorem d_L_law_104 : decode b_L_law 104 = .ok (.iconst 1, 1) := by decide +kernel
theorem d_L_law_105 : decode b_L_law 105 = .ok (.iadd, 1) := by decide +kernel
theorem d_L_law_106 : decode b_L_law 106 = .ok (.iaload, 1) := by decide +kernel
theorem d_L_law_107 : decode b_L_law 107 = .ok (.aload_n 0, 1) := by decide +kernel
theorem d_L_law_108 : decode b_L_law 108 = .ok (.iload 4, 2) := by decide +kernel
theorem d_L_law_110 : decode b_L_law 110 = .ok (.iconst 2, 1) := by decide +kernel
theorem d_L_law_111 : decode b_L_law 111 = .ok (.iadd, 1) := by decide +kernel
theorem d_L_law_112 : decode b_L_law 112 = .ok (.iaload, 1) := by decide +kernel
theorem d_L_law_113 : decode b_L_law 113 = .ok (.aload_n 3, 1) := by decide +kernel
theorem d_L_law_114 : decode b_L_law 114 = .ok (.invokestatic 34, 3) := by decide +kernel
theorem d_L_law_117 : decode b_L_law 117 = .ok (.istore 5, 2) := by decide +kernel
theorem d_L_law_119 : decode b_L_law 119 = .ok (.aload_n 2, 1) := by decide +kernel
theorem d_L_law_120 : decode b_L_law 120 = .ok (.aload_n 0, 1) := by decide +kernel
theorem d_L_law_121 : decode b_L_law 121 = .ok (.iload 4, 2) := by decide +kernel
theorem d_L_law_123 : decode b_L_law 123 = .ok (.iconst 1, 1) := by decide +kernel
theorem d_L_law_124 : decode b_L_law 124 = .ok (.iadd, 1) := by decide +kernel
theorem d_L_law_125 : decode b_L_law 125 = .ok (.iaload, 1) := by decide +kernel
theorem d_L_law_126 : decode b_L_law 126 = .ok (.aload_n 0, 1) := by decide +kernel
theorem d_L_law_127 : decode b_L_law 127 = .ok (.iload 4, 2) := by decide +kernel
theorem d_L_law_129 : decode b_L_law 129 = .ok (.iconst 2, 1) := by decide +kernel
theorem d_L_law_130 : decode b_L_law 130 = .ok (.iadd, 1) := by decide +kernel
theorem d_L_law_131 : decode b_L_law 131 = .ok (.iaload, 1) := by decide +kernel
theorem d_L_law_132 : decode b_L_law 132 = .ok (.invokevirtual 39, 3) := by decide +kernel
theorem d_L_law_135 : decode b_L_law 135 = .ok (.istore 6, 2) := by decide +kernel
theorem d_L_law_137 : decode b_L_law 137 = .ok (.aload_n 2, 1) := by decide +kernel
theorem d_L_law_138 : decode b_L_law 138 = .ok (.invokevirtual 40, 3) := by decide +kernel
theorem d_L_law_141 : decode b_L_law 141 = .ok (.iload 5, 2) := by decide +kernel
theorem d_L_law_143 : decode b_L_law 143 = .ok (.if_icmp .eq (5), 3) := by decide +kernel
theorem d_L_law_146 : decode b_L_law 146 = .ok (.iconst 0, 1) := by decide +kernel
theorem d_L_law_147 : decode b_L_law 147 = .ok (.ireturn, 1) := by decide +kernel
theorem d_L_law_148 : decode b_L_law 148 = .ok (.iload 5, 2) := by decide +kernel
theorem d_L_law_150 : decode b_L_law 150 = .ok (.ifCond .ne (22), 3) := by decide +kernel
theorem d_L_law_153 : decode b_L_law 153 = .ok (.aload_n 3, 1) := by decide +kernel
theorem d_L_law_154 : decode b_L_law 154 = .ok (.iconst 0, 1) := by decide +kernel
theorem d_L_law_155 : decode b_L_law 155 = .ok (.laload, 1) := by decide +kernel
theorem d_L_law_156 : decode b_L_law 156 = .ok (.iload 6, 2) := by decide +kernel
theorem d_L_law_158 : decode b_L_law 158 = .ok (.ifCond .eq (7), 3) := by decide +kernel
theorem d_L_law_161 : decode b_L_law 161 = .ok (.lconst 1, 1) := by decide +kernel
theorem d_L_law_162 : decode b_L_law 162 = .ok (.goto (4), 3) := by decide +kernel
theorem d_L_law_165 : decode b_L_law 165 = .ok (.lconst 0, 1) := by decide +kernel
theorem d_L_law_166 : decode b_L_law 166 = .ok (.lcmp, 1) := by decide +kernel
theorem d_L_law_167 : decode b_L_law 167 = .ok (.ifCond .eq (5), 3) := by decide +kernel
theorem d_L_law_170 : decode b_L_law 170 = .ok (.iconst 0, 1) := by decide +kernel
theorem d_L_law_171 : decode b_L_law 171 = .ok (.ireturn, 1) := by decide +kernel
theorem d_L_law_172 : decode b_L_law 172 = .ok (.goto (472), 3) := by decide +kernel
theorem d_L_law_175 : decode b_L_law 175 = .ok (.aload_n 1, 1) := by decide +kernel
theorem d_L_law_176 : decode b_L_law 176 = .ok (.aload_n 0, 1) := by decide +kernel
theorem d_L_law_177 : decode b_L_law 177 = .ok (.iload 4, 2) := by decide +kernel
theorem d_L_law_179 : decode b_L_law 179 = .ok (.iconst 1, 1) := by decide +kernel
theorem d_L_law_180 : decode b_L_law 180 = .ok (.iadd, 1) := by decide +kernel
theorem d_L_law_181 : decode b_L_law 181 = .ok (.iaload, 1) := by decide +kernel
theorem d_L_law_182 : decode b_L_law 182 = .ok (.aload_n 0, 1) := by decide +kernel
theorem d_L_law_183 : decode b_L_law 183 = .ok (.iload 4, 2) := by decide +kernel
theorem d_L_law_185 : decode b_L_law 185 = .ok (.iconst 2, 1) := by decide +kernel
theorem d_L_law_186 : decode b_L_law 186 = .ok (.iadd, 1) := by decide +kernel
theorem d_L_law_187 : decode b_L_law 187 = .ok (.iaload, 1) := by decide +kernel
theorem d_L_law_188 : decode b_L_law 188 = .ok (.aload_n 0, 1) := by decide +kernel
theorem d_L_law_189 : decode b_L_law 189 = .ok (.iload 4, 2) := by decide +kernel
theorem d_L_law_191 : decode b_L_law 191 = .ok (.iconst 3, 1) := by decide +kernel
theorem d_L_law_192 : decode b_L_law 192 = .ok (.iadd, 1) := by decide +kernel
theorem d_L_law_193 : decode b_L_law 193 = .ok (.iaload, 1) := by decide +kernel
theorem d_L_law_194 : decode b_L_law 194 = .ok (.aload_n 0, 1) := by decide +kernel
theorem d_L_law_195 : decode b_L_law 195 = .ok (.iload 4, 2) := by decide +kernel
theorem d_L_law_197 : decode b_L_law 197 = .ok (.iconst 4, 1) := by decide +kernel
theorem d_L_law_198 : decode b_L_law 198 = .ok (.iadd, 1) := by decide +kernel
theorem d_L_law_199 : decode b_L_law 199 = .ok (.iaload, 1) := by decide +kernel
theorem d_L_law_200 : decode b_L_law 200 = .ok (.aload_n 0, 1) := by decide +kernel
theorem d_L_law_201 : decode b_L_law 201 = .ok (.iload 4, 2) := by decide +kernel
theorem d_L_law_203 : decode b_L_law 203 = .ok (.iconst 5, 1) := by decide +kernel
theorem d_L_law_204 : decode b_L_law 204 = .ok (.iadd, 1) := by decide +kernel
theorem d_L_law_205 : decode b_L_law 205 = .ok (.iaload, 1) := by decide +kernel
theorem d_L_law_206 : decode b_L_law 206 = .ok (.aload_n 0, 1) := by decide +kernel
theorem d_L_law_207 : decode b_L_law 207 = .ok (.iload 4, 2) := by decide +kernel
theorem d_L_law_209 : decode b_L_law 209 = .ok (.bipush (6), 2) := by decide +kernel
theorem d_L_law_211 : decode b_L_law 211 = .ok (.iadd, 1) := by decide +kernel
theorem d_L_law_212 : decode b_L_law 212 = .ok (.iaload, 1) := by decide +kernel
theorem d_L_law_213 : decode b_L_law 213 = .ok (.aload_n 3, 1) := by decide +kernel
theorem d_L_law_214 : decode b_L_law 214 = .ok (.invokestatic 44, 3) := by decide +kernel
theorem d_L_law_217 : decode b_L_law 217 = .ok (.istore 5, 2) := by decide +kernel
theorem d_L_law_219 : decode b_L_law 219 = .ok (.aload_n 2, 1) := by decide +kernel
theorem d_L_law_220 : decode b_L_law 220 = .ok (.aload_n 0, 1) := by decide +kernel
theorem d_L_law_221 : decode b_L_law 221 = .ok (.iload 4, 2) := by decide +kernel
theorem d_L_law_223 : decode b_L_law 223 = .ok (.iconst 1, 1) := by decide +kernel
theorem d_L_law_224 : decode b_L_law 224 = .ok (.iadd, 1) := by decide +kernel
theorem d_L_law_225 : decode b_L_law 225 = .ok (.iaload, 1) := by decide +kernel
theorem d_L_law_226 : decode b_L_law 226 = .ok (.aload_n 0, 1) := by decide +kernel
theorem d_L_law_227 : decode b_L_law 227 = .ok (.iload 4, 2) := by decide +kernel
theorem d_L_law_229 : decode b_L_law 229 = .ok (.iconst 2, 1) := by decide +kernel
theorem d_L_law_230 : decode b_L_law 230 = .ok (.iadd, 1) := by decide +kernel
theorem d_L_law_231 : decode b_L_law 231 = .ok (.iaload, 1) := by decide +kernel
theorem d_L_law_232 : decode b_L_law 232 = .ok (.aload_n 0, 1) := by decide +kernel
theorem d_L_law_233 : decode b_L_law 233 = .ok (.iload 4, 2) := by decide +kernel
theorem d_L_law_235 : decode b_L_law 235 = .ok (.iconst 3, 1) := by decide +kernel
theorem d_L_law_236 : decode b_L_law 236 = .ok (.iadd, 1) := by decide +kernel
theorem d_L_law_237 : decode b_L_law 237 = .ok (.iaload, 1) := by decide +kernel
theorem d_L_law_238 : decode b_L_law 238 = .ok (.aload_n 0, 1) := by decide +kernel
theorem d_L_law_239 : decode b_L_law 239 = .ok (.iload 4, 2) := by decide +kernel
theorem d_L_law_241 : decode b_L_law 241 = .ok (.iconst 4, 1) := by decide +kernel
theorem d_L_law_242 : decode b_L_law 242 = .ok (.iadd, 1) := by decide +kernel
theorem d_L_law_243 : decode b_L_law 243 = .ok (.iaload, 1) := by decide +kernel
theorem d_L_law_244 : decode b_L_law 244 = .ok (.aload_n 0, 1) := by decide +kernel
theorem d_L_law_245 : decode b_L_law 245 = .ok (.iload 4, 2) := by decide +kernel
theorem d_L_law_247 : decode b_L_law 247 = .ok (.iconst 5, 1) := by decide +kernel
theorem d_L_law_248 : decode b_L_law 248 = .ok (.iadd, 1) := by decide +kernel
theorem d_L_law_249 : decode b_L_law 249 = .ok (.iaload, 1) := by decide +kernel
theorem d_L_law_250 : decode b_L_law 250 = .ok (.aload_n 0, 1) := by decide +kernel
theorem d_L_law_251 : decode b_L_law 251 = .ok (.iload 4, 2) := by decide +kernel
theorem d_L_law_253 : decode b_L_law 253 = .ok (.bipush (6), 2) := by decide +kernel
theorem d_L_law_255 : decode b_L_law 255 = .ok (.iadd, 1) := by decide +kernel
theorem d_L_law_256 : decode b_L_law 256 = .ok (.iaload, 1) := by decide +kernel
theorem d_L_law_257 : decode b_L_law 257 = .ok (.invokevirtual 47, 3) := by decide +kernel
theorem d_L_law_260 : decode b_L_law 260 = .ok (.istore 6, 2) := by decide +kernel
theorem d_L_law_262 : decode b_L_law 262 = .ok (.aload_n 2, 1) := by decide +kernel
theorem d_L_law_263 : decode b_L_law 263 = .ok (.invokevirtual 40, 3) := by decide +kernel
theorem d_L_law_266 : decode b_L_law 266 = .ok (.iload 5, 2) := by decide +kernel
theorem d_L_law_268 : decode b_L_law 268 = .ok (.if_icmp .eq (5), 3) := by decide +kernel
theorem d_L_law_271 : decode b_L_law 271 = .ok (.iconst 0, 1) := by decide +kernel
theorem d_L_law_272 : decode b_L_law 272 = .ok (.ireturn, 1) := by decide +kernel
theorem d_L_law_273 : decode b_L_law 273 = .ok (.iload 5, 2) := by decide +kernel
theorem d_L_law_275 : decode b_L_law 275 = .ok (.ifCond .ne (15), 3) := by decide +kernel
theorem d_L_law_278 : decode b_L_law 278 = .ok (.aload_n 3, 1) := by decide +kernel
theorem d_L_law_279 : decode b_L_law 279 = .ok (.iconst 0, 1) := by decide +kernel
theorem d_L_law_280 : decode b_L_law 280 = .ok (.laload, 1) := by decide +kernel
theorem d_L_law_281 : decode b_L_law 281 = .ok (.iload 6, 2) := by decide +kernel
theorem d_L_law_283 : decode b_L_law 283 = .ok (.i2l, 1) := by decide +kernel
theorem d_L_law_284 : decode b_L_law 284 = .ok (.lcmp, 1) := by decide +kernel
theorem d_L_law_285 : decode b_L_law 285 = .ok (.ifCond .eq (5), 3) := by decide +kernel
theorem d_L_law_288 : decode b_L_law 288 = .ok (.iconst 0, 1) := by decide +kernel
theorem d_L_law_289 : decode b_L_law 289 = .ok (.ireturn, 1) := by decide +kernel
theorem d_L_law_290 : decode b_L_law 290 = .ok (.goto (354), 3) := by decide +kernel
theorem d_L_law_293 : decode b_L_law 293 = .ok (.aload_n 1, 1) := by decide +kernel
theorem d_L_law_294 : decode b_L_law 294 = .ok (.aload_n 0, 1) := by decide +kernel
theorem d_L_law_295 : decode b_L_law 295 = .ok (.iload 4, 2) := by decide +kernel
theorem d_L_law_297 : decode b_L_law 297 = .ok (.iconst 1, 1) := by decide +kernel
theorem d_L_law_298 : decode b_L_law 298 = .ok (.iadd, 1) := by decide +kernel
theorem d_L_law_299 : decode b_L_law 299 = .ok (.iaload, 1) := by decide +kernel
theorem d_L_law_300 : decode b_L_law 300 = .ok (.aload_n 3, 1) := by decide +kernel
theorem d_L_law_301 : decode b_L_law 301 = .ok (.invokestatic 48, 3) := by decide +kernel
theorem d_L_law_304 : decode b_L_law 304 = .ok (.istore 5, 2) := by decide +kernel
theorem d_L_law_306 : decode b_L_law 306 = .ok (.aload_n 2, 1) := by decide +kernel
theorem d_L_law_307 : decode b_L_law 307 = .ok (.aload_n 0, 1) := by decide +kernel
theorem d_L_law_308 : decode b_L_law 308 = .ok (.iload 4, 2) := by decide +kernel
theorem d_L_law_310 : decode b_L_law 310 = .ok (.iconst 1, 1) := by decide +kernel
theorem d_L_law_311 : decode b_L_law 311 = .ok (.iadd, 1) := by decide +kernel
theorem d_L_law_312 : decode b_L_law 312 = .ok (.iaload, 1) := by decide +kernel
theorem d_L_law_313 : decode b_L_law 313 = .ok (.invokevirtual 51, 3) := by decide +kernel
theorem d_L_law_316 : decode b_L_law 316 = .ok (.istore 6, 2) := by decide +kernel
theorem d_L_law_318 : decode b_L_law 318 = .ok (.aload_n 2, 1) := by decide +kernel
theorem d_L_law_319 : decode b_L_law 319 = .ok (.invokevirtual 40, 3) := by decide +kernel
theorem d_L_law_322 : decode b_L_law 322 = .ok (.iload 5, 2) := by decide +kernel
theorem d_L_law_324 : decode b_L_law 324 = .ok (.if_icmp .eq (5), 3) := by decide +kernel
theorem d_L_law_327 : decode b_L_law 327 = .ok (.iconst 0, 1) := by decide +kernel
theorem d_L_law_328 : decode b_L_law 328 = .ok (.ireturn, 1) := by decide +kernel
theorem d_L_law_329 : decode b_L_law 329 = .ok (.iload 5, 2) := by decide +kernel
theorem d_L_law_331 : decode b_L_law 331 = .ok (.ifCond .ne (15), 3) := by decide +kernel
theorem d_L_law_334 : decode b_L_law 334 = .ok (.aload_n 3, 1) := by decide +kernel
theorem d_L_law_335 : decode b_L_law 335 = .ok (.iconst 0, 1) := by decide +kernel
theorem d_L_law_336 : decode b_L_law 336 = .ok (.laload, 1) := by decide +kernel
theorem d_L_law_337 : decode b_L_law 337 = .ok (.iload 6, 2) := by decide +kernel
theorem d_L_law_339 : decode b_L_law 339 = .ok (.i2l, 1) := by decide +kernel
theorem d_L_law_340 : decode b_L_law 340 = .ok (.lcmp, 1) := by decide +kernel
theorem d_L_law_341 : decode b_L_law 341 = .ok (.ifCond .eq (5), 3) := by decide +kernel
theorem d_L_law_344 : decode b_L_law 344 = .ok (.iconst 0, 1) := by decide +kernel
theorem d_L_law_345 : decode b_L_law 345 = .ok (.ireturn, 1) := by decide +kernel
theorem d_L_law_346 : decode b_L_law 346 = .ok (.goto (298), 3) := by decide +kernel
theorem d_L_law_349 : decode b_L_law 349 = .ok (.aload_n 1, 1) := by decide +kernel
theorem d_L_law_350 : decode b_L_law 350 = .ok (.aload_n 0, 1) := by decide +kernel
theorem d_L_law_351 : decode b_L_law 351 = .ok (.iload 4, 2) := by decide +kernel
theorem d_L_law_353 : decode b_L_law 353 = .ok (.iconst 1, 1) := by decide +kernel
theorem d_L_law_354 : decode b_L_law 354 = .ok (.iadd, 1) := by decide +kernel
theorem d_L_law_355 : decode b_L_law 355 = .ok (.iaload, 1) := by decide +kernel
theorem d_L_law_356 : decode b_L_law 356 = .ok (.ifCond .eq (7), 3) := by decide +kernel
theorem d_L_law_359 : decode b_L_law 359 = .ok (.iconst 1, 1) := by decide +kernel
theorem d_L_law_360 : decode b_L_law 360 = .ok (.goto (4), 3) := by decide +kernel
theorem d_L_law_363 : decode b_L_law 363 = .ok (.iconst 0, 1) := by decide +kernel
theorem d_L_law_364 : decode b_L_law 364 = .ok (.invokevirtual 52, 3) := by decide +kernel
theorem d_L_law_367 : decode b_L_law 367 = .ok (.aload_n 2, 1) := by decide +kernel
theorem d_L_law_368 : decode b_L_law 368 = .ok (.aload_n 0, 1) := by decide +kernel
theorem d_L_law_369 : decode b_L_law 369 = .ok (.iload 4, 2) := by decide +kernel
theorem d_L_law_371 : decode b_L_law 371 = .ok (.iconst 1, 1) := by decide +kernel
theorem d_L_law_372 : decode b_L_law 372 = .ok (.iadd, 1) := by decide +kernel
theorem d_L_law_373 : decode b_L_law 373 = .ok (.iaload, 1) := by decide +kernel
theorem d_L_law_374 : decode b_L_law 374 = .ok (.ifCond .eq (7), 3) := by decide +kernel
theorem d_L_law_377 : decode b_L_law 377 = .ok (.iconst 1, 1) := by decide +kernel
theorem d_L_law_378 : decode b_L_law 378 = .ok (.goto (4), 3) := by decide +kernel
theorem d_L_law_381 : decode b_L_law 381 = .ok (.iconst 0, 1) := by decide +kernel
theorem d_L_law_382 : decode b_L_law 382 = .ok (.invokevirtual 56, 3) := by decide +kernel
theorem d_L_law_385 : decode b_L_law 385 = .ok (.if_icmp .eq (259), 3) := by decide +kernel
theorem d_L_law_388 : decode b_L_law 388 = .ok (.iconst 0, 1) := by decide +kernel
theorem d_L_law_389 : decode b_L_law 389 = .ok (.ireturn, 1) := by decide +kernel
theorem d_L_law_390 : decode b_L_law 390 = .ok (.aload_n 1, 1) := by decide +kernel
theorem d_L_law_391 : decode b_L_law 391 = .ok (.aload_n 0, 1) := by decide +kernel
theorem d_L_law_392 : decode b_L_law 392 = .ok (.iload 4, 2) := by decide +kernel
theorem d_L_law_394 : decode b_L_law 394 = .ok (.iconst 1, 1) := by decide +kernel
theorem d_L_law_395 : decode b_L_law 395 = .ok (.iadd, 1) := by decide +kernel
theorem d_L_law_396 : decode b_L_law 396 = .ok (.iaload, 1) := by decide +kernel
theorem d_L_law_397 : decode b_L_law 397 = .ok (.aload_n 3, 1) := by decide +kernel
theorem d_L_law_398 : decode b_L_law 398 = .ok (.invokestatic 57, 3) := by decide +kernel
theorem d_L_law_401 : decode b_L_law 401 = .ok (.istore 5, 2) := by decide +kernel
theorem d_L_law_403 : decode b_L_law 403 = .ok (.aload_n 2, 1) := by decide +kernel
theorem d_L_law_404 : decode b_L_law 404 = .ok (.aload_n 0, 1) := by decide +kernel
theorem d_L_law_405 : decode b_L_law 405 = .ok (.iload 4, 2) := by decide +kernel
theorem d_L_law_407 : decode b_L_law 407 = .ok (.iconst 1, 1) := by decide +kernel
theorem d_L_law_408 : decode b_L_law 408 = .ok (.iadd, 1) := by decide +kernel
theorem d_L_law_409 : decode b_L_law 409 = .ok (.iaload, 1) := by decide +kernel
theorem d_L_law_410 : decode b_L_law 410 = .ok (.invokevirtual 59, 3) := by decide +kernel
theorem d_L_law_413 : decode b_L_law 413 = .ok (.istore 6, 2) := by decide +kernel
theorem d_L_law_415 : decode b_L_law 415 = .ok (.aload_n 2, 1) := by decide +kernel
theorem d_L_law_416 : decode b_L_law 416 = .ok (.invokevirtual 40, 3) := by decide +kernel
theorem d_L_law_419 : decode b_L_law 419 = .ok (.iload 5, 2) := by decide +kernel
theorem d_L_law_421 : decode b_L_law 421 = .ok (.if_icmp .eq (5), 3) := by decide +kernel
theorem d_L_law_424 : decode b_L_law 424 = .ok (.iconst 0, 1) := by decide +kernel
theorem d_L_law_425 : decode b_L_law 425 = .ok (.ireturn, 1) := by decide +kernel
theorem d_L_law_426 : decode b_L_law 426 = .ok (.iload 5, 2) := by decide +kernel
theorem d_L_law_428 : decode b_L_law 428 = .ok (.ifCond .ne (15), 3) := by decide +kernel
theorem d_L_law_431 : decode b_L_law 431 = .ok (.aload_n 3, 1) := by decide +kernel
theorem d_L_law_432 : decode b_L_law 432 = .ok (.iconst 0, 1) := by decide +kernel
theorem d_L_law_433 : decode b_L_law 433 = .ok (.laload, 1) := by decide +kernel
theorem d_L_law_434 : decode b_L_law 434 = .ok (.iload 6, 2) := by decide +kernel
theorem d_L_law_436 : decode b_L_law 436 = .ok (.i2l, 1) := by decide +kernel
theorem d_L_law_437 : decode b_L_law 437 = .ok (.lcmp, 1) := by decide +kernel
theorem d_L_law_438 : decode b_L_law 438 = .ok (.ifCond .eq (5), 3) := by decide +kernel
theorem d_L_law_441 : decode b_L_law 441 = .ok (.iconst 0, 1) := by decide +kernel
theorem d_L_law_442 : decode b_L_law 442 = .ok (.ireturn, 1) := by decide +kernel
theorem d_L_law_443 : decode b_L_law 443 = .ok (.goto (201), 3) := by decide +kernel
theorem d_L_law_446 : decode b_L_law 446 = .ok (.aload_n 1, 1) := by decide +kernel
theorem d_L_law_447 : decode b_L_law 447 = .ok (.aload_n 0, 1) := by decide +kernel
theorem d_L_law_448 : decode b_L_law 448 = .ok (.iload 4, 2) := by decide +kernel
theorem d_L_law_450 : decode b_L_law 450 = .ok (.iconst 1, 1) := by decide +kernel
theorem d_L_law_451 : decode b_L_law 451 = .ok (.iadd, 1) := by decide +kernel
theorem d_L_law_452 : decode b_L_law 452 = .ok (.iaload, 1) := by decide +kernel
theorem d_L_law_453 : decode b_L_law 453 = .ok (.invokevirtual 60, 3) := by decide +kernel
theorem d_L_law_456 : decode b_L_law 456 = .ok (.aload_n 2, 1) := by decide +kernel
theorem d_L_law_457 : decode b_L_law 457 = .ok (.aload_n 0, 1) := by decide +kernel
theorem d_L_law_458 : decode b_L_law 458 = .ok (.iload 4, 2) := by decide +kernel
theorem d_L_law_460 : decode b_L_law 460 = .ok (.iconst 1, 1) := by decide +kernel
theorem d_L_law_461 : decode b_L_law 461 = .ok (.iadd, 1) := by decide +kernel
theorem d_L_law_462 : decode b_L_law 462 = .ok (.iaload, 1) := by decide +kernel
theorem d_L_law_463 : decode b_L_law 463 = .ok (.invokevirtual 63, 3) := by decide +kernel
theorem d_L_law_466 : decode b_L_law 466 = .ok (.if_icmp .eq (178), 3) := by decide +kernel
theorem d_L_law_469 : decode b_L_law 469 = .ok (.iconst 0, 1) := by decide +kernel
theorem d_L_law_470 : decode b_L_law 470 = .ok (.ireturn, 1) := by decide +kernel
theorem d_L_law_471 : decode b_L_law 471 = .ok (.aload_n 1, 1) := by decide +kernel
theorem d_L_law_472 : decode b_L_law 472 = .ok (.aload_n 0, 1) := by decide +kernel
theorem d_L_law_473 : decode b_L_law 473 = .ok (.iload 4, 2) := by decide +kernel
theorem d_L_law_475 : decode b_L_law 475 = .ok (.iconst 1, 1) := by decide +kernel
theorem d_L_law_476 : decode b_L_law 476 = .ok (.iadd, 1) := by decide +kernel
theorem d_L_law_477 : decode b_L_law 477 = .ok (.iaload, 1) := by decide +kernel
theorem d_L_law_478 : decode b_L_law 478 = .ok (.aload_n 0, 1) := by decide +kernel
theorem d_L_law_479 : decode b_L_law 479 = .ok (.iload 4, 2) := by decide +kernel
theorem d_L_law_481 : decode b_L_law 481 = .ok (.iconst 2, 1) := by decide +kernel
theorem d_L_law_482 : decode b_L_law 482 = .ok (.iadd, 1) := by decide +kernel
theorem d_L_law_483 : decode b_L_law 483 = .ok (.iaload, 1) := by decide +kernel
theorem d_L_law_484 : decode b_L_law 484 = .ok (.invokevirtual 64, 3) := by decide +kernel
theorem d_L_law_487 : decode b_L_law 487 = .ok (.aload_n 2, 1) := by decide +kernel
theorem d_L_law_488 : decode b_L_law 488 = .ok (.aload_n 0, 1) := by decide +kernel
theorem d_L_law_489 : decode b_L_law 489 = .ok (.iload 4, 2) := by decide +kernel
theorem d_L_law_491 : decode b_L_law 491 = .ok (.iconst 1, 1) := by decide +kernel
theorem d_L_law_492 : decode b_L_law 492 = .ok (.iadd, 1) := by decide +kernel
theorem d_L_law_493 : decode b_L_law 493 = .ok (.iaload, 1) := by decide +kernel
theorem d_L_law_494 : decode b_L_law 494 = .ok (.aload_n 0, 1) := by decide +kernel
theorem d_L_law_495 : decode b_L_law 495 = .ok (.iload 4, 2) := by decide +kernel
theorem d_L_law_497 : decode b_L_law 497 = .ok (.iconst 2, 1) := by decide +kernel
theorem d_L_law_498 : decode b_L_law 498 = .ok (.iadd, 1) := by decide +kernel
theorem d_L_law_499 : decode b_L_law 499 = .ok (.iaload, 1) := by decide +kernel
theorem d_L_law_500 : decode b_L_law 500 = .ok (.invokevirtual 68, 3) := by decide +kernel
theorem d_L_law_503 : decode b_L_law 503 = .ok (.if_icmp .eq (141), 3) := by decide +kernel
theorem d_L_law_506 : decode b_L_law 506 = .ok (.iconst 0, 1) := by decide +kernel
theorem d_L_law_507 : decode b_L_law 507 = .ok (.ireturn, 1) := by decide +kernel
theorem d_L_law_508 : decode b_L_law 508 = .ok (.aload_n 1, 1) := by decide +kernel
theorem d_L_law_509 : decode b_L_law 509 = .ok (.aload_n 0, 1) := by decide +kernel
theorem d_L_law_510 : decode b_L_law 510 = .ok (.iload 4, 2) := by decide +kernel
theorem d_L_law_512 : decode b_L_law 512 = .ok (.iconst 1, 1) := by decide +kernel
theorem d_L_law_513 : decode b_L_law 513 = .ok (.iadd, 1) := by decide +kernel
theorem d_L_law_514 : decode b_L_law 514 = .ok (.iaload, 1) := by decide +kernel
theorem d_L_law_515 : decode b_L_law 515 = .ok (.aload_n 0, 1) := by decide +kernel
theorem d_L_law_516 : decode b_L_law 516 = .ok (.iload 4, 2) := by decide +kernel
theorem d_L_law_518 : decode b_L_law 518 = .ok (.iconst 2, 1) := by decide +kernel
theorem d_L_law_519 : decode b_L_law 519 = .ok (.iadd, 1) := by decide +kernel
theorem d_L_law_520 : decode b_L_law 520 = .ok (.iaload, 1) := by decide +kernel
theorem d_L_law_521 : decode b_L_law 521 = .ok (.invokevirtual 69, 3) := by decide +kernel
theorem d_L_law_524 : decode b_L_law 524 = .ok (.aload_n 2, 1) := by decide +kernel
theorem d_L_law_525 : decode b_L_law 525 = .ok (.aload_n 0, 1) := by decide +kernel
theorem d_L_law_526 : decode b_L_law 526 = .ok (.iload 4, 2) := by decide +kernel
theorem d_L_law_528 : decode b_L_law 528 = .ok (.iconst 1, 1) := by decide +kernel
theorem d_L_law_529 : decode b_L_law 529 = .ok (.iadd, 1) := by decide +kernel
theorem d_L_law_530 : decode b_L_law 530 = .ok (.iaload, 1) := by decide +kernel
theorem d_L_law_531 : decode b_L_law 531 = .ok (.aload_n 0, 1) := by decide +kernel
theorem d_L_law_532 : decode b_L_law 532 = .ok (.iload 4, 2) := by decide +kernel
theorem d_L_law_534 : decode b_L_law 534 = .ok (.iconst 2, 1) := by decide +kernel
theorem d_L_law_535 : decode b_L_law 535 = .ok (.iadd, 1) := by decide +kernel
theorem d_L_law_536 : decode b_L_law 536 = .ok (.iaload, 1) := by decide +kernel
theorem d_L_law_537 : decode b_L_law 537 = .ok (.invokevirtual 72, 3) := by decide +kernel
theorem d_L_law_540 : decode b_L_law 540 = .ok (.if_icmp .eq (104), 3) := by decide +kernel
theorem d_L_law_543 : decode b_L_law 543 = .ok (.iconst 0, 1) := by decide +kernel
theorem d_L_law_544 : decode b_L_law 544 = .ok (.ireturn, 1) := by decide +kernel
theorem d_L_law_545 : decode b_L_law 545 = .ok (.aload_n 1, 1) := by decide +kernel
theorem d_L_law_546 : decode b_L_law 546 = .ok (.aload_n 0, 1) := by decide +kernel
theorem d_L_law_547 : decode b_L_law 547 = .ok (.iload 4, 2) := by decide +kernel
theorem d_L_law_549 : decode b_L_law 549 = .ok (.iconst 1, 1) := by decide +kernel
theorem d_L_law_550 : decode b_L_law 550 = .ok (.iadd, 1) := by decide +kernel
theorem d_L_law_551 : decode b_L_law 551 = .ok (.iaload, 1) := by decide +kernel
theorem d_L_law_552 : decode b_L_law 552 = .ok (.aload_n 0, 1) := by decide +kernel
theorem d_L_law_553 : decode b_L_law 553 = .ok (.iload 4, 2) := by decide +kernel
theorem d_L_law_555 : decode b_L_law 555 = .ok (.iconst 2, 1) := by decide +kernel
theorem d_L_law_556 : decode b_L_law 556 = .ok (.iadd, 1) := by decide +kernel
theorem d_L_law_557 : decode b_L_law 557 = .ok (.iaload, 1) := by decide +kernel
theorem d_L_law_558 : decode b_L_law 558 = .ok (.invokevirtual 73, 3) := by decide +kernel
theorem d_L_law_561 : decode b_L_law 561 = .ok (.aload_n 2, 1) := by decide +kernel
theorem d_L_law_562 : decode b_L_law 562 = .ok (.aload_n 0, 1) := by decide +kernel
theorem d_L_law_563 : decode b_L_law 563 = .ok (.iload 4, 2) := by decide +kernel
theorem d_L_law_565 : decode b_L_law 565 = .ok (.iconst 1, 1) := by decide +kernel
theorem d_L_law_566 : decode b_L_law 566 = .ok (.iadd, 1) := by decide +kernel
theorem d_L_law_567 : decode b_L_law 567 = .ok (.iaload, 1) := by decide +kernel
theorem d_L_law_568 : decode b_L_law 568 = .ok (.aload_n 0, 1) := by decide +kernel
theorem d_L_law_569 : decode b_L_law 569 = .ok (.iload 4, 2) := by decide +kernel
theorem d_L_law_571 : decode b_L_law 571 = .ok (.iconst 2, 1) := by decide +kernel
theorem d_L_law_572 : decode b_L_law 572 = .ok (.iadd, 1) := by decide +kernel
theorem d_L_law_573 : decode b_L_law 573 = .ok (.iaload, 1) := by decide +kernel
theorem d_L_law_574 : decode b_L_law 574 = .ok (.invokevirtual 76, 3) := by decide +kernel
theorem d_L_law_577 : decode b_L_law 577 = .ok (.if_icmp .eq (67), 3) := by decide +kernel
theorem d_L_law_580 : decode b_L_law 580 = .ok (.iconst 0, 1) := by decide +kernel
theorem d_L_law_581 : decode b_L_law 581 = .ok (.ireturn, 1) := by decide +kernel
theorem d_L_law_582 : decode b_L_law 582 = .ok (.aload_n 1, 1) := by decide +kernel
theorem d_L_law_583 : decode b_L_law 583 = .ok (.aload_n 0, 1) := by decide +kernel
theorem d_L_law_584 : decode b_L_law 584 = .ok (.iload 4, 2) := by decide +kernel
theorem d_L_law_586 : decode b_L_law 586 = .ok (.iconst 1, 1) := by decide +kernel
theorem d_L_law_587 : decode b_L_law 587 = .ok (.iadd, 1) := by decide +kernel
theorem d_L_law_588 : decode b_L_law 588 = .ok (.iaload, 1) := by decide +kernel
theorem d_L_law_589 : decode b_L_law 589 = .ok (.aload_n 0, 1) := by decide +kernel
theorem d_L_law_590 : decode b_L_law 590 = .ok (.iload 4, 2) := by decide +kernel
theorem d_L_law_592 : decode b_L_law 592 = .ok (.iconst 2, 1) := by decide +kernel
theorem d_L_law_593 : decode b_L_law 593 = .ok (.iadd, 1) := by decide +kernel
theorem d_L_law_594 : decode b_L_law 594 = .ok (.iaload, 1) := by decide +kernel
theorem d_L_law_595 : decode b_L_law 595 = .ok (.invokevirtual 77, 3) := by decide +kernel
theorem d_L_law_598 : decode b_L_law 598 = .ok (.aload_n 2, 1) := by decide +kernel
theorem d_L_law_599 : decode b_L_law 599 = .ok (.aload_n 0, 1) := by decide +kernel
theorem d_L_law_600 : decode b_L_law 600 = .ok (.iload 4, 2) := by decide +kernel
theorem d_L_law_602 : decode b_L_law 602 = .ok (.iconst 1, 1) := by decide +kernel
theorem d_L_law_603 : decode b_L_law 603 = .ok (.iadd, 1) := by decide +kernel
theorem d_L_law_604 : decode b_L_law 604 = .ok (.iaload, 1) := by decide +kernel
theorem d_L_law_605 : decode b_L_law 605 = .ok (.aload_n 0, 1) := by decide +kernel
theorem d_L_law_606 : decode b_L_law 606 = .ok (.iload 4, 2) := by decide +kernel
theorem d_L_law_608 : decode b_L_law 608 = .ok (.iconst 2, 1) := by decide +kernel
theorem d_L_law_609 : decode b_L_law 609 = .ok (.iadd, 1) := by decide +kernel
theorem d_L_law_610 : decode b_L_law 610 = .ok (.iaload, 1) := by decide +kernel
theorem d_L_law_611 : decode b_L_law 611 = .ok (.invokevirtual 80, 3) := by decide +kernel
theorem d_L_law_614 : decode b_L_law 614 = .ok (.if_icmp .eq (30), 3) := by decide +kernel
theorem d_L_law_617 : decode b_L_law 617 = .ok (.iconst 0, 1) := by decide +kernel
theorem d_L_law_618 : decode b_L_law 618 = .ok (.ireturn, 1) := by decide +kernel
theorem d_L_law_619 : decode b_L_law 619 = .ok (.aload_n 1, 1) := by decide +kernel
theorem d_L_law_620 : decode b_L_law 620 = .ok (.aload_n 0, 1) := by decide +kernel
theorem d_L_law_621 : decode b_L_law 621 = .ok (.iload 4, 2) := by decide +kernel
theorem d_L_law_623 : decode b_L_law 623 = .ok (.iconst 1, 1) := by decide +kernel
theorem d_L_law_624 : decode b_L_law 624 = .ok (.iadd, 1) := by decide +kernel
theorem d_L_law_625 : decode b_L_law 625 = .ok (.iaload, 1) := by decide +kernel
theorem d_L_law_626 : decode b_L_law 626 = .ok (.invokevirtual 81, 3) := by decide +kernel
theorem d_L_law_629 : decode b_L_law 629 = .ok (.aload_n 2, 1) := by decide +kernel
theorem d_L_law_630 : decode b_L_law 630 = .ok (.aload_n 0, 1) := by decide +kernel
theorem d_L_law_631 : decode b_L_law 631 = .ok (.iload 4, 2) := by decide +kernel
theorem d_L_law_633 : decode b_L_law 633 = .ok (.iconst 1, 1) := by decide +kernel
theorem d_L_law_634 : decode b_L_law 634 = .ok (.iadd, 1) := by decide +kernel
theorem d_L_law_635 : decode b_L_law 635 = .ok (.iaload, 1) := by decide +kernel
theorem d_L_law_636 : decode b_L_law 636 = .ok (.invokevirtual 84, 3) := by decide +kernel
theorem d_L_law_639 : decode b_L_law 639 = .ok (.if_icmp .eq (5), 3) := by decide +kernel
theorem d_L_law_642 : decode b_L_law 642 = .ok (.iconst 0, 1) := by decide +kernel
theorem d_L_law_643 : decode b_L_law 643 = .ok (.ireturn, 1) := by decide +kernel
theorem d_L_law_644 : decode b_L_law 644 = .ok (.iinc 4 (7), 3) := by decide +kernel
theorem d_L_law_647 : decode b_L_law 647 = .ok (.goto (-624), 3) := by decide +kernel
theorem d_L_law_650 : decode b_L_law 650 = .ok (.iconst 1, 1) := by decide +kernel
theorem d_L_law_651 : decode b_L_law 651 = .ok (.ireturn, 1) := by decide +kernel
/-- THE CONTRACT of a helper -/
def lh_ct (y : MethodName) (cc : ByteArray) (maxL : Nat) (hh : List (Nat × Nat × Nat × Nat)) (as : List fm_V) (M : fm_M) (post : Int32 → Int64 → fm_M → Prop) : Prop :=
  ∀ (l : Launch) (D : va_G) (ad : Nat → Nat) (tA : Nat → ClassId) (tL : ClassId) (o sz : Nat) (f : Nat → Int64), l.stackTraces = false → Met l y (Cond.codeWith y cc maxL (some .int) hh :: wsL) lh_rm (lh_Pc D ad tA tL o sz as f M) (lh_Q D ad tA tL o (va_A (hW o tL f ad tA M) sz) post) 1 6 (va_A (hW o tL f ad tA M) sz)
/-- nothing is written yet -/
def cn_W (X : cn_X) (pc : Nat) (la : Array Slot) (st : List Value) : Prop := match X with
  | ((p, l, e, R, s, m, args, below), (meth, c, D, tA, A, Q)) => W p l e R s m args below meth c s.heap [] 0 0 Q (F0 m pc la st)
abbrev cn_s (X : cn_X) : State := X.1.2.2.2.2.1
abbrev cn_D (X : cn_X) : va_G := X.2.2.2.1
abbrev cn_A (X : cn_X) : Nat → Prop := X.2.2.2.2.2.1
theorem cn_W_of {X : cn_X} {pc : Nat} {la : Array Slot} {st : List Value} {ws : va_W} (hP : va_P (cn_D X) vwA ws (cn_s X).heap) (hD : va_D (cn_A X) ws) (k : cn_G X pc la st ws 0 0) : cn_W X pc la st := by
  obtain ⟨⟨p, l, e, R, s, m, args, below⟩, meth, c, D, tA, A, Q⟩ := X
  exact k _ _ hP hD va_S.rf
section LW
variable {cc : ByteArray} {n : Nat} {X : cn_X} {pc : Nat} {la : Array Slot} {st : List Value}
theorem lw_iload_n {k : Fin 4} {i : Nat} {x : Int32} {lv : List (Nat × Value)} (C : lc_B cc X) (hd : decode cc pc = .ok (.iload_n k, 1)) (hi : (k : Nat) = i) (hl : lv_has la n lv) (j : Nat) (hj : lv[j]? = some (i, .int x)) (kk : cn_W X (pc + 1) la (.int x :: st)) : cn_W X pc la st := by
  obtain ⟨⟨p, l, e, R, s, m, args, below⟩, meth, c, D, tA, A, Q⟩ := X
  exact lv_iload_n C.1 C.2 hd hi (lv_at hl j hj) kk
theorem lw_iload {i : Nat} {x : Int32} {lv : List (Nat × Value)} (C : lc_B cc X) (hd : decode cc pc = .ok (.iload i, 2)) (hl : lv_has la n lv) (j : Nat) (hj : lv[j]? = some (i, .int x)) (kk : cn_W X (pc + 2) la (.int x :: st)) : cn_W X pc la st := by
  obtain ⟨⟨p, l, e, R, s, m, args, below⟩, meth, c, D, tA, A, Q⟩ := X
  exact lv_iload C.1 C.2 hd (lv_at hl j hj) kk
theorem lw_aload_n {k : Fin 4} {i h0 : Nat} {lv : List (Nat × Value)} (C : lc_B cc X) (hd : decode cc pc = .ok (.aload_n k, 1)) (hi : (k : Nat) = i) (hl : lv_has la n lv) (j : Nat) (hj : lv[j]? = some (i, .ref h0)) (kk : cn_W X (pc + 1) la (.ref h0 :: st)) : cn_W X pc la st := by
  obtain ⟨⟨p, l, e, R, s, m, args, below⟩, meth, c, D, tA, A, Q⟩ := X
  exact lv_aload_n C.1 C.2 hd hi (lv_at hl j hj) kk
theorem lw_aload {i h0 : Nat} {lv : List (Nat × Value)} (C : lc_B cc X) (hd : decode cc pc = .ok (.aload i, 2)) (hl : lv_has la n lv) (j : Nat) (hj : lv[j]? = some (i, .ref h0)) (kk : cn_W X (pc + 2) la (.ref h0 :: st)) : cn_W X pc la st := by
  obtain ⟨⟨p, l, e, R, s, m, args, below⟩, meth, c, D, tA, A, Q⟩ := X
  exact lv_aload C.1 C.2 hd (lv_at hl j hj) kk
theorem lw_iconst {k : Int} {v : Int32} (C : lc_B cc X) (hd : decode cc pc = .ok (.iconst k, 1)) (hv : Int32.ofInt k = v) (kk : cn_W X (pc + 1) la (.int v :: st)) : cn_W X pc la st := by
  obtain ⟨⟨p, l, e, R, s, m, args, below⟩, meth, c, D, tA, A, Q⟩ := X
  exact lv_iconst C.1 C.2 hd hv kk
end LW
def cn_cat (X : cn_X) (pc : Nat) (cls : String) (hpc : Nat) : Prop := lh_cat X.1.1 X.1.2.1 X.1.2.2.1 X.1.2.2.2.2.1 X.1.2.2.2.2.2.1 X.2.2.1 pc cls hpc
theorem fm_PcT_blind (D : va_G) (ad : Nat → Nat) (tA : Nat → ClassId) (as : List fm_V) (M : fm_M) (cls : String) : FrameBlind (fm_PcT D ad tA as M cls) := by
  intro a U g mk q
  obtain ⟨q0, qP, qK, qZ⟩ := q
  exact ⟨q0, qP, va_K.moved (u := U) (U := U.calling g mk a) (Vm.Alike.refl U.vm) qK, tZ_call qZ⟩
theorem lw_throw {cc : ByteArray} {n : Nat} {tL : ClassId} {X : cn_X} {pc : Nat} {la : Array Slot} {st : List Value} {y : MethodName} {bytes : ByteArray} {ret : Option FieldType} {maxL index na hpc o : Nat} {as : List fm_V} {cls : String} {ad : Nat → Nat} {f : Nat → Int64} {M : fm_M} {stk : List Value}
    (C : lc_C wsL "EscapeMillLaw" cc n tL X) (hR : cn_R X = lh_rm) (hM : fm_tt y bytes maxL ret (.inr 0 :: as) M cls) (hst : X.1.2.1.stackTraces = false) (hz : tZ cls (cn_s X)) (hcat : cn_cat X pc cls hpc) (hP : va_P (cn_D X) vwA (hW o tL f ad (cn_tA X) M) (cn_s X).heap) (hD : va_D (cn_A X) (hW o tL f ad (cn_tA X) M)) (hcs : fm_cs wsL "EscapeMillLaw" index y bytes maxL ret na) (hinm : Cond.instanceMethod y ∈ wsL) (hsel : Cond.selects "EscapeMill" y y ∈ wsL) (hlen : as.length = na) (hstk : stk = (as.map (fm_v ad)).reverse ++ .ref (ad 0) :: st) (hsz : la.size = n) (hst8 : (st.map fun v => v.category).sum ≤ 8) (hd : decode cc pc = .ok (.invokevirtual index, 3))
    (kk : ∀ a, cn_G X hpc la [.ref a] (hW o tL f ad (cn_tA X) M) 1 6) : cn_W X pc la stk := by
  subst hstk
  subst hlen
  obtain ⟨⟨p, l, e, R, s, m, args, below⟩, meth, c, D, tA, A, Q⟩ := X
  obtain ⟨hx, hb, hml, hown, hts, hK, hA⟩ := C
  obtain ⟨hcode, hlink, hini, hdc, hmL⟩ := hcs
  have hR : R = lh_rm := hR
  subst hR
  have hK0 : va_K D vwA (fm_tys SC tA) s := va_K_front hK
  show W p l e lh_rm s m args below meth c s.heap [] 0 0 Q (F0 m pc la ((as.map (fm_v ad)).reverse ++ .ref (ad 0) :: st))
  have hP2 : va_P D vwA ([(o, .inl (tL, 1, .inr (.inl f)))] ++ fm_W ad tA shC M) s.heap := hP
  refine lh_throw (Ts := wsL) (nL := n) (n := as.length) (b := ad 0) (As := as.map (fm_v ad)) (rest := st) (C := "EscapeMill") ⟨hx, hb, hml, hown, hts⟩ (hM l D ad tA hst) ⟨callB_of as.length hts (lc_goodIn wsL_good (fun w h => wsL_T h) hcode) rfl rfl rfl (hts _ hini) (hts _ hlink) hdc ⟨by decide, by show 8 + (maxL + 11) + 144 ≤ 208; omega⟩, hts _ hinm, hts _ hsel⟩ ⟨fm_PcT_blind D ad tA _ M cls, va_recv (ci := 4) hK hP2 rfl (fm_in (k := 0) (c := .inr (4, [some 1, some 2, some 3, some 4, none])) rfl), fun U hU hW => ⟨rfl, by rw [hU]; exact cn_lastP hP2, va_K.moved hW.alike hK0, tZ_move hW (fun q cell h => by rw [hU]; exact h) hz⟩⟩ (by simp) hsz hst8 hd ⟨by decide, by decide⟩ hcat (fun a H1 z1 z2 => ?_)
  exact kk a H1 [] (hP.kept (fun k q hk => z2 _ (hP k q hk).lt)) hD ⟨z1, fun q h1 _ => z2 q h1, fun _ h => by cases h⟩
theorem lh_of {y : MethodName} {cc : ByteArray} {maxL : Nat} {hh : List (Nat × Nat × Nat × Nat)} {as : List fm_V} {M : fm_M} {post : Int32 → Int64 → fm_M → Prop} (hy : y.cls = "EscapeMillLaw") (hn : as.length + 1 ≤ maxL)
    (body : ∀ (X : cn_X) (ad : Nat → Nat) (tL : ClassId) (o : Nat) (f : Nat → Int64) (la : Array Slot), lc_C wsL "EscapeMillLaw" cc maxL tL X → X.2.2.1.exceptionTable.toList.map (fun h => (h.startPc, h.endPc, h.handlerPc, h.catchType)) = hh → cn_R X = lh_rm → lv_has la maxL (lv_args 0 (as.map (fm_v ad) ++ [.ref o])) → X.1.2.1.stackTraces = false → hZ (cn_s X) → va_P (cn_D X) vwA (hW o tL f ad (cn_tA X) M) (cn_s X).heap → va_D (cn_A X) (hW o tL f ad (cn_tA X) M) →
      (∀ (pc : Nat) (k : Int32) (g : Nat → Int64) (M1 : fm_M) (la1 : Array Slot) (cells slots : Nat), cells ≤ 1 → slots ≤ 6 → decode cc pc = .ok (.ireturn, 1) → post k (g 0) M1 → cn_G X pc la1 [.int k] (hW o tL g ad (cn_tA X) M1) cells slots) → cn_W X 0 la []) : lh_ct y cc maxL hh as M post := by
  intro l D ad tA tL o sz f hst
  refine va_MetW (cc := cc) (maxL := maxL) (ret := some .int) (hh := hh) (by rw [hy]; decide) rfl ?_
  intro p e s m args below meth c s₁ B hml hv
  obtain ⟨rfl, hsz, hP, hK, hD0, hZ0⟩ := hv
  subst hsz
  have hD := hD0.self (sz := s.heap.size)
  have hlen : (lg_sl (as.map (fm_v ad) ++ [.ref o])).length = as.length + 1 := by
    have h1 := fm_sl_len ad as
    simp only [lg_sl, List.flatMap_append, List.length_append] at h1 ⊢
    rw [h1]
    rfl
  have hl := lv_entry (as.map (fm_v ad) ++ [.ref o]) (n := maxL) (by rw [hlen]; exact hn)
  rw [lg_entry_eq]
  have hts := atoms_spec (ws := Cond.codeWith y cc maxL (some .int) hh :: wsL) B.pre
  have htab : c.exceptionTable.toList.map (fun h => (h.startPc, h.endPc, h.handlerPc, h.catchType)) = hh := by
    obtain ⟨m9, meth9, c9, hn9, h1, h2, -, -, h5, -⟩ := Cond.codeWith_spec (hts _ List.mem_cons_self)
    cases B.named.symm.trans hn9
    cases B.method.symm.trans h1
    have hc := (Stand.of_body B).code
    cases hc.symm.trans h2
    exact h5
  exact body ((p, l, e, lh_rm, s, m, _, below), (meth, c, D, tA, va_A (hW o tL f ad tA M) s.heap.size, MQ below (lh_Q D ad tA tL o (va_A (hW o tL f ad tA M) s.heap.size) post) _ s 1 6 (va_A (hW o tL f ad tA M) s.heap.size))) ad tL o f _
    ⟨B.exec, B.bytes, hml, by rw [← hy]; exact findClass_of_methodNamed B.named, fun w h => hts w (List.mem_cons_of_mem _ h), hK, fun q h => Or.inr h⟩ htab rfl hl hst hZ0 hP hD
    (fun pc k g M1 la1 cells slots hc hs hdc hp H locs g2 g3 g4 => W.widen (k := 1) (n := 6) hc hs (W.iret B.exec B.bytes B.returns (fun t ht hW => ⟨⟨k, g, M1, rfl, hp, by rw [ht]; exact g2, g3⟩, g4.F ht⟩) g4.2.2 hdc B.notSynchronized))
theorem cn_catch1 {cc : ByteArray} {n : Nat} {tL : ClassId} {X : cn_X} {cls : String} {ix a b hp pc : Nat} (C : lc_C wsL "EscapeMillLaw" cc n tL X) (htab : X.2.2.1.exceptionTable.toList.map (fun h => (h.startPc, h.endPc, h.handlerPc, h.catchType)) = [(a, b, hp, ix)]) (hlink : Cond.classLink "EscapeMillLaw" ix cls ∈ wsL) (hix : ix ≠ 0) (hz : tZ cls (cn_s X)) (h1 : a ≤ pc) (h2 : pc < b) : cn_cat X pc cls hp := by
  obtain ⟨⟨p, l, e, R, s, m, args, below⟩, meth, c, D, tA, A, Q⟩ := X
  obtain ⟨hx, hb, hml, hown, hts, hK, hA⟩ := C
  exact lh_cat1 hown htab (hts _ hlink) hix hz.1 h1 h2
theorem cn_catch1' {cc : ByteArray} {n : Nat} {tL : ClassId} {X : cn_X} {cls : String} {ix ix2 a b a2 b2 hp hp2 pc : Nat} (C : lc_C wsL "EscapeMillLaw" cc n tL X) (htab : X.2.2.1.exceptionTable.toList.map (fun h => (h.startPc, h.endPc, h.handlerPc, h.catchType)) = [(a, b, hp, ix), (a2, b2, hp2, ix2)]) (hlink : Cond.classLink "EscapeMillLaw" ix cls ∈ wsL) (hix : ix ≠ 0) (hz : tZ cls (cn_s X)) (h1 : a ≤ pc) (h2 : pc < b) : cn_cat X pc cls hp := by
  obtain ⟨⟨p, l, e, R, s, m, args, below⟩, meth, c, D, tA, A, Q⟩ := X
  obtain ⟨hx, hb, hml, hown, hts, hK, hA⟩ := C
  exact lh_cat1' hown htab (hts _ hlink) hix hz.1 h1 h2
theorem cn_catch2 {cc : ByteArray} {n : Nat} {tL : ClassId} {X : cn_X} {ix ix2 a b a2 b2 hp hp2 pc : Nat} (C : lc_C wsL "EscapeMillLaw" cc n tL X) (htab : X.2.2.1.exceptionTable.toList.map (fun h => (h.startPc, h.endPc, h.handlerPc, h.catchType)) = [(a, b, hp, ix), (a2, b2, hp2, ix2)]) (hlink0 : Cond.classLink "EscapeMillLaw" ix nIAE ∈ wsL) (hix : ix ≠ 0) (hlink : Cond.classLink "EscapeMillLaw" ix2 nISE ∈ wsL) (hix2 : ix2 ≠ 0) (hz : hZ (cn_s X)) (h1 : a2 ≤ pc) (h2 : pc < b2) : cn_cat X pc nISE hp2 := by
  obtain ⟨⟨p, l, e, R, s, m, args, below⟩, meth, c, D, tA, A, Q⟩ := X
  obtain ⟨hx, hb, hml, hown, hts, hK, hA⟩ := C
  exact lh_cat2 hown htab (hts _ hlink0) hix (hts _ hlink) hix2 hz.2.1.1 hz.2.2.2 h1 h2
def lp_par (v w : Int32) (M : fm_M) : Int32 → Int64 → fm_M → Prop := fun k x M1 => (∃ m j, m < 5 ∧ j ≤ 2 ∧ v = nI m ∧ w = nI j ∧ k = 0 ∧ x = 1 ∧ M1 = cp_par M m j) ∨ (¬ (inR 5 v ∧ inR 3 w) ∧ k = 1 ∧ M1 = M)
def lp_clr (P : pr_T) (v : Int32) (M : fm_M) : Int32 → Int64 → fm_M → Prop := fun k x M1 => (∃ m, m < 5 ∧ v = nI m ∧ k = 0 ∧ x = (nI (P.1 m)).toInt64 ∧ M1 = cp_clr M m) ∨ (¬ inR 5 v ∧ k = 1 ∧ M1 = M)
def lp_shn (sh : Nat) (v : Int32) (M : fm_M) : Int32 → Int64 → fm_M → Prop := fun k x M1 => (∃ j, j < 32 ∧ j < sh ∧ v = nI j ∧ k = 0 ∧ x = (M 14 j).toInt64 ∧ M1 = M) ∨ ((¬ ∃ j, j < 32 ∧ j < sh ∧ v = nI j) ∧ k = 1 ∧ M1 = M)
def lp_put (P : pr_T) (v o x y z n : Int32) (M : fm_M) : Int32 → Int64 → fm_M → Prop := fun k a M1 => (∃ m J, m < 5 ∧ v = nI m ∧ okI o x y z n J ∧ ((P.1 m < 24 ∧ k = 0 ∧ a = (nI (P.1 m)).toInt64 ∧ M1 = cp_put M P m J) ∨ (P.1 m = 24 ∧ k = 2 ∧ M1 = M))) ∨ (¬ (inR 5 v ∧ ∃ J, okI o x y z n J) ∧ k = 1 ∧ M1 = M)
theorem lh_R1 {X : cn_X} {d : Nat} (hR : cn_R X = lh_rm) (h : d ≤ 6) : d + 1 ≤ (cn_R X).frames := by rw [hR]; show d + 1 ≤ 7; omega
theorem lh_R2 {X : cn_X} {d k : Nat} (hR : cn_R X = lh_rm) (h : 19 + k + 46 * d ≤ 208) : 19 + k + 46 * d ≤ (cn_R X).locals := by rw [hR]; exact h
set_option maxRecDepth 100000 in
theorem k_L_parameters {P : pr_T} (M : fm_M) (hP : cP M P) (v w : Int32) : lh_ct y_L_parameters b_L_parameters 5 [(0, 17, 20, 13)] [.inr 0, .inl v, .inl w] M (lp_par v w M) := by
  by_cases h : inR 5 v ∧ inR 3 w
  · obtain ⟨⟨m, hm, rfl⟩, j, hj, rfl⟩ := h
    refine lh_of rfl (Nat.le_of_ble_eq_true rfl) (fun X ad tL o f la C ht hR hl hst hz hPw hDw hret => ?_)
    refine cn_W_of hPw hDw ?_
    refine lc_aload_n C.b d_L_parameters_0 rfl hl 3 rfl ?_
    refine lc_iconst (v := nI 0) C.b d_L_parameters_1 (by decide) ?_
    refine lc_aload_n C.b d_L_parameters_2 rfl hl 0 rfl ?_
    refine lc_iload_n C.b d_L_parameters_3 rfl hl 1 rfl ?_
    refine lc_iload_n C.b d_L_parameters_4 rfl hl 2 rfl ?_
    refine lc_callV (sh := shC) (b := 0) (as := [.inl (nI m), .inl (nI j)]) (st := [.int (nI 0), .ref o]) (wp := [(o, .inl (tL, 1, .inr (.inl f)))]) C wsL_good (fun w h => wsL_A h) (k_E_parameters_y M hP hm (by omega)) rfl rfl cL_7 iL_E_parameters sL_E_parameters rfl rfl (lh_R1 hR (by omega)) (lh_R2 hR (by omega)) (Nat.zero_le _) (Nat.zero_le _) hl.1 (Nat.le_of_ble_eq_true rfl) d_L_parameters_5 (fun r M1 hp => ?_)
    obtain ⟨rfl, rfl⟩ := hp
    refine lc_if_eq (x := nI 1) (st := [.int (nI 0), .ref o]) (tgt := 15) C.b d_L_parameters_8 (by decide) (fun z => absurd z (by decide)) (fun _ => ?_)
    refine lc_lconst (v := 1) C.b d_L_parameters_11 (by decide) ?_
    refine lc_goto (tgt := 16) C.b d_L_parameters_12 (by decide) ?_
    refine lc_lastore (i0 := 0) (j := 0) (N := 1) C d_L_parameters_16 rfl rfl (by decide) (by decide) ?_
    refine cn_eq (ws' := hW o tL (vp_updL f 0 1) ad (cn_tA X) (cp_par M m j)) rfl ?_
    refine lc_goto (tgt := 24) C.b d_L_parameters_17 (by decide) ?_
    refine lc_iconst (v := 0) C.b d_L_parameters_24 (by decide) ?_
    exact hret _ _ _ _ _ _ _ (by omega) (by omega) d_L_parameters_25 (Or.inl ⟨m, j, hm, by omega, rfl, rfl, rfl, rfl, rfl⟩)
  · refine lh_of rfl (Nat.le_of_ble_eq_true rfl) (fun X ad tL o f la C ht hR hl hst hz hPw hDw hret => ?_)
    refine lw_aload_n C.b d_L_parameters_0 rfl hl 3 rfl ?_
    refine lw_iconst (v := nI 0) C.b d_L_parameters_1 (by decide) ?_
    refine lw_aload_n C.b d_L_parameters_2 rfl hl 0 rfl ?_
    refine lw_iload_n C.b d_L_parameters_3 rfl hl 1 rfl ?_
    refine lw_iload_n C.b d_L_parameters_4 rfl hl 2 rfl ?_
    refine lw_throw (as := [.inl v, .inl w]) (st := [.int (nI 0), .ref o]) C hR (k_E_parameters_t M h) hst hz.1 (cn_catch1 C ht kL_IAE (by decide) hz.1 (by decide) (by decide)) hPw hDw cL_7 iL_E_parameters sL_E_parameters rfl rfl hl.1 (Nat.le_of_ble_eq_true rfl) d_L_parameters_5 (fun a => ?_)
    refine lc_astore C.b d_L_parameters_20 hl (by decide) rfl (fun la1 hl1 => ?_)
    refine lc_iconst (v := 1) C.b d_L_parameters_22 (by decide) ?_
    exact hret _ _ _ _ _ _ _ (by omega) (by omega) d_L_parameters_23 (Or.inr ⟨h, rfl, rfl⟩)
set_option maxRecDepth 100000 in
theorem k_L_clear {P : pr_T} (M : fm_M) (hP : cP M P) (v : Int32) : lh_ct y_L_clear b_L_clear 4 [(0, 9, 12, 13)] [.inr 0, .inl v] M (lp_clr P v M) := by
  by_cases h : inR 5 v
  · obtain ⟨m, hm, rfl⟩ := h
    refine lh_of rfl (Nat.le_of_ble_eq_true rfl) (fun X ad tL o f la C ht hR hl hst hz hPw hDw hret => ?_)
    refine cn_W_of hPw hDw ?_
    refine lc_aload_n C.b d_L_clear_0 rfl hl 2 rfl ?_
    refine lc_iconst (v := nI 0) C.b d_L_clear_1 (by decide) ?_
    refine lc_aload_n C.b d_L_clear_2 rfl hl 0 rfl ?_
    refine lc_iload_n C.b d_L_clear_3 rfl hl 1 rfl ?_
    refine lc_callV (sh := shC) (b := 0) (as := [.inl (nI m)]) (st := [.int (nI 0), .ref o]) (wp := [(o, .inl (tL, 1, .inr (.inl f)))]) C wsL_good (fun w h => wsL_A h) (k_E_clear_y M hP hm) rfl rfl cL_21 iL_E_clear sL_E_clear rfl rfl (lh_R1 hR (by omega)) (lh_R2 hR (by omega)) (Nat.zero_le _) (Nat.zero_le _) hl.1 (Nat.le_of_ble_eq_true rfl) d_L_clear_4 (fun r M1 hp => ?_)
    obtain ⟨rfl, rfl⟩ := hp
    refine lc_i2l (x := nI (P.1 m)) (st := [.int (nI 0), .ref o]) C.b d_L_clear_7 rfl ?_
    refine lc_lastore (i0 := 0) (j := 0) (N := 1) C d_L_clear_8 rfl rfl (by decide) (by decide) ?_
    refine cn_eq (ws' := hW o tL (vp_updL f 0 (nI (P.1 m)).toInt64) ad (cn_tA X) (cp_clr M m)) rfl ?_
    refine lc_goto (tgt := 15) C.b d_L_clear_9 (by decide) ?_
    refine lc_iconst (v := 0) C.b d_L_clear_15 (by decide) ?_
    exact hret _ _ _ _ _ _ _ (by omega) (by omega) d_L_clear_16 (Or.inl ⟨m, hm, rfl, rfl, rfl, rfl⟩)
  · refine lh_of rfl (Nat.le_of_ble_eq_true rfl) (fun X ad tL o f la C ht hR hl hst hz hPw hDw hret => ?_)
    refine lw_aload_n C.b d_L_clear_0 rfl hl 2 rfl ?_
    refine lw_iconst (v := nI 0) C.b d_L_clear_1 (by decide) ?_
    refine lw_aload_n C.b d_L_clear_2 rfl hl 0 rfl ?_
    refine lw_iload_n C.b d_L_clear_3 rfl hl 1 rfl ?_
    refine lw_throw (as := [.inl v]) (st := [.int (nI 0), .ref o]) C hR (k_E_clear_t M h) hst hz.1 (cn_catch1 C ht kL_IAE (by decide) hz.1 (by decide) (by decide)) hPw hDw cL_21 iL_E_clear sL_E_clear rfl rfl hl.1 (Nat.le_of_ble_eq_true rfl) d_L_clear_4 (fun a => ?_)
    refine lc_astore_n C.b d_L_clear_12 rfl hl (by decide) rfl (fun la1 hl1 => ?_)
    refine lc_iconst (v := 1) C.b d_L_clear_13 (by decide) ?_
    exact hret _ _ _ _ _ _ _ (by omega) (by omega) d_L_clear_14 (Or.inr ⟨h, rfl, rfl⟩)
set_option maxRecDepth 100000 in
theorem k_L_shown (M : fm_M) {sh : Nat} (hsh : M 4 12 = nI sh) (hs4 : sh < 1000) (v : Int32) : lh_ct y_L_shown b_L_shown 4 [(0, 9, 12, 28)] [.inr 0, .inl v] M (lp_shn sh v M) := by
  by_cases h : ∃ j, j < 32 ∧ j < sh ∧ v = nI j
  · obtain ⟨j, hj, hjs, rfl⟩ := h
    refine lh_of rfl (Nat.le_of_ble_eq_true rfl) (fun X ad tL o f la C ht hR hl hst hz hPw hDw hret => ?_)
    refine cn_W_of hPw hDw ?_
    refine lc_aload_n C.b d_L_shown_0 rfl hl 2 rfl ?_
    refine lc_iconst (v := nI 0) C.b d_L_shown_1 (by decide) ?_
    refine lc_aload_n C.b d_L_shown_2 rfl hl 0 rfl ?_
    refine lc_iload_n C.b d_L_shown_3 rfl hl 1 rfl ?_
    refine lc_callV (sh := shC) (b := 0) (as := [.inl (nI j)]) (st := [.int (nI 0), .ref o]) (wp := [(o, .inl (tL, 1, .inr (.inl f)))]) C wsL_good (fun w h => wsL_A h) (k_E_shown_y M hsh hs4 hj hjs) rfl rfl cL_25 iL_E_shown sL_E_shown rfl rfl (lh_R1 hR (by omega)) (lh_R2 hR (by omega)) (Nat.zero_le _) (Nat.zero_le _) hl.1 (Nat.le_of_ble_eq_true rfl) d_L_shown_4 (fun r M1 hp => ?_)
    obtain ⟨rfl, rfl⟩ := hp
    refine lc_i2l (x := M1 14 j) (st := [.int (nI 0), .ref o]) C.b d_L_shown_7 rfl ?_
    refine lc_lastore (i0 := 0) (j := 0) (N := 1) C d_L_shown_8 rfl rfl (by decide) (by decide) ?_
    refine cn_eq (ws' := hW o tL (vp_updL f 0 (M1 14 j).toInt64) ad (cn_tA X) M1) rfl ?_
    refine lc_goto (tgt := 15) C.b d_L_shown_9 (by decide) ?_
    refine lc_iconst (v := 0) C.b d_L_shown_15 (by decide) ?_
    exact hret _ _ _ _ _ _ _ (by omega) (by omega) d_L_shown_16 (Or.inl ⟨j, hj, hjs, rfl, rfl, rfl, rfl⟩)
  · refine lh_of rfl (Nat.le_of_ble_eq_true rfl) (fun X ad tL o f la C ht hR hl hst hz hPw hDw hret => ?_)
    refine lw_aload_n C.b d_L_shown_0 rfl hl 2 rfl ?_
    refine lw_iconst (v := nI 0) C.b d_L_shown_1 (by decide) ?_
    refine lw_aload_n C.b d_L_shown_2 rfl hl 0 rfl ?_
    refine lw_iload_n C.b d_L_shown_3 rfl hl 1 rfl ?_
    refine lw_throw (as := [.inl v]) (st := [.int (nI 0), .ref o]) C hR (k_E_shown_t M hsh hs4 h) hst hz.2.2.1 (cn_catch1 C ht kL_IOB (by decide) hz.2.2.1 (by decide) (by decide)) hPw hDw cL_25 iL_E_shown sL_E_shown rfl rfl hl.1 (Nat.le_of_ble_eq_true rfl) d_L_shown_4 (fun a => ?_)
    refine lc_astore_n C.b d_L_shown_12 rfl hl (by decide) rfl (fun la1 hl1 => ?_)
    refine lc_iconst (v := 1) C.b d_L_shown_13 (by decide) ?_
    exact hret _ _ _ _ _ _ _ (by omega) (by omega) d_L_shown_14 (Or.inr ⟨h, rfl, rfl⟩)
set_option maxRecDepth 100000 in
theorem k_L_put {P : pr_T} (M : fm_M) (hP : cP M P) (hw : pr_wf P) (v p x y z n : Int32) : lh_ct y_L_put b_L_put 9 [(0, 18, 21, 13), (0, 18, 25, 19)] [.inr 0, .inl v, .inl p, .inl x, .inl y, .inl z, .inl n] M (lp_put P v p x y z n M) := by
  by_cases h : inR 5 v ∧ ∃ J, okI p x y z n J
  · obtain ⟨⟨m, hm, rfl⟩, J, hJ⟩ := h
    by_cases h24 : P.1 m < 24
    · have hJ0 := hJ
      obtain ⟨rfl, rfl, rfl, rfl, rfl, wJ⟩ := hJ
      refine lh_of rfl (Nat.le_of_ble_eq_true rfl) (fun X ad tL o f la C ht hR hl hst hz hPw hDw hret => ?_)
      refine cn_W_of hPw hDw ?_
      refine lc_aload C.b d_L_put_0 hl 7 rfl ?_
      refine lc_iconst (v := nI 0) C.b d_L_put_2 (by decide) ?_
      refine lc_aload_n C.b d_L_put_3 rfl hl 0 rfl ?_
      refine lc_iload_n C.b d_L_put_4 rfl hl 1 rfl ?_
      refine lc_iload_n C.b d_L_put_5 rfl hl 2 rfl ?_
      refine lc_iload_n C.b d_L_put_6 rfl hl 3 rfl ?_
      refine lc_iload C.b d_L_put_7 hl 4 rfl ?_
      refine lc_iload C.b d_L_put_9 hl 5 rfl ?_
      refine lc_iload C.b d_L_put_11 hl 6 rfl ?_
      refine lc_callV (sh := shC) (b := 0) (as := [.inl (nI m), .inl (nI J.1), .inl (nI J.2.1), .inl (nI J.2.2.1), .inl (nI J.2.2.2.1), .inl J.2.2.2.2]) (st := [.int (nI 0), .ref o]) (wp := [(o, .inl (tL, 1, .inr (.inl f)))]) C wsL_good (fun w h => wsL_A h) (k_E_put_y M hP hw hm h24 J wJ) rfl rfl cL_15 iL_E_put sL_E_put rfl rfl (lh_R1 hR (by omega)) (lh_R2 hR (by omega)) (Nat.zero_le _) (Nat.zero_le _) hl.1 (Nat.le_of_ble_eq_true rfl) d_L_put_13 (fun r M1 hp => ?_)
      obtain ⟨rfl, rfl⟩ := hp
      refine lc_i2l (x := nI (P.1 m)) (st := [.int (nI 0), .ref o]) C.b d_L_put_16 rfl ?_
      refine lc_lastore (i0 := 0) (j := 0) (N := 1) C d_L_put_17 rfl rfl (by decide) (by decide) ?_
      refine cn_eq (ws' := hW o tL (vp_updL f 0 (nI (P.1 m)).toInt64) ad (cn_tA X) (cp_put M P m J)) rfl ?_
      refine lc_goto (tgt := 29) C.b d_L_put_18 (by decide) ?_
      refine lc_iconst (v := 0) C.b d_L_put_29 (by decide) ?_
      exact hret _ _ _ _ _ _ _ (by omega) (by omega) d_L_put_30 (Or.inl ⟨m, J, hm, rfl, hJ0, Or.inl ⟨h24, rfl, rfl, rfl⟩⟩)
    · have h24 : P.1 m = 24 := by have := (hw m hm).1; omega
      refine lh_of rfl (Nat.le_of_ble_eq_true rfl) (fun X ad tL o f la C ht hR hl hst hz hPw hDw hret => ?_)
      refine lw_aload C.b d_L_put_0 hl 7 rfl ?_
      refine lw_iconst (v := nI 0) C.b d_L_put_2 (by decide) ?_
      refine lw_aload_n C.b d_L_put_3 rfl hl 0 rfl ?_
      refine lw_iload_n C.b d_L_put_4 rfl hl 1 rfl ?_
      refine lw_iload_n C.b d_L_put_5 rfl hl 2 rfl ?_
      refine lw_iload_n C.b d_L_put_6 rfl hl 3 rfl ?_
      refine lw_iload C.b d_L_put_7 hl 4 rfl ?_
      refine lw_iload C.b d_L_put_9 hl 5 rfl ?_
      refine lw_iload C.b d_L_put_11 hl 6 rfl ?_
      refine lw_throw (as := [.inl (nI m), .inl p, .inl x, .inl y, .inl z, .inl n]) (st := [.int (nI 0), .ref o]) C hR (k_E_put_t2 M hm ⟨J, hJ⟩ (by rw [(hP m hm).1, h24])) hst hz.2.1 (cn_catch2 C ht kL_IAE (by decide) kL_ISE (by decide) hz (by decide) (by decide)) hPw hDw cL_15 iL_E_put sL_E_put rfl rfl hl.1 (Nat.le_of_ble_eq_true rfl) d_L_put_13 (fun a => ?_)
      refine lc_astore C.b d_L_put_25 hl (by decide) rfl (fun la1 hl1 => ?_)
      refine lc_iconst (v := 2) C.b d_L_put_27 (by decide) ?_
      exact hret _ _ _ _ _ _ _ (by omega) (by omega) d_L_put_28 (Or.inl ⟨m, J, hm, rfl, hJ, Or.inr ⟨h24, rfl, rfl⟩⟩)
  · refine lh_of rfl (Nat.le_of_ble_eq_true rfl) (fun X ad tL o f la C ht hR hl hst hz hPw hDw hret => ?_)
    refine lw_aload C.b d_L_put_0 hl 7 rfl ?_
    refine lw_iconst (v := nI 0) C.b d_L_put_2 (by decide) ?_
    refine lw_aload_n C.b d_L_put_3 rfl hl 0 rfl ?_
    refine lw_iload_n C.b d_L_put_4 rfl hl 1 rfl ?_
    refine lw_iload_n C.b d_L_put_5 rfl hl 2 rfl ?_
    refine lw_iload_n C.b d_L_put_6 rfl hl 3 rfl ?_
    refine lw_iload C.b d_L_put_7 hl 4 rfl ?_
    refine lw_iload C.b d_L_put_9 hl 5 rfl ?_
    refine lw_iload C.b d_L_put_11 hl 6 rfl ?_
    refine lw_throw (as := [.inl v, .inl p, .inl x, .inl y, .inl z, .inl n]) (st := [.int (nI 0), .ref o]) C hR (k_E_put_t1 M h) hst hz.1 (cn_catch1' C ht kL_IAE (by decide) hz.1 (by decide) (by decide)) hPw hDw cL_15 iL_E_put sL_E_put rfl rfl hl.1 (Nat.le_of_ble_eq_true rfl) d_L_put_13 (fun a => ?_)
    refine lc_astore C.b d_L_put_21 hl (by decide) rfl (fun la1 hl1 => ?_)
    refine lc_iconst (v := 1) C.b d_L_put_23 (by decide) ?_
    exact hret _ _ _ _ _ _ _ (by omega) (by omega) d_L_put_24 (Or.inr ⟨h, rfl, rfl⟩)
