/-! CONSTRUCTORS (written by program) -/
def wI : List Cond := [.methodLink "EscapeMill$Code" 3 objectInit, .methodLink "EscapeMill$Facts" 3 objectInit, .methodLink "EscapeMill$Machine" 5 objectInit, .methodLink "EscapeMill$Plan" 3 objectInit, .methodLink "EscapeMill" 3 objectInit, .methodLink "EscapeMillModel" 1 objectInit, .instanceMethod objectInit, .code objectInit ⟨#[0xb1]⟩ 1 none, .arrayClass .int, .arrayClass .boolean, .classLink "EscapeMill" 9 nC, .classLink "EscapeMill" 15 nF, .classLink "EscapeMill" 21 nP, .classLink "EscapeMill" 27 nM, .classLink "EscapeMill$Facts" 15 "[[I", .instantiable nC 7, .instantiable nF 8, .instantiable nP 1, .instantiable nM 16, .code y_C_init b_C_init 1 none, .code y_F_init b_F_init 1 none, .code y_P_init b_P_init 1 none, .code y_M_init b_M_init 1 none, .instanceMethod y_C_init, .instanceMethod y_F_init, .instanceMethod y_P_init, .instanceMethod y_M_init]
def wsI : List Cond := wI ++ wsA
theorem wI_in {w : Cond} (h : w ∈ wI) : w ∈ wsI := List.mem_append_left _ h
theorem wA_in {w : Cond} (h : w ∈ wsA) : w ∈ wsI := List.mem_append_right _ h
set_option maxRecDepth 20000 in
theorem wsI_good : wsI.all goodWord = true := by
  unfold wsI
  rw [List.all_append, wsA_good, Bool.and_true]
  decide +kernel
theorem fl_I {own : String} {index ci j : Nat} (h : fm_fl wsA own index vwA ci j) : fm_fl wsI own index vwA ci j := by
  obtain ⟨C, T, n, h1, h2, h3, h4, h5⟩ := h
  exact ⟨C, T, n, h1, h2, fun w q => wA_in (h3 w q), wA_in h4, h5⟩
abbrev cAr (tA : Nat → ClassId) (n : Nat) : va_E := .inl (tA 0, n, .inl (fun _ => 0))
abbrev cAz (tA : Nat → ClassId) (n : Nat) : va_E := .inl (tA 1, n, .inl (fun _ => 0))
theorem d_C_init_0 : decode b_C_init 0 = .ok (.aload_n 0, 1) := by decide +kernel
theorem d_C_init_1 : decode b_C_init 1 = .ok (.invokespecial 3, 3) := by decide +kernel
theorem d_C_init_4 : decode b_C_init 4 = .ok (.aload_n 0, 1) := by decide +kernel
theorem d_C_init_5 : decode b_C_init 5 = .ok (.bipush (24), 2) := by decide +kernel
theorem d_C_init_7 : decode b_C_init 7 = .ok (.newarray .int, 2) := by decide +kernel
theorem d_C_init_9 : decode b_C_init 9 = .ok (.putfield 9, 3) := by decide +kernel
theorem d_C_init_12 : decode b_C_init 12 = .ok (.aload_n 0, 1) := by decide +kernel
theorem d_C_init_13 : decode b_C_init 13 = .ok (.bipush (24), 2) := by decide +kernel
theorem d_C_init_15 : decode b_C_init 15 = .ok (.newarray .int, 2) := by decide +kernel
theorem d_C_init_17 : decode b_C_init 17 = .ok (.putfield 15, 3) := by decide +kernel
theorem d_C_init_20 : decode b_C_init 20 = .ok (.aload_n 0, 1) := by decide +kernel
theorem d_C_init_21 : decode b_C_init 21 = .ok (.bipush (24), 2) := by decide +kernel
theorem d_C_init_23 : decode b_C_init 23 = .ok (.newarray .int, 2) := by decide +kernel
theorem d_C_init_25 : decode b_C_init 25 = .ok (.putfield 18, 3) := by decide +kernel
theorem d_C_init_28 : decode b_C_init 28 = .ok (.aload_n 0, 1) := by decide +kernel
theorem d_C_init_29 : decode b_C_init 29 = .ok (.bipush (24), 2) := by decide +kernel
theorem d_C_init_31 : decode b_C_init 31 = .ok (.newarray .int, 2) := by decide +kernel
theorem d_C_init_33 : decode b_C_init 33 = .ok (.putfield 21, 3) := by decide +kernel
theorem d_C_init_36 : decode b_C_init 36 = .ok (.aload_n 0, 1) := by decide +kernel
theorem d_C_init_37 : decode b_C_init 37 = .ok (.bipush (24), 2) := by decide +kernel
theorem d_C_init_39 : decode b_C_init 39 = .ok (.newarray .int, 2) := by decide +kernel
theorem d_C_init_41 : decode b_C_init 41 = .ok (.putfield 24, 3) := by decide +kernel
theorem d_C_init_44 : decode b_C_init 44 = .ok (.aload_n 0, 1) := by decide +kernel
theorem d_C_init_45 : decode b_C_init 45 = .ok (.iconst 0, 1) := by decide +kernel
theorem d_C_init_46 : decode b_C_init 46 = .ok (.putfield 27, 3) := by decide +kernel
theorem d_C_init_49 : decode b_C_init 49 = .ok (.aload_n 0, 1) := by decide +kernel
theorem d_C_init_50 : decode b_C_init 50 = .ok (.iconst 0, 1) := by decide +kernel
theorem d_C_init_51 : decode b_C_init 51 = .ok (.putfield 31, 3) := by decide +kernel
theorem d_C_init_54 : decode b_C_init 54 = .ok (.return_, 1) := by decide +kernel
theorem d_P_init_0 : decode b_P_init 0 = .ok (.aload_n 0, 1) := by decide +kernel
theorem d_P_init_1 : decode b_P_init 1 = .ok (.invokespecial 3, 3) := by decide +kernel
theorem d_P_init_4 : decode b_P_init 4 = .ok (.aload_n 0, 1) := by decide +kernel
theorem d_P_init_5 : decode b_P_init 5 = .ok (.bipush (24), 2) := by decide +kernel
theorem d_P_init_7 : decode b_P_init 7 = .ok (.newarray .int, 2) := by decide +kernel
theorem d_P_init_9 : decode b_P_init 9 = .ok (.putfield 9, 3) := by decide +kernel
theorem d_P_init_12 : decode b_P_init 12 = .ok (.return_, 1) := by decide +kernel
theorem d_M_init_0 : decode b_M_init 0 = .ok (.aload_n 0, 1) := by decide +kernel
theorem d_M_init_1 : decode b_M_init 1 = .ok (.invokespecial 5, 3) := by decide +kernel
theorem d_M_init_4 : decode b_M_init 4 = .ok (.aload_n 0, 1) := by decide +kernel
theorem d_M_init_5 : decode b_M_init 5 = .ok (.sipush (866), 3) := by decide +kernel
theorem d_M_init_8 : decode b_M_init 8 = .ok (.newarray .int, 2) := by decide +kernel
theorem d_M_init_10 : decode b_M_init 10 = .ok (.putfield 11, 3) := by decide +kernel
theorem d_M_init_13 : decode b_M_init 13 = .ok (.aload_n 0, 1) := by decide +kernel
theorem d_M_init_14 : decode b_M_init 14 = .ok (.sipush (866), 3) := by decide +kernel
theorem d_M_init_17 : decode b_M_init 17 = .ok (.newarray .int, 2) := by decide +kernel
theorem d_M_init_19 : decode b_M_init 19 = .ok (.putfield 15, 3) := by decide +kernel
theorem d_M_init_22 : decode b_M_init 22 = .ok (.aload_n 0, 1) := by decide +kernel
theorem d_M_init_23 : decode b_M_init 23 = .ok (.sipush (433), 3) := by decide +kernel
theorem d_M_init_26 : decode b_M_init 26 = .ok (.newarray .int, 2) := by decide +kernel
theorem d_M_init_28 : decode b_M_init 28 = .ok (.putfield 18, 3) := by decide +kernel
theorem d_M_init_31 : decode b_M_init 31 = .ok (.aload_n 0, 1) := by decide +kernel
theorem d_M_init_32 : decode b_M_init 32 = .ok (.iconst 4, 1) := by decide +kernel
theorem d_M_init_33 : decode b_M_init 33 = .ok (.newarray .int, 2) := by decide +kernel
theorem d_M_init_35 : decode b_M_init 35 = .ok (.putfield 21, 3) := by decide +kernel
theorem d_M_init_38 : decode b_M_init 38 = .ok (.aload_n 0, 1) := by decide +kernel
theorem d_M_init_39 : decode b_M_init 39 = .ok (.bipush (8), 2) := by decide +kernel
theorem d_M_init_41 : decode b_M_init 41 = .ok (.newarray .int, 2) := by decide +kernel
theorem d_M_init_43 : decode b_M_init 43 = .ok (.putfield 24, 3) := by decide +kernel
theorem d_M_init_46 : decode b_M_init 46 = .ok (.aload_n 0, 1) := by decide +kernel
theorem d_M_init_47 : decode b_M_init 47 = .ok (.bipush (8), 2) := by decide +kernel
theorem d_M_init_49 : decode b_M_init 49 = .ok (.newarray .int, 2) := by decide +kernel
theorem d_M_init_51 : decode b_M_init 51 = .ok (.putfield 27, 3) := by decide +kernel
theorem d_M_init_54 : decode b_M_init 54 = .ok (.aload_n 0, 1) := by decide +kernel
theorem d_M_init_55 : decode b_M_init 55 = .ok (.bipush (8), 2) := by decide +kernel
theorem d_M_init_57 : decode b_M_init 57 = .ok (.newarray .int, 2) := by decide +kernel
theorem d_M_init_59 : decode b_M_init 59 = .ok (.putfield 30, 3) := by decide +kernel
theorem d_M_init_62 : decode b_M_init 62 = .ok (.aload_n 0, 1) := by decide +kernel
theorem d_M_init_63 : decode b_M_init 63 = .ok (.bipush (32), 2) := by decide +kernel
theorem d_M_init_65 : decode b_M_init 65 = .ok (.newarray .int, 2) := by decide +kernel
theorem d_M_init_67 : decode b_M_init 67 = .ok (.putfield 33, 3) := by decide +kernel
theorem d_M_init_70 : decode b_M_init 70 = .ok (.aload_n 0, 1) := by decide +kernel
theorem d_M_init_71 : decode b_M_init 71 = .ok (.bipush (32), 2) := by decide +kernel
theorem d_M_init_73 : decode b_M_init 73 = .ok (.newarray .int, 2) := by decide +kernel
theorem d_M_init_75 : decode b_M_init 75 = .ok (.putfield 36, 3) := by decide +kernel
theorem d_M_init_78 : decode b_M_init 78 = .ok (.aload_n 0, 1) := by decide +kernel
theorem d_M_init_79 : decode b_M_init 79 = .ok (.iconst 0, 1) := by decide +kernel
theorem d_M_init_80 : decode b_M_init 80 = .ok (.putfield 39, 3) := by decide +kernel
theorem d_M_init_83 : decode b_M_init 83 = .ok (.aload_n 0, 1) := by decide +kernel
theorem d_M_init_84 : decode b_M_init 84 = .ok (.bipush (32), 2) := by decide +kernel
theorem d_M_init_86 : decode b_M_init 86 = .ok (.newarray .int, 2) := by decide +kernel
theorem d_M_init_88 : decode b_M_init 88 = .ok (.putfield 43, 3) := by decide +kernel
theorem d_M_init_91 : decode b_M_init 91 = .ok (.aload_n 0, 1) := by decide +kernel
theorem d_M_init_92 : decode b_M_init 92 = .ok (.iconst 0, 1) := by decide +kernel
theorem d_M_init_93 : decode b_M_init 93 = .ok (.putfield 46, 3) := by decide +kernel
theorem d_M_init_96 : decode b_M_init 96 = .ok (.aload_n 0, 1) := by decide +kernel
theorem d_M_init_97 : decode b_M_init 97 = .ok (.iconst 0, 1) := by decide +kernel
theorem d_M_init_98 : decode b_M_init 98 = .ok (.putfield 49, 3) := by decide +kernel
theorem d_M_init_101 : decode b_M_init 101 = .ok (.aload_n 0, 1) := by decide +kernel
theorem d_M_init_102 : decode b_M_init 102 = .ok (.iconst 0, 1) := by decide +kernel
theorem d_M_init_103 : decode b_M_init 103 = .ok (.putfield 52, 3) := by decide +kernel
theorem d_M_init_106 : decode b_M_init 106 = .ok (.aload_n 0, 1) := by decide +kernel
theorem d_M_init_107 : decode b_M_init 107 = .ok (.iconst 0, 1) := by decide +kernel
theorem d_M_init_108 : decode b_M_init 108 = .ok (.putfield 55, 3) := by decide +kernel
theorem d_M_init_111 : decode b_M_init 111 = .ok (.aload_n 0, 1) := by decide +kernel
theorem d_M_init_112 : decode b_M_init 112 = .ok (.iconst 0, 1) := by decide +kernel
theorem d_M_init_113 : decode b_M_init 113 = .ok (.putfield 58, 3) := by decide +kernel
theorem d_M_init_116 : decode b_M_init 116 = .ok (.return_, 1) := by decide +kernel
theorem d_F_init_0 : decode b_F_init 0 = .ok (.aload_n 0, 1) := by decide +kernel
theorem d_F_init_1 : decode b_F_init 1 = .ok (.invokespecial 3, 3) := by decide +kernel
theorem d_F_init_4 : decode b_F_init 4 = .ok (.aload_n 0, 1) := by decide +kernel
theorem d_F_init_5 : decode b_F_init 5 = .ok (.iconst 4, 1) := by decide +kernel
theorem d_F_init_6 : decode b_F_init 6 = .ok (.newarray .int, 2) := by decide +kernel
theorem d_F_init_8 : decode b_F_init 8 = .ok (.putfield 9, 3) := by decide +kernel
theorem d_F_init_11 : decode b_F_init 11 = .ok (.aload_n 0, 1) := by decide +kernel
theorem d_F_init_12 : decode b_F_init 12 = .ok (.iconst 2, 1) := by decide +kernel
theorem d_F_init_13 : decode b_F_init 13 = .ok (.bipush (27), 2) := by decide +kernel
theorem d_F_init_15 : decode b_F_init 15 = .ok (.multianewarray 15 2, 4) := by decide +kernel
theorem d_F_init_19 : decode b_F_init 19 = .ok (.putfield 17, 3) := by decide +kernel
theorem d_F_init_22 : decode b_F_init 22 = .ok (.aload_n 0, 1) := by decide +kernel
theorem d_F_init_23 : decode b_F_init 23 = .ok (.iconst 2, 1) := by decide +kernel
theorem d_F_init_24 : decode b_F_init 24 = .ok (.newarray .int, 2) := by decide +kernel
theorem d_F_init_26 : decode b_F_init 26 = .ok (.putfield 20, 3) := by decide +kernel
theorem d_F_init_29 : decode b_F_init 29 = .ok (.aload_n 0, 1) := by decide +kernel
theorem d_F_init_30 : decode b_F_init 30 = .ok (.iconst 2, 1) := by decide +kernel
theorem d_F_init_31 : decode b_F_init 31 = .ok (.newarray .boolean, 2) := by decide +kernel
theorem d_F_init_33 : decode b_F_init 33 = .ok (.putfield 23, 3) := by decide +kernel
theorem d_F_init_36 : decode b_F_init 36 = .ok (.aload_n 0, 1) := by decide +kernel
theorem d_F_init_37 : decode b_F_init 37 = .ok (.iconst 0, 1) := by decide +kernel
theorem d_F_init_38 : decode b_F_init 38 = .ok (.putfield 27, 3) := by decide +kernel
theorem d_F_init_41 : decode b_F_init 41 = .ok (.aload_n 0, 1) := by decide +kernel
theorem d_F_init_42 : decode b_F_init 42 = .ok (.iconst 0, 1) := by decide +kernel
theorem d_F_init_43 : decode b_F_init 43 = .ok (.putfield 31, 3) := by decide +kernel
theorem d_F_init_46 : decode b_F_init 46 = .ok (.aload_n 0, 1) := by decide +kernel
theorem d_F_init_47 : decode b_F_init 47 = .ok (.iconst 0, 1) := by decide +kernel
theorem d_F_init_48 : decode b_F_init 48 = .ok (.putfield 34, 3) := by decide +kernel
theorem d_F_init_51 : decode b_F_init 51 = .ok (.aload_n 0, 1) := by decide +kernel
theorem d_F_init_52 : decode b_F_init 52 = .ok (.iconst 0, 1) := by decide +kernel
theorem d_F_init_53 : decode b_F_init 53 = .ok (.putfield 37, 3) := by decide +kernel
theorem d_F_init_56 : decode b_F_init 56 = .ok (.return_, 1) := by decide +kernel
theorem d_R_init_0 : decode b_R_init 0 = .ok (.aload_n 0, 1) := by decide +kernel
theorem d_R_init_1 : decode b_R_init 1 = .ok (.invokespecial 1, 3) := by decide +kernel
theorem d_R_init_4 : decode b_R_init 4 = .ok (.aload_n 0, 1) := by decide +kernel
theorem d_R_init_5 : decode b_R_init 5 = .ok (.iconst 5, 1) := by decide +kernel
theorem d_R_init_6 : decode b_R_init 6 = .ok (.newarray .int, 2) := by decide +kernel
theorem d_R_init_8 : decode b_R_init 8 = .ok (.putfield 7, 3) := by decide +kernel
theorem d_R_init_11 : decode b_R_init 11 = .ok (.aload_n 0, 1) := by decide +kernel
theorem d_R_init_12 : decode b_R_init 12 = .ok (.iconst 5, 1) := by decide +kernel
theorem d_R_init_13 : decode b_R_init 13 = .ok (.newarray .int, 2) := by decide +kernel
theorem d_R_init_15 : decode b_R_init 15 = .ok (.putfield 13, 3) := by decide +kernel
theorem d_R_init_18 : decode b_R_init 18 = .ok (.aload_n 0, 1) := by decide +kernel
theorem d_R_init_19 : decode b_R_init 19 = .ok (.bipush (120), 2) := by decide +kernel
theorem d_R_init_21 : decode b_R_init 21 = .ok (.newarray .int, 2) := by decide +kernel
theorem d_R_init_23 : decode b_R_init 23 = .ok (.putfield 16, 3) := by decide +kernel
theorem d_R_init_26 : decode b_R_init 26 = .ok (.aload_n 0, 1) := by decide +kernel
theorem d_R_init_27 : decode b_R_init 27 = .ok (.bipush (120), 2) := by decide +kernel
theorem d_R_init_29 : decode b_R_init 29 = .ok (.newarray .int, 2) := by decide +kernel
theorem d_R_init_31 : decode b_R_init 31 = .ok (.putfield 19, 3) := by decide +kernel
theorem d_R_init_34 : decode b_R_init 34 = .ok (.aload_n 0, 1) := by decide +kernel
theorem d_R_init_35 : decode b_R_init 35 = .ok (.bipush (120), 2) := by decide +kernel
theorem d_R_init_37 : decode b_R_init 37 = .ok (.newarray .int, 2) := by decide +kernel
theorem d_R_init_39 : decode b_R_init 39 = .ok (.putfield 22, 3) := by decide +kernel
theorem d_R_init_42 : decode b_R_init 42 = .ok (.aload_n 0, 1) := by decide +kernel
theorem d_R_init_43 : decode b_R_init 43 = .ok (.bipush (120), 2) := by decide +kernel
theorem d_R_init_45 : decode b_R_init 45 = .ok (.newarray .int, 2) := by decide +kernel
theorem d_R_init_47 : decode b_R_init 47 = .ok (.putfield 25, 3) := by decide +kernel
theorem d_R_init_50 : decode b_R_init 50 = .ok (.aload_n 0, 1) := by decide +kernel
theorem d_R_init_51 : decode b_R_init 51 = .ok (.bipush (120), 2) := by decide +kernel
theorem d_R_init_53 : decode b_R_init 53 = .ok (.newarray .int, 2) := by decide +kernel
theorem d_R_init_55 : decode b_R_init 55 = .ok (.putfield 28, 3) := by decide +kernel
theorem d_R_init_58 : decode b_R_init 58 = .ok (.aload_n 0, 1) := by decide +kernel
theorem d_R_init_59 : decode b_R_init 59 = .ok (.bipush (20), 2) := by decide +kernel
theorem d_R_init_61 : decode b_R_init 61 = .ok (.newarray .int, 2) := by decide +kernel
theorem d_R_init_63 : decode b_R_init 63 = .ok (.putfield 31, 3) := by decide +kernel
theorem d_R_init_66 : decode b_R_init 66 = .ok (.aload_n 0, 1) := by decide +kernel
theorem d_R_init_67 : decode b_R_init 67 = .ok (.sipush (270), 3) := by decide +kernel
theorem d_R_init_70 : decode b_R_init 70 = .ok (.newarray .int, 2) := by decide +kernel
theorem d_R_init_72 : decode b_R_init 72 = .ok (.putfield 34, 3) := by decide +kernel
theorem d_R_init_75 : decode b_R_init 75 = .ok (.aload_n 0, 1) := by decide +kernel
theorem d_R_init_76 : decode b_R_init 76 = .ok (.iconst 5, 1) := by decide +kernel
theorem d_R_init_77 : decode b_R_init 77 = .ok (.newarray .int, 2) := by decide +kernel
theorem d_R_init_79 : decode b_R_init 79 = .ok (.putfield 37, 3) := by decide +kernel
theorem d_R_init_82 : decode b_R_init 82 = .ok (.aload_n 0, 1) := by decide +kernel
theorem d_R_init_83 : decode b_R_init 83 = .ok (.bipush (10), 2) := by decide +kernel
theorem d_R_init_85 : decode b_R_init 85 = .ok (.newarray .int, 2) := by decide +kernel
theorem d_R_init_87 : decode b_R_init 87 = .ok (.putfield 40, 3) := by decide +kernel
theorem d_R_init_90 : decode b_R_init 90 = .ok (.aload_n 0, 1) := by decide +kernel
theorem d_R_init_91 : decode b_R_init 91 = .ok (.bipush (24), 2) := by decide +kernel
theorem d_R_init_93 : decode b_R_init 93 = .ok (.newarray .boolean, 2) := by decide +kernel
theorem d_R_init_95 : decode b_R_init 95 = .ok (.putfield 43, 3) := by decide +kernel
theorem d_R_init_98 : decode b_R_init 98 = .ok (.aload_n 0, 1) := by decide +kernel
theorem d_R_init_99 : decode b_R_init 99 = .ok (.bipush (8), 2) := by decide +kernel
theorem d_R_init_101 : decode b_R_init 101 = .ok (.newarray .int, 2) := by decide +kernel
theorem d_R_init_103 : decode b_R_init 103 = .ok (.putfield 47, 3) := by decide +kernel
theorem d_R_init_106 : decode b_R_init 106 = .ok (.aload_n 0, 1) := by decide +kernel
theorem d_R_init_107 : decode b_R_init 107 = .ok (.bipush (8), 2) := by decide +kernel
theorem d_R_init_109 : decode b_R_init 109 = .ok (.newarray .int, 2) := by decide +kernel
theorem d_R_init_111 : decode b_R_init 111 = .ok (.putfield 50, 3) := by decide +kernel
theorem d_R_init_114 : decode b_R_init 114 = .ok (.aload_n 0, 1) := by decide +kernel
theorem d_R_init_115 : decode b_R_init 115 = .ok (.bipush (8), 2) := by decide +kernel
theorem d_R_init_117 : decode b_R_init 117 = .ok (.newarray .int, 2) := by decide +kernel
theorem d_R_init_119 : decode b_R_init 119 = .ok (.putfield 53, 3) := by decide +kernel
theorem d_R_init_122 : decode b_R_init 122 = .ok (.aload_n 0, 1) := by decide +kernel
theorem d_R_init_123 : decode b_R_init 123 = .ok (.bipush (32), 2) := by decide +kernel
theorem d_R_init_125 : decode b_R_init 125 = .ok (.newarray .int, 2) := by decide +kernel
theorem d_R_init_127 : decode b_R_init 127 = .ok (.putfield 56, 3) := by decide +kernel
theorem d_R_init_130 : decode b_R_init 130 = .ok (.aload_n 0, 1) := by decide +kernel
theorem d_R_init_131 : decode b_R_init 131 = .ok (.bipush (32), 2) := by decide +kernel
theorem d_R_init_133 : decode b_R_init 133 = .ok (.newarray .int, 2) := by decide +kernel
theorem d_R_init_135 : decode b_R_init 135 = .ok (.putfield 59, 3) := by decide +kernel
theorem d_R_init_138 : decode b_R_init 138 = .ok (.aload_n 0, 1) := by decide +kernel
theorem d_R_init_139 : decode b_R_init 139 = .ok (.sipush (160), 3) := by decide +kernel
theorem d_R_init_142 : decode b_R_init 142 = .ok (.newarray .int, 2) := by decide +kernel
theorem d_R_init_144 : decode b_R_init 144 = .ok (.putfield 62, 3) := by decide +kernel
theorem d_R_init_147 : decode b_R_init 147 = .ok (.aload_n 0, 1) := by decide +kernel
theorem d_R_init_148 : decode b_R_init 148 = .ok (.sipush (2100), 3) := by decide +kernel
theorem d_R_init_151 : decode b_R_init 151 = .ok (.newarray .int, 2) := by decide +kernel
theorem d_R_init_153 : decode b_R_init 153 = .ok (.putfield 65, 3) := by decide +kernel
theorem d_R_init_156 : decode b_R_init 156 = .ok (.aload_n 0, 1) := by decide +kernel
theorem d_R_init_157 : decode b_R_init 157 = .ok (.iconst 4, 1) := by decide +kernel
theorem d_R_init_158 : decode b_R_init 158 = .ok (.newarray .int, 2) := by decide +kernel
theorem d_R_init_160 : decode b_R_init 160 = .ok (.putfield 68, 3) := by decide +kernel
theorem d_R_init_163 : decode b_R_init 163 = .ok (.aload_n 0, 1) := by decide +kernel
theorem d_R_init_164 : decode b_R_init 164 = .ok (.bipush (32), 2) := by decide +kernel
theorem d_R_init_166 : decode b_R_init 166 = .ok (.newarray .int, 2) := by decide +kernel
theorem d_R_init_168 : decode b_R_init 168 = .ok (.putfield 71, 3) := by decide +kernel
theorem d_R_init_171 : decode b_R_init 171 = .ok (.aload_n 0, 1) := by decide +kernel
theorem d_R_init_172 : decode b_R_init 172 = .ok (.bipush (120), 2) := by decide +kernel
theorem d_R_init_174 : decode b_R_init 174 = .ok (.newarray .int, 2) := by decide +kernel
theorem d_R_init_176 : decode b_R_init 176 = .ok (.putfield 74, 3) := by decide +kernel
theorem d_R_init_179 : decode b_R_init 179 = .ok (.return_, 1) := by decide +kernel
theorem d_E_init_0 : decode b_E_init 0 = .ok (.aload_n 0, 1) := by decide +kernel
theorem d_E_init_1 : decode b_E_init 1 = .ok (.invokespecial 3, 3) := by decide +kernel
theorem d_E_init_4 : decode b_E_init 4 = .ok (.aload_n 0, 1) := by decide +kernel
theorem d_E_init_5 : decode b_E_init 5 = .ok (.iconst 5, 1) := by decide +kernel
theorem d_E_init_6 : decode b_E_init 6 = .ok (.anewarray 9, 3) := by decide +kernel
theorem d_E_init_9 : decode b_E_init 9 = .ok (.putfield 11, 3) := by decide +kernel
theorem d_E_init_12 : decode b_E_init 12 = .ok (.aload_n 0, 1) := by decide +kernel
theorem d_E_init_13 : decode b_E_init 13 = .ok (.iconst 5, 1) := by decide +kernel
theorem d_E_init_14 : decode b_E_init 14 = .ok (.anewarray 15, 3) := by decide +kernel
theorem d_E_init_17 : decode b_E_init 17 = .ok (.putfield 17, 3) := by decide +kernel
theorem d_E_init_20 : decode b_E_init 20 = .ok (.aload_n 0, 1) := by decide +kernel
theorem d_E_init_21 : decode b_E_init 21 = .ok (.iconst 5, 1) := by decide +kernel
theorem d_E_init_22 : decode b_E_init 22 = .ok (.anewarray 21, 3) := by decide +kernel
theorem d_E_init_25 : decode b_E_init 25 = .ok (.putfield 23, 3) := by decide +kernel
theorem d_E_init_28 : decode b_E_init 28 = .ok (.aload_n 0, 1) := by decide +kernel
theorem d_E_init_29 : decode b_E_init 29 = .ok (.new 27, 3) := by decide +kernel
theorem d_E_init_32 : decode b_E_init 32 = .ok (.dup, 1) := by decide +kernel
theorem d_E_init_33 : decode b_E_init 33 = .ok (.invokespecial 29, 3) := by decide +kernel
theorem d_E_init_36 : decode b_E_init 36 = .ok (.putfield 30, 3) := by decide +kernel
theorem d_E_init_39 : decode b_E_init 39 = .ok (.aload_n 0, 1) := by decide +kernel
theorem d_E_init_40 : decode b_E_init 40 = .ok (.iconst 0, 1) := by decide +kernel
theorem d_E_init_41 : decode b_E_init 41 = .ok (.putfield 34, 3) := by decide +kernel
theorem d_E_init_44 : decode b_E_init 44 = .ok (.iconst 0, 1) := by decide +kernel
theorem d_E_init_45 : decode b_E_init 45 = .ok (.istore_n 1, 1) := by decide +kernel
theorem d_E_init_46 : decode b_E_init 46 = .ok (.iload_n 1, 1) := by decide +kernel
theorem d_E_init_47 : decode b_E_init 47 = .ok (.iconst 5, 1) := by decide +kernel
theorem d_E_init_48 : decode b_E_init 48 = .ok (.if_icmp .ge (48), 3) := by decide +kernel
theorem d_E_init_51 : decode b_E_init 51 = .ok (.aload_n 0, 1) := by decide +kernel
theorem d_E_init_52 : decode b_E_init 52 = .ok (.getfield 11, 3) := by decide +kernel
theorem d_E_init_55 : decode b_E_init 55 = .ok (.iload_n 1, 1) := by decide +kernel
theorem d_E_init_56 : decode b_E_init 56 = .ok (.new 9, 3) := by decide +kernel
theorem d_E_init_59 : decode b_E_init 59 = .ok (.dup, 1) := by decide +kernel
theorem d_E_init_60 : decode b_E_init 60 = .ok (.invokespecial 38, 3) := by decide +kernel
theorem d_E_init_63 : decode b_E_init 63 = .ok (.aastore, 1) := by decide +kernel
theorem d_E_init_64 : decode b_E_init 64 = .ok (.aload_n 0, 1) := by decide +kernel
theorem d_E_init_65 : decode b_E_init 65 = .ok (.getfield 17, 3) := by decide +kernel
theorem d_E_init_68 : decode b_E_init 68 = .ok (.iload_n 1, 1) := by decide +kernel
theorem d_E_init_69 : decode b_E_init 69 = .ok (.new 15, 3) := by decide +kernel
theorem d_E_init_72 : decode b_E_init 72 = .ok (.dup, 1) := by decide +kernel
theorem d_E_init_73 : decode b_E_init 73 = .ok (.invokespecial 39, 3) := by decide +kernel
theorem d_E_init_76 : decode b_E_init 76 = .ok (.aastore, 1) := by decide +kernel
theorem d_E_init_77 : decode b_E_init 77 = .ok (.aload_n 0, 1) := by decide +kernel
theorem d_E_init_78 : decode b_E_init 78 = .ok (.getfield 23, 3) := by decide +kernel
theorem d_E_init_81 : decode b_E_init 81 = .ok (.iload_n 1, 1) := by decide +kernel
theorem d_E_init_82 : decode b_E_init 82 = .ok (.new 21, 3) := by decide +kernel
theorem d_E_init_85 : decode b_E_init 85 = .ok (.dup, 1) := by decide +kernel
theorem d_E_init_86 : decode b_E_init 86 = .ok (.invokespecial 40, 3) := by decide +kernel
theorem d_E_init_89 : decode b_E_init 89 = .ok (.aastore, 1) := by decide +kernel
theorem d_E_init_90 : decode b_E_init 90 = .ok (.iinc 1 (1), 3) := by decide +kernel
theorem d_E_init_93 : decode b_E_init 93 = .ok (.goto (-47), 3) := by decide +kernel
theorem d_E_init_96 : decode b_E_init 96 = .ok (.return_, 1) := by decide +kernel

def cW_C (tA : Nat → ClassId) (h0 q1 q2 q3 q4 q5 : Nat) : va_W := [(h0, .inr (0, [.ref q1, .ref q2, .ref q3, .ref q4, .ref q5, .int 0, .int 0])), (q1, cAr tA 24), (q2, cAr tA 24), (q3, cAr tA 24), (q4, cAr tA 24), (q5, cAr tA 24)]
set_option maxRecDepth 100000 in
set_option maxHeartbeats 4000000 in
theorem k_C_init : cn_ct wsI y_C_init b_C_init 1 1 5 120 0 [.null, .null, .null, .null, .null, .int 0, .int 0] (fun _ => True) (fun tA h0 ws => ∃ q1 q2 q3 q4 q5, ws = cW_C tA h0 q1 q2 q3 q4 q5) := by
  refine cn_of (by decide) rfl (by decide) (by decide) ?_
  intro X la h0 C hl hR hZ hret
  have hRc : (cn_R X).cells = 5 := by rw [hR]; rfl
  have hRs : (cn_R X).slots = 120 := by rw [hR]; rfl
  refine cn_aload C d_C_init_0 rfl hl 0 rfl ?_
  refine cn_obj C d_C_init_1 (wI_in (mem_i 0 rfl)) (wI_in (mem_i 6 rfl)) (wI_in (mem_i 7 rfl)) hl.1 ?_
  refine cn_aload C d_C_init_4 rfl hl 0 rfl ?_
  refine cn_bipush (v := 24) C d_C_init_5 (by decide) ?_
  refine cn_newa (t := 0) (N := 24) C d_C_init_7 rfl rfl (wI_in (mem_i 8 rfl)) (by decide) (by omega) (Or.inl rfl) (by rw [hRc]; omega) (by rw [hRs]; omega) (fun q1 => ?_)
  refine cn_putF (i0 := 0) (ty := .array .int) C d_C_init_9 (fl_I fC_9) ⟨nC, tC, 7, uC, rfl, tyC, nmC, rfl, rfl, rfl⟩ rfl (Nat.le_of_ble_eq_true rfl) rfl rfl ?_
  refine cn_eq (ws' := [(h0, .inr (0, [.ref q1, .null, .null, .null, .null, .int 0, .int 0])), (q1, cAr (cn_tA X) 24)]) rfl ?_
  refine cn_aload C d_C_init_12 rfl hl 0 rfl ?_
  refine cn_bipush (v := 24) C d_C_init_13 (by decide) ?_
  refine cn_newa (t := 0) (N := 24) C d_C_init_15 rfl rfl (wI_in (mem_i 8 rfl)) (by decide) (by omega) (Or.inl rfl) (by rw [hRc]; omega) (by rw [hRs]; omega) (fun q2 => ?_)
  refine cn_putF (i0 := 0) (ty := .array .int) C d_C_init_17 (fl_I fC_15) ⟨nC, tC, 7, uC, rfl, tyC, nmC, rfl, rfl, rfl⟩ rfl (Nat.le_of_ble_eq_true rfl) rfl rfl ?_
  refine cn_eq (ws' := [(h0, .inr (0, [.ref q1, .ref q2, .null, .null, .null, .int 0, .int 0])), (q1, cAr (cn_tA X) 24), (q2, cAr (cn_tA X) 24)]) rfl ?_
  refine cn_aload C d_C_init_20 rfl hl 0 rfl ?_
  refine cn_bipush (v := 24) C d_C_init_21 (by decide) ?_
  refine cn_newa (t := 0) (N := 24) C d_C_init_23 rfl rfl (wI_in (mem_i 8 rfl)) (by decide) (by omega) (Or.inl rfl) (by rw [hRc]; omega) (by rw [hRs]; omega) (fun q3 => ?_)
  refine cn_putF (i0 := 0) (ty := .array .int) C d_C_init_25 (fl_I fC_18) ⟨nC, tC, 7, uC, rfl, tyC, nmC, rfl, rfl, rfl⟩ rfl (Nat.le_of_ble_eq_true rfl) rfl rfl ?_
  refine cn_eq (ws' := [(h0, .inr (0, [.ref q1, .ref q2, .ref q3, .null, .null, .int 0, .int 0])), (q1, cAr (cn_tA X) 24), (q2, cAr (cn_tA X) 24), (q3, cAr (cn_tA X) 24)]) rfl ?_
  refine cn_aload C d_C_init_28 rfl hl 0 rfl ?_
  refine cn_bipush (v := 24) C d_C_init_29 (by decide) ?_
  refine cn_newa (t := 0) (N := 24) C d_C_init_31 rfl rfl (wI_in (mem_i 8 rfl)) (by decide) (by omega) (Or.inl rfl) (by rw [hRc]; omega) (by rw [hRs]; omega) (fun q4 => ?_)
  refine cn_putF (i0 := 0) (ty := .array .int) C d_C_init_33 (fl_I fC_21) ⟨nC, tC, 7, uC, rfl, tyC, nmC, rfl, rfl, rfl⟩ rfl (Nat.le_of_ble_eq_true rfl) rfl rfl ?_
  refine cn_eq (ws' := [(h0, .inr (0, [.ref q1, .ref q2, .ref q3, .ref q4, .null, .int 0, .int 0])), (q1, cAr (cn_tA X) 24), (q2, cAr (cn_tA X) 24), (q3, cAr (cn_tA X) 24), (q4, cAr (cn_tA X) 24)]) rfl ?_
  refine cn_aload C d_C_init_36 rfl hl 0 rfl ?_
  refine cn_bipush (v := 24) C d_C_init_37 (by decide) ?_
  refine cn_newa (t := 0) (N := 24) C d_C_init_39 rfl rfl (wI_in (mem_i 8 rfl)) (by decide) (by omega) (Or.inl rfl) (by rw [hRc]; omega) (by rw [hRs]; omega) (fun q5 => ?_)
  refine cn_putF (i0 := 0) (ty := .array .int) C d_C_init_41 (fl_I fC_24) ⟨nC, tC, 7, uC, rfl, tyC, nmC, rfl, rfl, rfl⟩ rfl (Nat.le_of_ble_eq_true rfl) rfl rfl ?_
  refine cn_eq (ws' := [(h0, .inr (0, [.ref q1, .ref q2, .ref q3, .ref q4, .ref q5, .int 0, .int 0])), (q1, cAr (cn_tA X) 24), (q2, cAr (cn_tA X) 24), (q3, cAr (cn_tA X) 24), (q4, cAr (cn_tA X) 24), (q5, cAr (cn_tA X) 24)]) rfl ?_
  refine cn_aload C d_C_init_44 rfl hl 0 rfl ?_
  refine cn_iconst (v := 0) C d_C_init_45 (by decide) ?_
  refine cn_puti (i0 := 0) C d_C_init_46 (fl_I fC_27) pC_5 rfl (Nat.le_of_ble_eq_true rfl) (by decide) (by decide) ?_
  refine cn_eq (ws' := [(h0, .inr (0, [.ref q1, .ref q2, .ref q3, .ref q4, .ref q5, .int 0, .int 0])), (q1, cAr (cn_tA X) 24), (q2, cAr (cn_tA X) 24), (q3, cAr (cn_tA X) 24), (q4, cAr (cn_tA X) 24), (q5, cAr (cn_tA X) 24)]) rfl ?_
  refine cn_aload C d_C_init_49 rfl hl 0 rfl ?_
  refine cn_iconst (v := 0) C d_C_init_50 (by decide) ?_
  refine cn_puti (i0 := 0) C d_C_init_51 (fl_I fC_31) pC_6 rfl (Nat.le_of_ble_eq_true rfl) (by decide) (by decide) ?_
  refine cn_eq (ws' := [(h0, .inr (0, [.ref q1, .ref q2, .ref q3, .ref q4, .ref q5, .int 0, .int 0])), (q1, cAr (cn_tA X) 24), (q2, cAr (cn_tA X) 24), (q3, cAr (cn_tA X) 24), (q4, cAr (cn_tA X) 24), (q5, cAr (cn_tA X) 24)]) rfl ?_
  exact hret _ _ _ _ (by omega) (by omega) d_C_init_54 ⟨q1, q2, q3, q4, q5, rfl⟩ _
def cW_P (tA : Nat → ClassId) (h0 q1 : Nat) : va_W := [(h0, .inr (3, [.ref q1])), (q1, cAr tA 24)]
set_option maxRecDepth 100000 in
set_option maxHeartbeats 4000000 in
theorem k_P_init : cn_ct wsI y_P_init b_P_init 1 1 1 24 3 [.null] (fun _ => True) (fun tA h0 ws => ∃ q1, ws = cW_P tA h0 q1) := by
  refine cn_of (by decide) rfl (by decide) (by decide) ?_
  intro X la h0 C hl hR hZ hret
  have hRc : (cn_R X).cells = 1 := by rw [hR]; rfl
  have hRs : (cn_R X).slots = 24 := by rw [hR]; rfl
  refine cn_aload C d_P_init_0 rfl hl 0 rfl ?_
  refine cn_obj C d_P_init_1 (wI_in (mem_i 3 rfl)) (wI_in (mem_i 6 rfl)) (wI_in (mem_i 7 rfl)) hl.1 ?_
  refine cn_aload C d_P_init_4 rfl hl 0 rfl ?_
  refine cn_bipush (v := 24) C d_P_init_5 (by decide) ?_
  refine cn_newa (t := 0) (N := 24) C d_P_init_7 rfl rfl (wI_in (mem_i 8 rfl)) (by decide) (by omega) (Or.inl rfl) (by rw [hRc]; omega) (by rw [hRs]; omega) (fun q1 => ?_)
  refine cn_putF (i0 := 0) (ty := .array .int) C d_P_init_9 (fl_I fP_9) ⟨nP, tP, 1, uP, rfl, tyP, nmP, rfl, rfl, rfl⟩ rfl (Nat.le_of_ble_eq_true rfl) rfl rfl ?_
  refine cn_eq (ws' := [(h0, .inr (3, [.ref q1])), (q1, cAr (cn_tA X) 24)]) rfl ?_
  exact hret _ _ _ _ (by omega) (by omega) d_P_init_12 ⟨q1, rfl⟩ _
def cW_M (tA : Nat → ClassId) (h0 q1 q2 q3 q4 q5 q6 q7 q8 q9 q10 : Nat) : va_W := [(h0, .inr (2, [.ref q1, .ref q2, .ref q3, .ref q4, .ref q5, .ref q6, .ref q7, .ref q8, .ref q9, .int 0, .ref q10, .int 0, .int 0, .int 0, .int 0, .int 0])), (q1, cAr tA 866), (q2, cAr tA 866), (q3, cAr tA 433), (q4, cAr tA 4), (q5, cAr tA 8), (q6, cAr tA 8), (q7, cAr tA 8), (q8, cAr tA 32), (q9, cAr tA 32), (q10, cAr tA 32)]
set_option maxRecDepth 100000 in
set_option maxHeartbeats 4000000 in
theorem k_M_init : cn_ct wsI y_M_init b_M_init 1 1 10 2289 2 [.null, .null, .null, .null, .null, .null, .null, .null, .null, .int 0, .null, .int 0, .int 0, .int 0, .int 0, .int 0] (fun _ => True) (fun tA h0 ws => ∃ q1 q2 q3 q4 q5 q6 q7 q8 q9 q10, ws = cW_M tA h0 q1 q2 q3 q4 q5 q6 q7 q8 q9 q10) := by
  refine cn_of (by decide) rfl (by decide) (by decide) ?_
  intro X la h0 C hl hR hZ hret
  have hRc : (cn_R X).cells = 10 := by rw [hR]; rfl
  have hRs : (cn_R X).slots = 2289 := by rw [hR]; rfl
  refine cn_aload C d_M_init_0 rfl hl 0 rfl ?_
  refine cn_obj C d_M_init_1 (wI_in (mem_i 2 rfl)) (wI_in (mem_i 6 rfl)) (wI_in (mem_i 7 rfl)) hl.1 ?_
  refine cn_aload C d_M_init_4 rfl hl 0 rfl ?_
  refine cn_sipush (v := 866) C d_M_init_5 (by decide) ?_
  refine cn_newa (t := 0) (N := 866) C d_M_init_8 rfl rfl (wI_in (mem_i 8 rfl)) (by decide) (by omega) (Or.inl rfl) (by rw [hRc]; omega) (by rw [hRs]; omega) (fun q1 => ?_)
  refine cn_putF (i0 := 0) (ty := .array .int) C d_M_init_10 (fl_I fM_11) ⟨nM, tM, 16, uM, rfl, tyM, nmM, rfl, rfl, rfl⟩ rfl (Nat.le_of_ble_eq_true rfl) rfl rfl ?_
  refine cn_eq (ws' := [(h0, .inr (2, [.ref q1, .null, .null, .null, .null, .null, .null, .null, .null, .int 0, .null, .int 0, .int 0, .int 0, .int 0, .int 0])), (q1, cAr (cn_tA X) 866)]) rfl ?_
  refine cn_aload C d_M_init_13 rfl hl 0 rfl ?_
  refine cn_sipush (v := 866) C d_M_init_14 (by decide) ?_
  refine cn_newa (t := 0) (N := 866) C d_M_init_17 rfl rfl (wI_in (mem_i 8 rfl)) (by decide) (by omega) (Or.inl rfl) (by rw [hRc]; omega) (by rw [hRs]; omega) (fun q2 => ?_)
  refine cn_putF (i0 := 0) (ty := .array .int) C d_M_init_19 (fl_I fM_15) ⟨nM, tM, 16, uM, rfl, tyM, nmM, rfl, rfl, rfl⟩ rfl (Nat.le_of_ble_eq_true rfl) rfl rfl ?_
  refine cn_eq (ws' := [(h0, .inr (2, [.ref q1, .ref q2, .null, .null, .null, .null, .null, .null, .null, .int 0, .null, .int 0, .int 0, .int 0, .int 0, .int 0])), (q1, cAr (cn_tA X) 866), (q2, cAr (cn_tA X) 866)]) rfl ?_
  refine cn_aload C d_M_init_22 rfl hl 0 rfl ?_
  refine cn_sipush (v := 433) C d_M_init_23 (by decide) ?_
  refine cn_newa (t := 0) (N := 433) C d_M_init_26 rfl rfl (wI_in (mem_i 8 rfl)) (by decide) (by omega) (Or.inl rfl) (by rw [hRc]; omega) (by rw [hRs]; omega) (fun q3 => ?_)
  refine cn_putF (i0 := 0) (ty := .array .int) C d_M_init_28 (fl_I fM_18) ⟨nM, tM, 16, uM, rfl, tyM, nmM, rfl, rfl, rfl⟩ rfl (Nat.le_of_ble_eq_true rfl) rfl rfl ?_
  refine cn_eq (ws' := [(h0, .inr (2, [.ref q1, .ref q2, .ref q3, .null, .null, .null, .null, .null, .null, .int 0, .null, .int 0, .int 0, .int 0, .int 0, .int 0])), (q1, cAr (cn_tA X) 866), (q2, cAr (cn_tA X) 866), (q3, cAr (cn_tA X) 433)]) rfl ?_
  refine cn_aload C d_M_init_31 rfl hl 0 rfl ?_
  refine cn_iconst (v := 4) C d_M_init_32 (by decide) ?_
  refine cn_newa (t := 0) (N := 4) C d_M_init_33 rfl rfl (wI_in (mem_i 8 rfl)) (by decide) (by omega) (Or.inl rfl) (by rw [hRc]; omega) (by rw [hRs]; omega) (fun q4 => ?_)
  refine cn_putF (i0 := 0) (ty := .array .int) C d_M_init_35 (fl_I fM_21) ⟨nM, tM, 16, uM, rfl, tyM, nmM, rfl, rfl, rfl⟩ rfl (Nat.le_of_ble_eq_true rfl) rfl rfl ?_
  refine cn_eq (ws' := [(h0, .inr (2, [.ref q1, .ref q2, .ref q3, .ref q4, .null, .null, .null, .null, .null, .int 0, .null, .int 0, .int 0, .int 0, .int 0, .int 0])), (q1, cAr (cn_tA X) 866), (q2, cAr (cn_tA X) 866), (q3, cAr (cn_tA X) 433), (q4, cAr (cn_tA X) 4)]) rfl ?_
  refine cn_aload C d_M_init_38 rfl hl 0 rfl ?_
  refine cn_bipush (v := 8) C d_M_init_39 (by decide) ?_
  refine cn_newa (t := 0) (N := 8) C d_M_init_41 rfl rfl (wI_in (mem_i 8 rfl)) (by decide) (by omega) (Or.inl rfl) (by rw [hRc]; omega) (by rw [hRs]; omega) (fun q5 => ?_)
  refine cn_putF (i0 := 0) (ty := .array .int) C d_M_init_43 (fl_I fM_24) ⟨nM, tM, 16, uM, rfl, tyM, nmM, rfl, rfl, rfl⟩ rfl (Nat.le_of_ble_eq_true rfl) rfl rfl ?_
  refine cn_eq (ws' := [(h0, .inr (2, [.ref q1, .ref q2, .ref q3, .ref q4, .ref q5, .null, .null, .null, .null, .int 0, .null, .int 0, .int 0, .int 0, .int 0, .int 0])), (q1, cAr (cn_tA X) 866), (q2, cAr (cn_tA X) 866), (q3, cAr (cn_tA X) 433), (q4, cAr (cn_tA X) 4), (q5, cAr (cn_tA X) 8)]) rfl ?_
  refine cn_aload C d_M_init_46 rfl hl 0 rfl ?_
  refine cn_bipush (v := 8) C d_M_init_47 (by decide) ?_
  refine cn_newa (t := 0) (N := 8) C d_M_init_49 rfl rfl (wI_in (mem_i 8 rfl)) (by decide) (by omega) (Or.inl rfl) (by rw [hRc]; omega) (by rw [hRs]; omega) (fun q6 => ?_)
  refine cn_putF (i0 := 0) (ty := .array .int) C d_M_init_51 (fl_I fM_27) ⟨nM, tM, 16, uM, rfl, tyM, nmM, rfl, rfl, rfl⟩ rfl (Nat.le_of_ble_eq_true rfl) rfl rfl ?_
  refine cn_eq (ws' := [(h0, .inr (2, [.ref q1, .ref q2, .ref q3, .ref q4, .ref q5, .ref q6, .null, .null, .null, .int 0, .null, .int 0, .int 0, .int 0, .int 0, .int 0])), (q1, cAr (cn_tA X) 866), (q2, cAr (cn_tA X) 866), (q3, cAr (cn_tA X) 433), (q4, cAr (cn_tA X) 4), (q5, cAr (cn_tA X) 8), (q6, cAr (cn_tA X) 8)]) rfl ?_
  refine cn_aload C d_M_init_54 rfl hl 0 rfl ?_
  refine cn_bipush (v := 8) C d_M_init_55 (by decide) ?_
  refine cn_newa (t := 0) (N := 8) C d_M_init_57 rfl rfl (wI_in (mem_i 8 rfl)) (by decide) (by omega) (Or.inl rfl) (by rw [hRc]; omega) (by rw [hRs]; omega) (fun q7 => ?_)
  refine cn_putF (i0 := 0) (ty := .array .int) C d_M_init_59 (fl_I fM_30) ⟨nM, tM, 16, uM, rfl, tyM, nmM, rfl, rfl, rfl⟩ rfl (Nat.le_of_ble_eq_true rfl) rfl rfl ?_
  refine cn_eq (ws' := [(h0, .inr (2, [.ref q1, .ref q2, .ref q3, .ref q4, .ref q5, .ref q6, .ref q7, .null, .null, .int 0, .null, .int 0, .int 0, .int 0, .int 0, .int 0])), (q1, cAr (cn_tA X) 866), (q2, cAr (cn_tA X) 866), (q3, cAr (cn_tA X) 433), (q4, cAr (cn_tA X) 4), (q5, cAr (cn_tA X) 8), (q6, cAr (cn_tA X) 8), (q7, cAr (cn_tA X) 8)]) rfl ?_
  refine cn_aload C d_M_init_62 rfl hl 0 rfl ?_
  refine cn_bipush (v := 32) C d_M_init_63 (by decide) ?_
  refine cn_newa (t := 0) (N := 32) C d_M_init_65 rfl rfl (wI_in (mem_i 8 rfl)) (by decide) (by omega) (Or.inl rfl) (by rw [hRc]; omega) (by rw [hRs]; omega) (fun q8 => ?_)
  refine cn_putF (i0 := 0) (ty := .array .int) C d_M_init_67 (fl_I fM_33) ⟨nM, tM, 16, uM, rfl, tyM, nmM, rfl, rfl, rfl⟩ rfl (Nat.le_of_ble_eq_true rfl) rfl rfl ?_
  refine cn_eq (ws' := [(h0, .inr (2, [.ref q1, .ref q2, .ref q3, .ref q4, .ref q5, .ref q6, .ref q7, .ref q8, .null, .int 0, .null, .int 0, .int 0, .int 0, .int 0, .int 0])), (q1, cAr (cn_tA X) 866), (q2, cAr (cn_tA X) 866), (q3, cAr (cn_tA X) 433), (q4, cAr (cn_tA X) 4), (q5, cAr (cn_tA X) 8), (q6, cAr (cn_tA X) 8), (q7, cAr (cn_tA X) 8), (q8, cAr (cn_tA X) 32)]) rfl ?_
  refine cn_aload C d_M_init_70 rfl hl 0 rfl ?_
  refine cn_bipush (v := 32) C d_M_init_71 (by decide) ?_
  refine cn_newa (t := 0) (N := 32) C d_M_init_73 rfl rfl (wI_in (mem_i 8 rfl)) (by decide) (by omega) (Or.inl rfl) (by rw [hRc]; omega) (by rw [hRs]; omega) (fun q9 => ?_)
  refine cn_putF (i0 := 0) (ty := .array .int) C d_M_init_75 (fl_I fM_36) ⟨nM, tM, 16, uM, rfl, tyM, nmM, rfl, rfl, rfl⟩ rfl (Nat.le_of_ble_eq_true rfl) rfl rfl ?_
  refine cn_eq (ws' := [(h0, .inr (2, [.ref q1, .ref q2, .ref q3, .ref q4, .ref q5, .ref q6, .ref q7, .ref q8, .ref q9, .int 0, .null, .int 0, .int 0, .int 0, .int 0, .int 0])), (q1, cAr (cn_tA X) 866), (q2, cAr (cn_tA X) 866), (q3, cAr (cn_tA X) 433), (q4, cAr (cn_tA X) 4), (q5, cAr (cn_tA X) 8), (q6, cAr (cn_tA X) 8), (q7, cAr (cn_tA X) 8), (q8, cAr (cn_tA X) 32), (q9, cAr (cn_tA X) 32)]) rfl ?_
  refine cn_aload C d_M_init_78 rfl hl 0 rfl ?_
  refine cn_iconst (v := 0) C d_M_init_79 (by decide) ?_
  refine cn_puti (i0 := 0) C d_M_init_80 (fl_I fM_39) pM_9 rfl (Nat.le_of_ble_eq_true rfl) (by decide) (by decide) ?_
  refine cn_eq (ws' := [(h0, .inr (2, [.ref q1, .ref q2, .ref q3, .ref q4, .ref q5, .ref q6, .ref q7, .ref q8, .ref q9, .int 0, .null, .int 0, .int 0, .int 0, .int 0, .int 0])), (q1, cAr (cn_tA X) 866), (q2, cAr (cn_tA X) 866), (q3, cAr (cn_tA X) 433), (q4, cAr (cn_tA X) 4), (q5, cAr (cn_tA X) 8), (q6, cAr (cn_tA X) 8), (q7, cAr (cn_tA X) 8), (q8, cAr (cn_tA X) 32), (q9, cAr (cn_tA X) 32)]) rfl ?_
  refine cn_aload C d_M_init_83 rfl hl 0 rfl ?_
  refine cn_bipush (v := 32) C d_M_init_84 (by decide) ?_
  refine cn_newa (t := 0) (N := 32) C d_M_init_86 rfl rfl (wI_in (mem_i 8 rfl)) (by decide) (by omega) (Or.inl rfl) (by rw [hRc]; omega) (by rw [hRs]; omega) (fun q10 => ?_)
  refine cn_putF (i0 := 0) (ty := .array .int) C d_M_init_88 (fl_I fM_43) ⟨nM, tM, 16, uM, rfl, tyM, nmM, rfl, rfl, rfl⟩ rfl (Nat.le_of_ble_eq_true rfl) rfl rfl ?_
  refine cn_eq (ws' := [(h0, .inr (2, [.ref q1, .ref q2, .ref q3, .ref q4, .ref q5, .ref q6, .ref q7, .ref q8, .ref q9, .int 0, .ref q10, .int 0, .int 0, .int 0, .int 0, .int 0])), (q1, cAr (cn_tA X) 866), (q2, cAr (cn_tA X) 866), (q3, cAr (cn_tA X) 433), (q4, cAr (cn_tA X) 4), (q5, cAr (cn_tA X) 8), (q6, cAr (cn_tA X) 8), (q7, cAr (cn_tA X) 8), (q8, cAr (cn_tA X) 32), (q9, cAr (cn_tA X) 32), (q10, cAr (cn_tA X) 32)]) rfl ?_
  refine cn_aload C d_M_init_91 rfl hl 0 rfl ?_
  refine cn_iconst (v := 0) C d_M_init_92 (by decide) ?_
  refine cn_puti (i0 := 0) C d_M_init_93 (fl_I fM_46) pM_11 rfl (Nat.le_of_ble_eq_true rfl) (by decide) (by decide) ?_
  refine cn_eq (ws' := [(h0, .inr (2, [.ref q1, .ref q2, .ref q3, .ref q4, .ref q5, .ref q6, .ref q7, .ref q8, .ref q9, .int 0, .ref q10, .int 0, .int 0, .int 0, .int 0, .int 0])), (q1, cAr (cn_tA X) 866), (q2, cAr (cn_tA X) 866), (q3, cAr (cn_tA X) 433), (q4, cAr (cn_tA X) 4), (q5, cAr (cn_tA X) 8), (q6, cAr (cn_tA X) 8), (q7, cAr (cn_tA X) 8), (q8, cAr (cn_tA X) 32), (q9, cAr (cn_tA X) 32), (q10, cAr (cn_tA X) 32)]) rfl ?_
  refine cn_aload C d_M_init_96 rfl hl 0 rfl ?_
  refine cn_iconst (v := 0) C d_M_init_97 (by decide) ?_
  refine cn_puti (i0 := 0) C d_M_init_98 (fl_I fM_49) pM_12 rfl (Nat.le_of_ble_eq_true rfl) (by decide) (by decide) ?_
  refine cn_eq (ws' := [(h0, .inr (2, [.ref q1, .ref q2, .ref q3, .ref q4, .ref q5, .ref q6, .ref q7, .ref q8, .ref q9, .int 0, .ref q10, .int 0, .int 0, .int 0, .int 0, .int 0])), (q1, cAr (cn_tA X) 866), (q2, cAr (cn_tA X) 866), (q3, cAr (cn_tA X) 433), (q4, cAr (cn_tA X) 4), (q5, cAr (cn_tA X) 8), (q6, cAr (cn_tA X) 8), (q7, cAr (cn_tA X) 8), (q8, cAr (cn_tA X) 32), (q9, cAr (cn_tA X) 32), (q10, cAr (cn_tA X) 32)]) rfl ?_
  refine cn_aload C d_M_init_101 rfl hl 0 rfl ?_
  refine cn_iconst (v := 0) C d_M_init_102 (by decide) ?_
  refine cn_puti (i0 := 0) C d_M_init_103 (fl_I fM_52) pM_13 rfl (Nat.le_of_ble_eq_true rfl) (by decide) (by decide) ?_
  refine cn_eq (ws' := [(h0, .inr (2, [.ref q1, .ref q2, .ref q3, .ref q4, .ref q5, .ref q6, .ref q7, .ref q8, .ref q9, .int 0, .ref q10, .int 0, .int 0, .int 0, .int 0, .int 0])), (q1, cAr (cn_tA X) 866), (q2, cAr (cn_tA X) 866), (q3, cAr (cn_tA X) 433), (q4, cAr (cn_tA X) 4), (q5, cAr (cn_tA X) 8), (q6, cAr (cn_tA X) 8), (q7, cAr (cn_tA X) 8), (q8, cAr (cn_tA X) 32), (q9, cAr (cn_tA X) 32), (q10, cAr (cn_tA X) 32)]) rfl ?_
  refine cn_aload C d_M_init_106 rfl hl 0 rfl ?_
  refine cn_iconst (v := 0) C d_M_init_107 (by decide) ?_
  refine cn_puti (i0 := 0) C d_M_init_108 (fl_I fM_55) pM_14 rfl (Nat.le_of_ble_eq_true rfl) (by decide) (by decide) ?_
  refine cn_eq (ws' := [(h0, .inr (2, [.ref q1, .ref q2, .ref q3, .ref q4, .ref q5, .ref q6, .ref q7, .ref q8, .ref q9, .int 0, .ref q10, .int 0, .int 0, .int 0, .int 0, .int 0])), (q1, cAr (cn_tA X) 866), (q2, cAr (cn_tA X) 866), (q3, cAr (cn_tA X) 433), (q4, cAr (cn_tA X) 4), (q5, cAr (cn_tA X) 8), (q6, cAr (cn_tA X) 8), (q7, cAr (cn_tA X) 8), (q8, cAr (cn_tA X) 32), (q9, cAr (cn_tA X) 32), (q10, cAr (cn_tA X) 32)]) rfl ?_
  refine cn_aload C d_M_init_111 rfl hl 0 rfl ?_
  refine cn_iconst (v := 0) C d_M_init_112 (by decide) ?_
  refine cn_puti (i0 := 0) C d_M_init_113 (fl_I fM_58) pM_15 rfl (Nat.le_of_ble_eq_true rfl) (by decide) (by decide) ?_
  refine cn_eq (ws' := [(h0, .inr (2, [.ref q1, .ref q2, .ref q3, .ref q4, .ref q5, .ref q6, .ref q7, .ref q8, .ref q9, .int 0, .ref q10, .int 0, .int 0, .int 0, .int 0, .int 0])), (q1, cAr (cn_tA X) 866), (q2, cAr (cn_tA X) 866), (q3, cAr (cn_tA X) 433), (q4, cAr (cn_tA X) 4), (q5, cAr (cn_tA X) 8), (q6, cAr (cn_tA X) 8), (q7, cAr (cn_tA X) 8), (q8, cAr (cn_tA X) 32), (q9, cAr (cn_tA X) 32), (q10, cAr (cn_tA X) 32)]) rfl ?_
  exact hret _ _ _ _ (by omega) (by omega) d_M_init_116 ⟨q1, q2, q3, q4, q5, q6, q7, q8, q9, q10, rfl⟩ _
def cW_R (tA : Nat → ClassId) (h0 q1 q2 q3 q4 q5 q6 q7 q8 q9 q10 q11 q12 q13 q14 q15 q16 q17 q18 q19 q20 q21 q22 : Nat) : va_W := [(h0, .inr (5, [.int 0, .ref q1, .ref q2, .ref q3, .ref q4, .ref q5, .ref q6, .ref q7, .int 0, .ref q8, .ref q9, .ref q10, .ref q11, .ref q12, .int 0, .ref q13, .ref q14, .ref q15, .ref q16, .ref q17, .ref q18, .ref q19, .int 0, .ref q20, .int 0, .int 0, .int 0, .int 0, .ref q21, .ref q22])), (q1, cAr tA 5), (q2, cAr tA 5), (q3, cAr tA 120), (q4, cAr tA 120), (q5, cAr tA 120), (q6, cAr tA 120), (q7, cAr tA 120), (q8, cAr tA 20), (q9, cAr tA 270), (q10, cAr tA 5), (q11, cAr tA 10), (q12, cAz tA 24), (q13, cAr tA 8), (q14, cAr tA 8), (q15, cAr tA 8), (q16, cAr tA 32), (q17, cAr tA 32), (q18, cAr tA 160), (q19, cAr tA 2100), (q20, cAr tA 4), (q21, cAr tA 32), (q22, cAr tA 120)]
set_option maxRecDepth 100000 in
set_option maxHeartbeats 4000000 in
theorem k_R_init : cn_ct wsI y_R_init b_R_init 1 1 22 3443 5 [.int 0, .null, .null, .null, .null, .null, .null, .null, .int 0, .null, .null, .null, .null, .null, .int 0, .null, .null, .null, .null, .null, .null, .null, .int 0, .null, .int 0, .int 0, .int 0, .int 0, .null, .null] (fun _ => True) (fun tA h0 ws => ∃ q1 q2 q3 q4 q5 q6 q7 q8 q9 q10 q11 q12 q13 q14 q15 q16 q17 q18 q19 q20 q21 q22, ws = cW_R tA h0 q1 q2 q3 q4 q5 q6 q7 q8 q9 q10 q11 q12 q13 q14 q15 q16 q17 q18 q19 q20 q21 q22) := by
  refine cn_of (by decide) rfl (by decide) (by decide) ?_
  intro X la h0 C hl hR hZ hret
  have hRc : (cn_R X).cells = 22 := by rw [hR]; rfl
  have hRs : (cn_R X).slots = 3443 := by rw [hR]; rfl
  refine cn_aload C d_R_init_0 rfl hl 0 rfl ?_
  refine cn_obj C d_R_init_1 (wI_in (mem_i 5 rfl)) (wI_in (mem_i 6 rfl)) (wI_in (mem_i 7 rfl)) hl.1 ?_
  refine cn_aload C d_R_init_4 rfl hl 0 rfl ?_
  refine cn_iconst (v := 5) C d_R_init_5 (by decide) ?_
  refine cn_newa (t := 0) (N := 5) C d_R_init_6 rfl rfl (wI_in (mem_i 8 rfl)) (by decide) (by omega) (Or.inl rfl) (by rw [hRc]; omega) (by rw [hRs]; omega) (fun q1 => ?_)
  refine cn_putF (i0 := 0) (ty := .array .int) C d_R_init_8 (fl_I fR_7) ⟨nR, tR, 30, uR, rfl, tyR, nmR, rfl, rfl, rfl⟩ rfl (Nat.le_of_ble_eq_true rfl) rfl rfl ?_
  refine cn_eq (ws' := [(h0, .inr (5, [.int 0, .ref q1, .null, .null, .null, .null, .null, .null, .int 0, .null, .null, .null, .null, .null, .int 0, .null, .null, .null, .null, .null, .null, .null, .int 0, .null, .int 0, .int 0, .int 0, .int 0, .null, .null])), (q1, cAr (cn_tA X) 5)]) rfl ?_
  refine cn_aload C d_R_init_11 rfl hl 0 rfl ?_
  refine cn_iconst (v := 5) C d_R_init_12 (by decide) ?_
  refine cn_newa (t := 0) (N := 5) C d_R_init_13 rfl rfl (wI_in (mem_i 8 rfl)) (by decide) (by omega) (Or.inl rfl) (by rw [hRc]; omega) (by rw [hRs]; omega) (fun q2 => ?_)
  refine cn_putF (i0 := 0) (ty := .array .int) C d_R_init_15 (fl_I fR_13) ⟨nR, tR, 30, uR, rfl, tyR, nmR, rfl, rfl, rfl⟩ rfl (Nat.le_of_ble_eq_true rfl) rfl rfl ?_
  refine cn_eq (ws' := [(h0, .inr (5, [.int 0, .ref q1, .ref q2, .null, .null, .null, .null, .null, .int 0, .null, .null, .null, .null, .null, .int 0, .null, .null, .null, .null, .null, .null, .null, .int 0, .null, .int 0, .int 0, .int 0, .int 0, .null, .null])), (q1, cAr (cn_tA X) 5), (q2, cAr (cn_tA X) 5)]) rfl ?_
  refine cn_aload C d_R_init_18 rfl hl 0 rfl ?_
  refine cn_bipush (v := 120) C d_R_init_19 (by decide) ?_
  refine cn_newa (t := 0) (N := 120) C d_R_init_21 rfl rfl (wI_in (mem_i 8 rfl)) (by decide) (by omega) (Or.inl rfl) (by rw [hRc]; omega) (by rw [hRs]; omega) (fun q3 => ?_)
  refine cn_putF (i0 := 0) (ty := .array .int) C d_R_init_23 (fl_I fR_16) ⟨nR, tR, 30, uR, rfl, tyR, nmR, rfl, rfl, rfl⟩ rfl (Nat.le_of_ble_eq_true rfl) rfl rfl ?_
  refine cn_eq (ws' := [(h0, .inr (5, [.int 0, .ref q1, .ref q2, .ref q3, .null, .null, .null, .null, .int 0, .null, .null, .null, .null, .null, .int 0, .null, .null, .null, .null, .null, .null, .null, .int 0, .null, .int 0, .int 0, .int 0, .int 0, .null, .null])), (q1, cAr (cn_tA X) 5), (q2, cAr (cn_tA X) 5), (q3, cAr (cn_tA X) 120)]) rfl ?_
  refine cn_aload C d_R_init_26 rfl hl 0 rfl ?_
  refine cn_bipush (v := 120) C d_R_init_27 (by decide) ?_
  refine cn_newa (t := 0) (N := 120) C d_R_init_29 rfl rfl (wI_in (mem_i 8 rfl)) (by decide) (by omega) (Or.inl rfl) (by rw [hRc]; omega) (by rw [hRs]; omega) (fun q4 => ?_)
  refine cn_putF (i0 := 0) (ty := .array .int) C d_R_init_31 (fl_I fR_19) ⟨nR, tR, 30, uR, rfl, tyR, nmR, rfl, rfl, rfl⟩ rfl (Nat.le_of_ble_eq_true rfl) rfl rfl ?_
  refine cn_eq (ws' := [(h0, .inr (5, [.int 0, .ref q1, .ref q2, .ref q3, .ref q4, .null, .null, .null, .int 0, .null, .null, .null, .null, .null, .int 0, .null, .null, .null, .null, .null, .null, .null, .int 0, .null, .int 0, .int 0, .int 0, .int 0, .null, .null])), (q1, cAr (cn_tA X) 5), (q2, cAr (cn_tA X) 5), (q3, cAr (cn_tA X) 120), (q4, cAr (cn_tA X) 120)]) rfl ?_
  refine cn_aload C d_R_init_34 rfl hl 0 rfl ?_
  refine cn_bipush (v := 120) C d_R_init_35 (by decide) ?_
  refine cn_newa (t := 0) (N := 120) C d_R_init_37 rfl rfl (wI_in (mem_i 8 rfl)) (by decide) (by omega) (Or.inl rfl) (by rw [hRc]; omega) (by rw [hRs]; omega) (fun q5 => ?_)
  refine cn_putF (i0 := 0) (ty := .array .int) C d_R_init_39 (fl_I fR_22) ⟨nR, tR, 30, uR, rfl, tyR, nmR, rfl, rfl, rfl⟩ rfl (Nat.le_of_ble_eq_true rfl) rfl rfl ?_
  refine cn_eq (ws' := [(h0, .inr (5, [.int 0, .ref q1, .ref q2, .ref q3, .ref q4, .ref q5, .null, .null, .int 0, .null, .null, .null, .null, .null, .int 0, .null, .null, .null, .null, .null, .null, .null, .int 0, .null, .int 0, .int 0, .int 0, .int 0, .null, .null])), (q1, cAr (cn_tA X) 5), (q2, cAr (cn_tA X) 5), (q3, cAr (cn_tA X) 120), (q4, cAr (cn_tA X) 120), (q5, cAr (cn_tA X) 120)]) rfl ?_
  refine cn_aload C d_R_init_42 rfl hl 0 rfl ?_
  refine cn_bipush (v := 120) C d_R_init_43 (by decide) ?_
  refine cn_newa (t := 0) (N := 120) C d_R_init_45 rfl rfl (wI_in (mem_i 8 rfl)) (by decide) (by omega) (Or.inl rfl) (by rw [hRc]; omega) (by rw [hRs]; omega) (fun q6 => ?_)
  refine cn_putF (i0 := 0) (ty := .array .int) C d_R_init_47 (fl_I fR_25) ⟨nR, tR, 30, uR, rfl, tyR, nmR, rfl, rfl, rfl⟩ rfl (Nat.le_of_ble_eq_true rfl) rfl rfl ?_
  refine cn_eq (ws' := [(h0, .inr (5, [.int 0, .ref q1, .ref q2, .ref q3, .ref q4, .ref q5, .ref q6, .null, .int 0, .null, .null, .null, .null, .null, .int 0, .null, .null, .null, .null, .null, .null, .null, .int 0, .null, .int 0, .int 0, .int 0, .int 0, .null, .null])), (q1, cAr (cn_tA X) 5), (q2, cAr (cn_tA X) 5), (q3, cAr (cn_tA X) 120), (q4, cAr (cn_tA X) 120), (q5, cAr (cn_tA X) 120), (q6, cAr (cn_tA X) 120)]) rfl ?_
  refine cn_aload C d_R_init_50 rfl hl 0 rfl ?_
  refine cn_bipush (v := 120) C d_R_init_51 (by decide) ?_
  refine cn_newa (t := 0) (N := 120) C d_R_init_53 rfl rfl (wI_in (mem_i 8 rfl)) (by decide) (by omega) (Or.inl rfl) (by rw [hRc]; omega) (by rw [hRs]; omega) (fun q7 => ?_)
  refine cn_putF (i0 := 0) (ty := .array .int) C d_R_init_55 (fl_I fR_28) ⟨nR, tR, 30, uR, rfl, tyR, nmR, rfl, rfl, rfl⟩ rfl (Nat.le_of_ble_eq_true rfl) rfl rfl ?_
  refine cn_eq (ws' := [(h0, .inr (5, [.int 0, .ref q1, .ref q2, .ref q3, .ref q4, .ref q5, .ref q6, .ref q7, .int 0, .null, .null, .null, .null, .null, .int 0, .null, .null, .null, .null, .null, .null, .null, .int 0, .null, .int 0, .int 0, .int 0, .int 0, .null, .null])), (q1, cAr (cn_tA X) 5), (q2, cAr (cn_tA X) 5), (q3, cAr (cn_tA X) 120), (q4, cAr (cn_tA X) 120), (q5, cAr (cn_tA X) 120), (q6, cAr (cn_tA X) 120), (q7, cAr (cn_tA X) 120)]) rfl ?_
  refine cn_aload C d_R_init_58 rfl hl 0 rfl ?_
  refine cn_bipush (v := 20) C d_R_init_59 (by decide) ?_
  refine cn_newa (t := 0) (N := 20) C d_R_init_61 rfl rfl (wI_in (mem_i 8 rfl)) (by decide) (by omega) (Or.inl rfl) (by rw [hRc]; omega) (by rw [hRs]; omega) (fun q8 => ?_)
  refine cn_putF (i0 := 0) (ty := .array .int) C d_R_init_63 (fl_I fR_31) ⟨nR, tR, 30, uR, rfl, tyR, nmR, rfl, rfl, rfl⟩ rfl (Nat.le_of_ble_eq_true rfl) rfl rfl ?_
  refine cn_eq (ws' := [(h0, .inr (5, [.int 0, .ref q1, .ref q2, .ref q3, .ref q4, .ref q5, .ref q6, .ref q7, .int 0, .ref q8, .null, .null, .null, .null, .int 0, .null, .null, .null, .null, .null, .null, .null, .int 0, .null, .int 0, .int 0, .int 0, .int 0, .null, .null])), (q1, cAr (cn_tA X) 5), (q2, cAr (cn_tA X) 5), (q3, cAr (cn_tA X) 120), (q4, cAr (cn_tA X) 120), (q5, cAr (cn_tA X) 120), (q6, cAr (cn_tA X) 120), (q7, cAr (cn_tA X) 120), (q8, cAr (cn_tA X) 20)]) rfl ?_
  refine cn_aload C d_R_init_66 rfl hl 0 rfl ?_
  refine cn_sipush (v := 270) C d_R_init_67 (by decide) ?_
  refine cn_newa (t := 0) (N := 270) C d_R_init_70 rfl rfl (wI_in (mem_i 8 rfl)) (by decide) (by omega) (Or.inl rfl) (by rw [hRc]; omega) (by rw [hRs]; omega) (fun q9 => ?_)
  refine cn_putF (i0 := 0) (ty := .array .int) C d_R_init_72 (fl_I fR_34) ⟨nR, tR, 30, uR, rfl, tyR, nmR, rfl, rfl, rfl⟩ rfl (Nat.le_of_ble_eq_true rfl) rfl rfl ?_
  refine cn_eq (ws' := [(h0, .inr (5, [.int 0, .ref q1, .ref q2, .ref q3, .ref q4, .ref q5, .ref q6, .ref q7, .int 0, .ref q8, .ref q9, .null, .null, .null, .int 0, .null, .null, .null, .null, .null, .null, .null, .int 0, .null, .int 0, .int 0, .int 0, .int 0, .null, .null])), (q1, cAr (cn_tA X) 5), (q2, cAr (cn_tA X) 5), (q3, cAr (cn_tA X) 120), (q4, cAr (cn_tA X) 120), (q5, cAr (cn_tA X) 120), (q6, cAr (cn_tA X) 120), (q7, cAr (cn_tA X) 120), (q8, cAr (cn_tA X) 20), (q9, cAr (cn_tA X) 270)]) rfl ?_
  refine cn_aload C d_R_init_75 rfl hl 0 rfl ?_
  refine cn_iconst (v := 5) C d_R_init_76 (by decide) ?_
  refine cn_newa (t := 0) (N := 5) C d_R_init_77 rfl rfl (wI_in (mem_i 8 rfl)) (by decide) (by omega) (Or.inl rfl) (by rw [hRc]; omega) (by rw [hRs]; omega) (fun q10 => ?_)
  refine cn_putF (i0 := 0) (ty := .array .int) C d_R_init_79 (fl_I fR_37) ⟨nR, tR, 30, uR, rfl, tyR, nmR, rfl, rfl, rfl⟩ rfl (Nat.le_of_ble_eq_true rfl) rfl rfl ?_
  refine cn_eq (ws' := [(h0, .inr (5, [.int 0, .ref q1, .ref q2, .ref q3, .ref q4, .ref q5, .ref q6, .ref q7, .int 0, .ref q8, .ref q9, .ref q10, .null, .null, .int 0, .null, .null, .null, .null, .null, .null, .null, .int 0, .null, .int 0, .int 0, .int 0, .int 0, .null, .null])), (q1, cAr (cn_tA X) 5), (q2, cAr (cn_tA X) 5), (q3, cAr (cn_tA X) 120), (q4, cAr (cn_tA X) 120), (q5, cAr (cn_tA X) 120), (q6, cAr (cn_tA X) 120), (q7, cAr (cn_tA X) 120), (q8, cAr (cn_tA X) 20), (q9, cAr (cn_tA X) 270), (q10, cAr (cn_tA X) 5)]) rfl ?_
  refine cn_aload C d_R_init_82 rfl hl 0 rfl ?_
  refine cn_bipush (v := 10) C d_R_init_83 (by decide) ?_
  refine cn_newa (t := 0) (N := 10) C d_R_init_85 rfl rfl (wI_in (mem_i 8 rfl)) (by decide) (by omega) (Or.inl rfl) (by rw [hRc]; omega) (by rw [hRs]; omega) (fun q11 => ?_)
  refine cn_putF (i0 := 0) (ty := .array .int) C d_R_init_87 (fl_I fR_40) ⟨nR, tR, 30, uR, rfl, tyR, nmR, rfl, rfl, rfl⟩ rfl (Nat.le_of_ble_eq_true rfl) rfl rfl ?_
  refine cn_eq (ws' := [(h0, .inr (5, [.int 0, .ref q1, .ref q2, .ref q3, .ref q4, .ref q5, .ref q6, .ref q7, .int 0, .ref q8, .ref q9, .ref q10, .ref q11, .null, .int 0, .null, .null, .null, .null, .null, .null, .null, .int 0, .null, .int 0, .int 0, .int 0, .int 0, .null, .null])), (q1, cAr (cn_tA X) 5), (q2, cAr (cn_tA X) 5), (q3, cAr (cn_tA X) 120), (q4, cAr (cn_tA X) 120), (q5, cAr (cn_tA X) 120), (q6, cAr (cn_tA X) 120), (q7, cAr (cn_tA X) 120), (q8, cAr (cn_tA X) 20), (q9, cAr (cn_tA X) 270), (q10, cAr (cn_tA X) 5), (q11, cAr (cn_tA X) 10)]) rfl ?_
  refine cn_aload C d_R_init_90 rfl hl 0 rfl ?_
  refine cn_bipush (v := 24) C d_R_init_91 (by decide) ?_
  refine cn_newa (t := 1) (N := 24) C d_R_init_93 rfl rfl (wI_in (mem_i 9 rfl)) (by decide) (by omega) (Or.inr rfl) (by rw [hRc]; omega) (by rw [hRs]; omega) (fun q12 => ?_)
  refine cn_putF (i0 := 0) (ty := .array .boolean) C d_R_init_95 (fl_I fR_43) ⟨nR, tR, 30, uR, rfl, tyR, nmR, rfl, rfl, rfl⟩ rfl (Nat.le_of_ble_eq_true rfl) rfl rfl ?_
  refine cn_eq (ws' := [(h0, .inr (5, [.int 0, .ref q1, .ref q2, .ref q3, .ref q4, .ref q5, .ref q6, .ref q7, .int 0, .ref q8, .ref q9, .ref q10, .ref q11, .ref q12, .int 0, .null, .null, .null, .null, .null, .null, .null, .int 0, .null, .int 0, .int 0, .int 0, .int 0, .null, .null])), (q1, cAr (cn_tA X) 5), (q2, cAr (cn_tA X) 5), (q3, cAr (cn_tA X) 120), (q4, cAr (cn_tA X) 120), (q5, cAr (cn_tA X) 120), (q6, cAr (cn_tA X) 120), (q7, cAr (cn_tA X) 120), (q8, cAr (cn_tA X) 20), (q9, cAr (cn_tA X) 270), (q10, cAr (cn_tA X) 5), (q11, cAr (cn_tA X) 10), (q12, cAz (cn_tA X) 24)]) rfl ?_
  refine cn_aload C d_R_init_98 rfl hl 0 rfl ?_
  refine cn_bipush (v := 8) C d_R_init_99 (by decide) ?_
  refine cn_newa (t := 0) (N := 8) C d_R_init_101 rfl rfl (wI_in (mem_i 8 rfl)) (by decide) (by omega) (Or.inl rfl) (by rw [hRc]; omega) (by rw [hRs]; omega) (fun q13 => ?_)
  refine cn_putF (i0 := 0) (ty := .array .int) C d_R_init_103 (fl_I fR_47) ⟨nR, tR, 30, uR, rfl, tyR, nmR, rfl, rfl, rfl⟩ rfl (Nat.le_of_ble_eq_true rfl) rfl rfl ?_
  refine cn_eq (ws' := [(h0, .inr (5, [.int 0, .ref q1, .ref q2, .ref q3, .ref q4, .ref q5, .ref q6, .ref q7, .int 0, .ref q8, .ref q9, .ref q10, .ref q11, .ref q12, .int 0, .ref q13, .null, .null, .null, .null, .null, .null, .int 0, .null, .int 0, .int 0, .int 0, .int 0, .null, .null])), (q1, cAr (cn_tA X) 5), (q2, cAr (cn_tA X) 5), (q3, cAr (cn_tA X) 120), (q4, cAr (cn_tA X) 120), (q5, cAr (cn_tA X) 120), (q6, cAr (cn_tA X) 120), (q7, cAr (cn_tA X) 120), (q8, cAr (cn_tA X) 20), (q9, cAr (cn_tA X) 270), (q10, cAr (cn_tA X) 5), (q11, cAr (cn_tA X) 10), (q12, cAz (cn_tA X) 24), (q13, cAr (cn_tA X) 8)]) rfl ?_
  refine cn_aload C d_R_init_106 rfl hl 0 rfl ?_
  refine cn_bipush (v := 8) C d_R_init_107 (by decide) ?_
  refine cn_newa (t := 0) (N := 8) C d_R_init_109 rfl rfl (wI_in (mem_i 8 rfl)) (by decide) (by omega) (Or.inl rfl) (by rw [hRc]; omega) (by rw [hRs]; omega) (fun q14 => ?_)
  refine cn_putF (i0 := 0) (ty := .array .int) C d_R_init_111 (fl_I fR_50) ⟨nR, tR, 30, uR, rfl, tyR, nmR, rfl, rfl, rfl⟩ rfl (Nat.le_of_ble_eq_true rfl) rfl rfl ?_
  refine cn_eq (ws' := [(h0, .inr (5, [.int 0, .ref q1, .ref q2, .ref q3, .ref q4, .ref q5, .ref q6, .ref q7, .int 0, .ref q8, .ref q9, .ref q10, .ref q11, .ref q12, .int 0, .ref q13, .ref q14, .null, .null, .null, .null, .null, .int 0, .null, .int 0, .int 0, .int 0, .int 0, .null, .null])), (q1, cAr (cn_tA X) 5), (q2, cAr (cn_tA X) 5), (q3, cAr (cn_tA X) 120), (q4, cAr (cn_tA X) 120), (q5, cAr (cn_tA X) 120), (q6, cAr (cn_tA X) 120), (q7, cAr (cn_tA X) 120), (q8, cAr (cn_tA X) 20), (q9, cAr (cn_tA X) 270), (q10, cAr (cn_tA X) 5), (q11, cAr (cn_tA X) 10), (q12, cAz (cn_tA X) 24), (q13, cAr (cn_tA X) 8), (q14, cAr (cn_tA X) 8)]) rfl ?_
  refine cn_aload C d_R_init_114 rfl hl 0 rfl ?_
  refine cn_bipush (v := 8) C d_R_init_115 (by decide) ?_
  refine cn_newa (t := 0) (N := 8) C d_R_init_117 rfl rfl (wI_in (mem_i 8 rfl)) (by decide) (by omega) (Or.inl rfl) (by rw [hRc]; omega) (by rw [hRs]; omega) (fun q15 => ?_)
  refine cn_putF (i0 := 0) (ty := .array .int) C d_R_init_119 (fl_I fR_53) ⟨nR, tR, 30, uR, rfl, tyR, nmR, rfl, rfl, rfl⟩ rfl (Nat.le_of_ble_eq_true rfl) rfl rfl ?_
  refine cn_eq (ws' := [(h0, .inr (5, [.int 0, .ref q1, .ref q2, .ref q3, .ref q4, .ref q5, .ref q6, .ref q7, .int 0, .ref q8, .ref q9, .ref q10, .ref q11, .ref q12, .int 0, .ref q13, .ref q14, .ref q15, .null, .null, .null, .null, .int 0, .null, .int 0, .int 0, .int 0, .int 0, .null, .null])), (q1, cAr (cn_tA X) 5), (q2, cAr (cn_tA X) 5), (q3, cAr (cn_tA X) 120), (q4, cAr (cn_tA X) 120), (q5, cAr (cn_tA X) 120), (q6, cAr (cn_tA X) 120), (q7, cAr (cn_tA X) 120), (q8, cAr (cn_tA X) 20), (q9, cAr (cn_tA X) 270), (q10, cAr (cn_tA X) 5), (q11, cAr (cn_tA X) 10), (q12, cAz (cn_tA X) 24), (q13, cAr (cn_tA X) 8), (q14, cAr (cn_tA X) 8), (q15, cAr (cn_tA X) 8)]) rfl ?_
  refine cn_aload C d_R_init_122 rfl hl 0 rfl ?_
  refine cn_bipush (v := 32) C d_R_init_123 (by decide) ?_
  refine cn_newa (t := 0) (N := 32) C d_R_init_125 rfl rfl (wI_in (mem_i 8 rfl)) (by decide) (by omega) (Or.inl rfl) (by rw [hRc]; omega) (by rw [hRs]; omega) (fun q16 => ?_)
  refine cn_putF (i0 := 0) (ty := .array .int) C d_R_init_127 (fl_I fR_56) ⟨nR, tR, 30, uR, rfl, tyR, nmR, rfl, rfl, rfl⟩ rfl (Nat.le_of_ble_eq_true rfl) rfl rfl ?_
  refine cn_eq (ws' := [(h0, .inr (5, [.int 0, .ref q1, .ref q2, .ref q3, .ref q4, .ref q5, .ref q6, .ref q7, .int 0, .ref q8, .ref q9, .ref q10, .ref q11, .ref q12, .int 0, .ref q13, .ref q14, .ref q15, .ref q16, .null, .null, .null, .int 0, .null, .int 0, .int 0, .int 0, .int 0, .null, .null])), (q1, cAr (cn_tA X) 5), (q2, cAr (cn_tA X) 5), (q3, cAr (cn_tA X) 120), (q4, cAr (cn_tA X) 120), (q5, cAr (cn_tA X) 120), (q6, cAr (cn_tA X) 120), (q7, cAr (cn_tA X) 120), (q8, cAr (cn_tA X) 20), (q9, cAr (cn_tA X) 270), (q10, cAr (cn_tA X) 5), (q11, cAr (cn_tA X) 10), (q12, cAz (cn_tA X) 24), (q13, cAr (cn_tA X) 8), (q14, cAr (cn_tA X) 8), (q15, cAr (cn_tA X) 8), (q16, cAr (cn_tA X) 32)]) rfl ?_
  refine cn_aload C d_R_init_130 rfl hl 0 rfl ?_
  refine cn_bipush (v := 32) C d_R_init_131 (by decide) ?_
  refine cn_newa (t := 0) (N := 32) C d_R_init_133 rfl rfl (wI_in (mem_i 8 rfl)) (by decide) (by omega) (Or.inl rfl) (by rw [hRc]; omega) (by rw [hRs]; omega) (fun q17 => ?_)
  refine cn_putF (i0 := 0) (ty := .array .int) C d_R_init_135 (fl_I fR_59) ⟨nR, tR, 30, uR, rfl, tyR, nmR, rfl, rfl, rfl⟩ rfl (Nat.le_of_ble_eq_true rfl) rfl rfl ?_
  refine cn_eq (ws' := [(h0, .inr (5, [.int 0, .ref q1, .ref q2, .ref q3, .ref q4, .ref q5, .ref q6, .ref q7, .int 0, .ref q8, .ref q9, .ref q10, .ref q11, .ref q12, .int 0, .ref q13, .ref q14, .ref q15, .ref q16, .ref q17, .null, .null, .int 0, .null, .int 0, .int 0, .int 0, .int 0, .null, .null])), (q1, cAr (cn_tA X) 5), (q2, cAr (cn_tA X) 5), (q3, cAr (cn_tA X) 120), (q4, cAr (cn_tA X) 120), (q5, cAr (cn_tA X) 120), (q6, cAr (cn_tA X) 120), (q7, cAr (cn_tA X) 120), (q8, cAr (cn_tA X) 20), (q9, cAr (cn_tA X) 270), (q10, cAr (cn_tA X) 5), (q11, cAr (cn_tA X) 10), (q12, cAz (cn_tA X) 24), (q13, cAr (cn_tA X) 8), (q14, cAr (cn_tA X) 8), (q15, cAr (cn_tA X) 8), (q16, cAr (cn_tA X) 32), (q17, cAr (cn_tA X) 32)]) rfl ?_
  refine cn_aload C d_R_init_138 rfl hl 0 rfl ?_
  refine cn_sipush (v := 160) C d_R_init_139 (by decide) ?_
  refine cn_newa (t := 0) (N := 160) C d_R_init_142 rfl rfl (wI_in (mem_i 8 rfl)) (by decide) (by omega) (Or.inl rfl) (by rw [hRc]; omega) (by rw [hRs]; omega) (fun q18 => ?_)
  refine cn_putF (i0 := 0) (ty := .array .int) C d_R_init_144 (fl_I fR_62) ⟨nR, tR, 30, uR, rfl, tyR, nmR, rfl, rfl, rfl⟩ rfl (Nat.le_of_ble_eq_true rfl) rfl rfl ?_
  refine cn_eq (ws' := [(h0, .inr (5, [.int 0, .ref q1, .ref q2, .ref q3, .ref q4, .ref q5, .ref q6, .ref q7, .int 0, .ref q8, .ref q9, .ref q10, .ref q11, .ref q12, .int 0, .ref q13, .ref q14, .ref q15, .ref q16, .ref q17, .ref q18, .null, .int 0, .null, .int 0, .int 0, .int 0, .int 0, .null, .null])), (q1, cAr (cn_tA X) 5), (q2, cAr (cn_tA X) 5), (q3, cAr (cn_tA X) 120), (q4, cAr (cn_tA X) 120), (q5, cAr (cn_tA X) 120), (q6, cAr (cn_tA X) 120), (q7, cAr (cn_tA X) 120), (q8, cAr (cn_tA X) 20), (q9, cAr (cn_tA X) 270), (q10, cAr (cn_tA X) 5), (q11, cAr (cn_tA X) 10), (q12, cAz (cn_tA X) 24), (q13, cAr (cn_tA X) 8), (q14, cAr (cn_tA X) 8), (q15, cAr (cn_tA X) 8), (q16, cAr (cn_tA X) 32), (q17, cAr (cn_tA X) 32), (q18, cAr (cn_tA X) 160)]) rfl ?_
  refine cn_aload C d_R_init_147 rfl hl 0 rfl ?_
  refine cn_sipush (v := 2100) C d_R_init_148 (by decide) ?_
  refine cn_newa (t := 0) (N := 2100) C d_R_init_151 rfl rfl (wI_in (mem_i 8 rfl)) (by decide) (by omega) (Or.inl rfl) (by rw [hRc]; omega) (by rw [hRs]; omega) (fun q19 => ?_)
  refine cn_putF (i0 := 0) (ty := .array .int) C d_R_init_153 (fl_I fR_65) ⟨nR, tR, 30, uR, rfl, tyR, nmR, rfl, rfl, rfl⟩ rfl (Nat.le_of_ble_eq_true rfl) rfl rfl ?_
  refine cn_eq (ws' := [(h0, .inr (5, [.int 0, .ref q1, .ref q2, .ref q3, .ref q4, .ref q5, .ref q6, .ref q7, .int 0, .ref q8, .ref q9, .ref q10, .ref q11, .ref q12, .int 0, .ref q13, .ref q14, .ref q15, .ref q16, .ref q17, .ref q18, .ref q19, .int 0, .null, .int 0, .int 0, .int 0, .int 0, .null, .null])), (q1, cAr (cn_tA X) 5), (q2, cAr (cn_tA X) 5), (q3, cAr (cn_tA X) 120), (q4, cAr (cn_tA X) 120), (q5, cAr (cn_tA X) 120), (q6, cAr (cn_tA X) 120), (q7, cAr (cn_tA X) 120), (q8, cAr (cn_tA X) 20), (q9, cAr (cn_tA X) 270), (q10, cAr (cn_tA X) 5), (q11, cAr (cn_tA X) 10), (q12, cAz (cn_tA X) 24), (q13, cAr (cn_tA X) 8), (q14, cAr (cn_tA X) 8), (q15, cAr (cn_tA X) 8), (q16, cAr (cn_tA X) 32), (q17, cAr (cn_tA X) 32), (q18, cAr (cn_tA X) 160), (q19, cAr (cn_tA X) 2100)]) rfl ?_
  refine cn_aload C d_R_init_156 rfl hl 0 rfl ?_
  refine cn_iconst (v := 4) C d_R_init_157 (by decide) ?_
  refine cn_newa (t := 0) (N := 4) C d_R_init_158 rfl rfl (wI_in (mem_i 8 rfl)) (by decide) (by omega) (Or.inl rfl) (by rw [hRc]; omega) (by rw [hRs]; omega) (fun q20 => ?_)
  refine cn_putF (i0 := 0) (ty := .array .int) C d_R_init_160 (fl_I fR_68) ⟨nR, tR, 30, uR, rfl, tyR, nmR, rfl, rfl, rfl⟩ rfl (Nat.le_of_ble_eq_true rfl) rfl rfl ?_
  refine cn_eq (ws' := [(h0, .inr (5, [.int 0, .ref q1, .ref q2, .ref q3, .ref q4, .ref q5, .ref q6, .ref q7, .int 0, .ref q8, .ref q9, .ref q10, .ref q11, .ref q12, .int 0, .ref q13, .ref q14, .ref q15, .ref q16, .ref q17, .ref q18, .ref q19, .int 0, .ref q20, .int 0, .int 0, .int 0, .int 0, .null, .null])), (q1, cAr (cn_tA X) 5), (q2, cAr (cn_tA X) 5), (q3, cAr (cn_tA X) 120), (q4, cAr (cn_tA X) 120), (q5, cAr (cn_tA X) 120), (q6, cAr (cn_tA X) 120), (q7, cAr (cn_tA X) 120), (q8, cAr (cn_tA X) 20), (q9, cAr (cn_tA X) 270), (q10, cAr (cn_tA X) 5), (q11, cAr (cn_tA X) 10), (q12, cAz (cn_tA X) 24), (q13, cAr (cn_tA X) 8), (q14, cAr (cn_tA X) 8), (q15, cAr (cn_tA X) 8), (q16, cAr (cn_tA X) 32), (q17, cAr (cn_tA X) 32), (q18, cAr (cn_tA X) 160), (q19, cAr (cn_tA X) 2100), (q20, cAr (cn_tA X) 4)]) rfl ?_
  refine cn_aload C d_R_init_163 rfl hl 0 rfl ?_
  refine cn_bipush (v := 32) C d_R_init_164 (by decide) ?_
  refine cn_newa (t := 0) (N := 32) C d_R_init_166 rfl rfl (wI_in (mem_i 8 rfl)) (by decide) (by omega) (Or.inl rfl) (by rw [hRc]; omega) (by rw [hRs]; omega) (fun q21 => ?_)
  refine cn_putF (i0 := 0) (ty := .array .int) C d_R_init_168 (fl_I fR_71) ⟨nR, tR, 30, uR, rfl, tyR, nmR, rfl, rfl, rfl⟩ rfl (Nat.le_of_ble_eq_true rfl) rfl rfl ?_
  refine cn_eq (ws' := [(h0, .inr (5, [.int 0, .ref q1, .ref q2, .ref q3, .ref q4, .ref q5, .ref q6, .ref q7, .int 0, .ref q8, .ref q9, .ref q10, .ref q11, .ref q12, .int 0, .ref q13, .ref q14, .ref q15, .ref q16, .ref q17, .ref q18, .ref q19, .int 0, .ref q20, .int 0, .int 0, .int 0, .int 0, .ref q21, .null])), (q1, cAr (cn_tA X) 5), (q2, cAr (cn_tA X) 5), (q3, cAr (cn_tA X) 120), (q4, cAr (cn_tA X) 120), (q5, cAr (cn_tA X) 120), (q6, cAr (cn_tA X) 120), (q7, cAr (cn_tA X) 120), (q8, cAr (cn_tA X) 20), (q9, cAr (cn_tA X) 270), (q10, cAr (cn_tA X) 5), (q11, cAr (cn_tA X) 10), (q12, cAz (cn_tA X) 24), (q13, cAr (cn_tA X) 8), (q14, cAr (cn_tA X) 8), (q15, cAr (cn_tA X) 8), (q16, cAr (cn_tA X) 32), (q17, cAr (cn_tA X) 32), (q18, cAr (cn_tA X) 160), (q19, cAr (cn_tA X) 2100), (q20, cAr (cn_tA X) 4), (q21, cAr (cn_tA X) 32)]) rfl ?_
  refine cn_aload C d_R_init_171 rfl hl 0 rfl ?_
  refine cn_bipush (v := 120) C d_R_init_172 (by decide) ?_
  refine cn_newa (t := 0) (N := 120) C d_R_init_174 rfl rfl (wI_in (mem_i 8 rfl)) (by decide) (by omega) (Or.inl rfl) (by rw [hRc]; omega) (by rw [hRs]; omega) (fun q22 => ?_)
  refine cn_putF (i0 := 0) (ty := .array .int) C d_R_init_176 (fl_I fR_74) ⟨nR, tR, 30, uR, rfl, tyR, nmR, rfl, rfl, rfl⟩ rfl (Nat.le_of_ble_eq_true rfl) rfl rfl ?_
  refine cn_eq (ws' := [(h0, .inr (5, [.int 0, .ref q1, .ref q2, .ref q3, .ref q4, .ref q5, .ref q6, .ref q7, .int 0, .ref q8, .ref q9, .ref q10, .ref q11, .ref q12, .int 0, .ref q13, .ref q14, .ref q15, .ref q16, .ref q17, .ref q18, .ref q19, .int 0, .ref q20, .int 0, .int 0, .int 0, .int 0, .ref q21, .ref q22])), (q1, cAr (cn_tA X) 5), (q2, cAr (cn_tA X) 5), (q3, cAr (cn_tA X) 120), (q4, cAr (cn_tA X) 120), (q5, cAr (cn_tA X) 120), (q6, cAr (cn_tA X) 120), (q7, cAr (cn_tA X) 120), (q8, cAr (cn_tA X) 20), (q9, cAr (cn_tA X) 270), (q10, cAr (cn_tA X) 5), (q11, cAr (cn_tA X) 10), (q12, cAz (cn_tA X) 24), (q13, cAr (cn_tA X) 8), (q14, cAr (cn_tA X) 8), (q15, cAr (cn_tA X) 8), (q16, cAr (cn_tA X) 32), (q17, cAr (cn_tA X) 32), (q18, cAr (cn_tA X) 160), (q19, cAr (cn_tA X) 2100), (q20, cAr (cn_tA X) 4), (q21, cAr (cn_tA X) 32), (q22, cAr (cn_tA X) 120)]) rfl ?_
  exact hret _ _ _ _ (by omega) (by omega) d_R_init_179 ⟨q1, q2, q3, q4, q5, q6, q7, q8, q9, q10, q11, q12, q13, q14, q15, q16, q17, q18, q19, q20, q21, q22, rfl⟩ _
