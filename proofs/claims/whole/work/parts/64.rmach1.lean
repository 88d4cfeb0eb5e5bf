/-! The reference's machine: leaves (written by program) -/
abbrev Y_R_enter : fm_Y := ("EscapeMillModel", b_R_enter, 7, none, 1)
set_option maxRecDepth 100000 in
set_option maxHeartbeats 4000000 in
theorem k_R_enter {P : pr_T} (M : fm_M) (hP : rP M P) (hw : pr_wf P) {r : Nat} (hr : M 0 14 = nI r) (h8 : r < 8) {m t : Nat} (hm : m < 5) (ht : t < 4) (x y : Int32) : fm_ct SR y_R_enter b_R_enter 7 none 1 [.inr 0, .inl (nI m), .inl (nI t), .inl x, .inl y] M (fm_vv (rm_enter M (P.2.1 m) r m t x y)) := by
  refine fm_of (ls := [some (.inr 0), some (.inl (nI m)), some (.inl (nI t)), some (.inl x), some (.inl y), none, none]) (by decide) wsA_good (Nat.le_of_ble_eq_true rfl) rfl (fun X hX => ?_)
  obtain ⟨wl, wi, wI⟩ := hw m hm
  have L128 : ∀ q, q ≤ 20 → fm_G SR Y_R_enter X M (fm_vv (rm_enter M (P.2.1 m) r m t x y)) 128 [some (.inr 0), some (.inl (nI m)), some (.inl (nI t)), some (.inl x), some (.inl y), some (.inl (nI r)), some (.inl (nI (20 * r + q)))] [] (fm_fz (fm_up (fm_up (rm_z (fm_up (fm_up (fm_up M 13 r (nI m)) 14 r (nI 0)) 15 r (nI t)) (4 * r) 4) 16 (4 * r) (if 0 < P.2.1 m then x else nI 0)) 16 (4 * r + 1) (if 1 < P.2.1 m then y else nI 0)) 18 (20 * r) q (nI 0)) := by
    refine fm_ind 20 (fun q hle ih => ?_)
    refine fm_iload (pq := 130) hX d_R_enter_128 rfl rfl ?_
    refine fm_bipush (pq := 132) (v := nI 20) hX d_R_enter_130 (by decide) rfl ?_
    refine fm_iload (pq := 134) hX d_R_enter_132 rfl rfl ?_
    refine fm_imul (pq := 135) (v := nI (20 * r)) hX d_R_enter_134 (pk_mul _ _) rfl ?_
    refine fm_bipush (pq := 137) (v := nI 20) hX d_R_enter_135 (by decide) rfl ?_
    refine fm_iadd (pq := 138) (v := nI (20 * r + 20)) hX d_R_enter_137 (nI_add _ _) rfl ?_
    refine fm_n_ge (tgt := 155) (pq := 141) hX d_R_enter_138 rfl rfl (by omega) (by omega) (fun h138 => ?_) (fun h138 => ?_)
    · show fm_G SR Y_R_enter X M (fm_vv (rm_enter M (P.2.1 m) r m t x y)) 155 [some (.inr 0), some (.inl (nI m)), some (.inl (nI t)), some (.inl x), some (.inl y), some (.inl (nI r)), some (.inl (nI (20 * r + q)))] [] (fm_fz (fm_up (fm_up (rm_z (fm_up (fm_up (fm_up M 13 r (nI m)) 14 r (nI 0)) 15 r (nI t)) (4 * r) 4) 16 (4 * r) (if 0 < P.2.1 m then x else nI 0)) 16 (4 * r + 1) (if 1 < P.2.1 m then y else nI 0)) 18 (20 * r) q (nI 0))
      refine fm_aload_n (pq := 156) hX d_R_enter_155 rfl rfl rfl ?_
      refine fm_dup (pq := 157) hX d_R_enter_156 rfl ?_
      refine fm_geti (pq := 160) (v := nI r) hX fR_157 rfl rfl (by first | exact hr | exact fm_up_s | simp [fm_up, hr] | simp [fm_up, fm_fz, rm_z, hr]) d_R_enter_157 rfl ?_
      refine fm_iconst (pq := 161) (v := nI 1) hX d_R_enter_160 (by decide) rfl ?_
      refine fm_iadd (pq := 162) (v := nI (r + 1)) hX d_R_enter_161 (nI_add _ _) rfl ?_
      refine fm_puti (pq := 165) hX fR_157 pR_14 rfl rfl rfl rfl d_R_enter_162 rfl ?_
      refine fm_vret hX rfl d_R_enter_165 ?_
      exact ⟨rfl, by rw [show q = 20 by omega]; rfl⟩
    · show fm_G SR Y_R_enter X M (fm_vv (rm_enter M (P.2.1 m) r m t x y)) 141 [some (.inr 0), some (.inl (nI m)), some (.inl (nI t)), some (.inl x), some (.inl y), some (.inl (nI r)), some (.inl (nI (20 * r + q)))] [] (fm_fz (fm_up (fm_up (rm_z (fm_up (fm_up (fm_up M 13 r (nI m)) 14 r (nI 0)) 15 r (nI t)) (4 * r) 4) 16 (4 * r) (if 0 < P.2.1 m then x else nI 0)) 16 (4 * r + 1) (if 1 < P.2.1 m then y else nI 0)) 18 (20 * r) q (nI 0))
      refine fm_aload_n (pq := 142) hX d_R_enter_141 rfl rfl rfl ?_
      refine fm_getr (pq := 145) (q := 18) hX fR_62 rfl rfl d_R_enter_142 rfl ?_
      refine fm_iload (pq := 147) hX d_R_enter_145 rfl rfl ?_
      refine fm_iconst (pq := 148) (v := nI 0) hX d_R_enter_147 (by decide) rfl ?_
      refine fm_iast (pq := 149) hX rfl rfl rfl (by omega) (by decide) d_R_enter_148 rfl ?_
      refine fm_mem (M' := fm_fz (fm_up (fm_up (rm_z (fm_up (fm_up (fm_up M 13 r (nI m)) 14 r (nI 0)) 15 r (nI t)) (4 * r) 4) 16 (4 * r) (if 0 < P.2.1 m then x else nI 0)) 16 (4 * r + 1) (if 1 < P.2.1 m then y else nI 0)) 18 (20 * r) (q + 1) (nI 0)) (fm_fz_s _ _ _ _ _) ?_
      refine fm_iinc (pq := 152) (v := nI (20 * r + q + 1)) (ls1 := [some (.inr 0), some (.inl (nI m)), some (.inl (nI t)), some (.inl x), some (.inl y), some (.inl (nI r)), some (.inl (nI (20 * r + q + 1)))]) hX d_R_enter_149 rfl (nI_add _ _) (by decide) rfl rfl ?_
      refine fm_goto (tgt := 128) hX d_R_enter_152 rfl ?_
      exact ih (by omega)
  have L33 : ∀ v, v ≤ 4 → fm_G SR Y_R_enter X M (fm_vv (rm_enter M (P.2.1 m) r m t x y)) 33 [some (.inr 0), some (.inl (nI m)), some (.inl (nI t)), some (.inl x), some (.inl y), some (.inl (nI r)), some (.inl (nI v))] [] (rm_z (fm_up (fm_up (fm_up M 13 r (nI m)) 14 r (nI 0)) 15 r (nI t)) (4 * r) v) := by
    refine fm_ind 4 (fun v hle ih => ?_)
    refine fm_iload (pq := 35) hX d_R_enter_33 rfl rfl ?_
    refine fm_iconst (pq := 36) (v := nI 4) hX d_R_enter_35 (by decide) rfl ?_
    refine fm_n_ge (tgt := 71) (pq := 39) hX d_R_enter_36 rfl rfl (by omega) (by omega) (fun h36 => ?_) (fun h36 => ?_)
    · show fm_G SR Y_R_enter X M (fm_vv (rm_enter M (P.2.1 m) r m t x y)) 71 [some (.inr 0), some (.inl (nI m)), some (.inl (nI t)), some (.inl x), some (.inl y), some (.inl (nI r)), some (.inl (nI v))] [] (rm_z (fm_up (fm_up (fm_up M 13 r (nI m)) 14 r (nI 0)) 15 r (nI t)) (4 * r) v)
      have ev : v = 4 := by omega
      subst ev
      refine fm_aload_n (pq := 72) hX d_R_enter_71 rfl rfl rfl ?_
      refine fm_getr (pq := 75) (q := 16) hX fR_56 rfl rfl d_R_enter_72 rfl ?_
      refine fm_iconst (pq := 76) (v := nI 4) hX d_R_enter_75 (by decide) rfl ?_
      refine fm_iload (pq := 78) hX d_R_enter_76 rfl rfl ?_
      refine fm_imul (pq := 79) (v := nI (4 * r)) hX d_R_enter_78 (pk_mul _ _) rfl ?_
      have L93 : ∀ w : Int32, w = (if 0 < P.2.1 m then x else nI 0) → fm_G SR Y_R_enter X M (fm_vv (rm_enter M (P.2.1 m) r m t x y)) 93 [some (.inr 0), some (.inl (nI m)), some (.inl (nI t)), some (.inl x), some (.inl y), some (.inl (nI r)), some (.inl (nI 4))] [.inl w, .inl (nI (4 * r)), .inr 16] (rm_z (fm_up (fm_up (fm_up M 13 r (nI m)) 14 r (nI 0)) 15 r (nI t)) (4 * r) 4) := by
        intro w hw0
        subst hw0
        refine fm_iast (pq := 94) hX rfl rfl rfl (by omega) (by decide) d_R_enter_93 rfl ?_
        refine fm_aload_n (pq := 95) hX d_R_enter_94 rfl rfl rfl ?_
        refine fm_getr (pq := 98) (q := 16) hX fR_56 rfl rfl d_R_enter_95 rfl ?_
        refine fm_iconst (pq := 99) (v := nI 4) hX d_R_enter_98 (by decide) rfl ?_
        refine fm_iload (pq := 101) hX d_R_enter_99 rfl rfl ?_
        refine fm_imul (pq := 102) (v := nI (4 * r)) hX d_R_enter_101 (pk_mul _ _) rfl ?_
        refine fm_iconst (pq := 103) (v := nI 1) hX d_R_enter_102 (by decide) rfl ?_
        refine fm_iadd (pq := 104) (v := nI (4 * r + 1)) hX d_R_enter_103 (nI_add _ _) rfl ?_
        have L120 : ∀ w : Int32, w = (if 1 < P.2.1 m then y else nI 0) → fm_G SR Y_R_enter X M (fm_vv (rm_enter M (P.2.1 m) r m t x y)) 120 [some (.inr 0), some (.inl (nI m)), some (.inl (nI t)), some (.inl x), some (.inl y), some (.inl (nI r)), some (.inl (nI 4))] [.inl w, .inl (nI (4 * r + 1)), .inr 16] (fm_up (rm_z (fm_up (fm_up (fm_up M 13 r (nI m)) 14 r (nI 0)) 15 r (nI t)) (4 * r) 4) 16 (4 * r) ((if 0 < P.2.1 m then x else nI 0))) := by
          intro w hw0
          subst hw0
          refine fm_iast (pq := 121) hX rfl rfl rfl (by omega) (by decide) d_R_enter_120 rfl ?_
          refine fm_bipush (pq := 123) (v := nI 20) hX d_R_enter_121 (by decide) rfl ?_
          refine fm_iload (pq := 125) hX d_R_enter_123 rfl rfl ?_
          refine fm_imul (pq := 126) (v := nI (20 * r)) hX d_R_enter_125 (pk_mul _ _) rfl ?_
          refine fm_istore (pq := 128) (ls1 := [some (.inr 0), some (.inl (nI m)), some (.inl (nI t)), some (.inl x), some (.inl y), some (.inl (nI r)), some (.inl (nI (20 * r)))]) hX d_R_enter_126 (by decide) rfl rfl ?_
          refine fm_mem (fm_fz_0 _ 18 (20 * r) (nI 0)).symm ?_
          exact L128 0 (by omega)
        refine fm_aload_n (pq := 105) hX d_R_enter_104 rfl rfl rfl ?_
        refine fm_getr (pq := 108) (q := 1) hX fR_7 rfl rfl d_R_enter_105 rfl ?_
        refine fm_iload_n (pq := 109) hX d_R_enter_108 rfl rfl rfl ?_
        refine fm_iald (pq := 110) (v := nI (P.2.1 m)) hX rfl rfl rfl (by omega) (by decide) ((rP_cg hP (fun a j h1 h2 => by simp only [fm_up_a (show a ≠ 13 by omega), fm_up_a (show a ≠ 14 by omega), fm_up_a (show a ≠ 15 by omega), fm_up_a (show a ≠ 16 by omega), rm_z_o (show a ≠ 16 by omega) (show a ≠ 17 by omega)])) m (by omega)).2.1 d_R_enter_109 rfl ?_
        refine fm_iconst (pq := 111) (v := nI 1) hX d_R_enter_110 (by decide) rfl ?_
        refine fm_n_le (tgt := 119) (pq := 114) hX d_R_enter_111 rfl rfl (by omega) (by omega) (fun h111 => ?_) (fun h111 => ?_)
        · show fm_G SR Y_R_enter X M (fm_vv (rm_enter M (P.2.1 m) r m t x y)) 119 [some (.inr 0), some (.inl (nI m)), some (.inl (nI t)), some (.inl x), some (.inl y), some (.inl (nI r)), some (.inl (nI 4))] [.inl (nI (4 * r + 1)), .inr 16] (fm_up (rm_z (fm_up (fm_up (fm_up M 13 r (nI m)) 14 r (nI 0)) 15 r (nI t)) (4 * r) 4) 16 (4 * r) ((if 0 < P.2.1 m then x else nI 0)))
          refine fm_iconst (pq := 120) (v := nI 0) hX d_R_enter_119 (by decide) rfl ?_
          first | exact L120 _ (if_pos (by omega)).symm | exact L120 _ (if_neg (by omega)).symm
        · show fm_G SR Y_R_enter X M (fm_vv (rm_enter M (P.2.1 m) r m t x y)) 114 [some (.inr 0), some (.inl (nI m)), some (.inl (nI t)), some (.inl x), some (.inl y), some (.inl (nI r)), some (.inl (nI 4))] [.inl (nI (4 * r + 1)), .inr 16] (fm_up (rm_z (fm_up (fm_up (fm_up M 13 r (nI m)) 14 r (nI 0)) 15 r (nI t)) (4 * r) 4) 16 (4 * r) ((if 0 < P.2.1 m then x else nI 0)))
          refine fm_iload (pq := 116) hX d_R_enter_114 rfl rfl ?_
          refine fm_goto (tgt := 120) hX d_R_enter_116 rfl ?_
          first | exact L120 _ (if_pos (by omega)).symm | exact L120 _ (if_neg (by omega)).symm
      refine fm_aload_n (pq := 80) hX d_R_enter_79 rfl rfl rfl ?_
      refine fm_getr (pq := 83) (q := 1) hX fR_7 rfl rfl d_R_enter_80 rfl ?_
      refine fm_iload_n (pq := 84) hX d_R_enter_83 rfl rfl rfl ?_
      refine fm_iald (pq := 85) (v := nI (P.2.1 m)) hX rfl rfl rfl (by omega) (by decide) ((rP_cg hP (fun a j h1 h2 => by simp only [fm_up_a (show a ≠ 13 by omega), fm_up_a (show a ≠ 14 by omega), fm_up_a (show a ≠ 15 by omega), fm_up_a (show a ≠ 16 by omega), rm_z_o (show a ≠ 16 by omega) (show a ≠ 17 by omega)])) m (by omega)).2.1 d_R_enter_84 rfl ?_
      refine fm_z_le (tgt := 92) (pq := 88) hX d_R_enter_85 rfl rfl (by omega) (fun h85 => ?_) (fun h85 => ?_)
      · show fm_G SR Y_R_enter X M (fm_vv (rm_enter M (P.2.1 m) r m t x y)) 92 [some (.inr 0), some (.inl (nI m)), some (.inl (nI t)), some (.inl x), some (.inl y), some (.inl (nI r)), some (.inl (nI 4))] [.inl (nI (4 * r)), .inr 16] (rm_z (fm_up (fm_up (fm_up M 13 r (nI m)) 14 r (nI 0)) 15 r (nI t)) (4 * r) 4)
        refine fm_iconst (pq := 93) (v := nI 0) hX d_R_enter_92 (by decide) rfl ?_
        first | exact L93 _ (if_pos (by omega)).symm | exact L93 _ (if_neg (by omega)).symm
      · show fm_G SR Y_R_enter X M (fm_vv (rm_enter M (P.2.1 m) r m t x y)) 88 [some (.inr 0), some (.inl (nI m)), some (.inl (nI t)), some (.inl x), some (.inl y), some (.inl (nI r)), some (.inl (nI 4))] [.inl (nI (4 * r)), .inr 16] (rm_z (fm_up (fm_up (fm_up M 13 r (nI m)) 14 r (nI 0)) 15 r (nI t)) (4 * r) 4)
        refine fm_iload_n (pq := 89) hX d_R_enter_88 rfl rfl rfl ?_
        refine fm_goto (tgt := 93) hX d_R_enter_89 rfl ?_
        first | exact L93 _ (if_pos (by omega)).symm | exact L93 _ (if_neg (by omega)).symm
    · show fm_G SR Y_R_enter X M (fm_vv (rm_enter M (P.2.1 m) r m t x y)) 39 [some (.inr 0), some (.inl (nI m)), some (.inl (nI t)), some (.inl x), some (.inl y), some (.inl (nI r)), some (.inl (nI v))] [] (rm_z (fm_up (fm_up (fm_up M 13 r (nI m)) 14 r (nI 0)) 15 r (nI t)) (4 * r) v)
      refine fm_aload_n (pq := 40) hX d_R_enter_39 rfl rfl rfl ?_
      refine fm_getr (pq := 43) (q := 16) hX fR_56 rfl rfl d_R_enter_40 rfl ?_
      refine fm_iconst (pq := 44) (v := nI 4) hX d_R_enter_43 (by decide) rfl ?_
      refine fm_iload (pq := 46) hX d_R_enter_44 rfl rfl ?_
      refine fm_imul (pq := 47) (v := nI (4 * r)) hX d_R_enter_46 (pk_mul _ _) rfl ?_
      refine fm_iload (pq := 49) hX d_R_enter_47 rfl rfl ?_
      refine fm_iadd (pq := 50) (v := nI (4 * r + v)) hX d_R_enter_49 (nI_add _ _) rfl ?_
      refine fm_iconst (pq := 51) (v := nI 0) hX d_R_enter_50 (by decide) rfl ?_
      refine fm_iast (pq := 52) hX rfl rfl rfl (by omega) (by decide) d_R_enter_51 rfl ?_
      refine fm_aload_n (pq := 53) hX d_R_enter_52 rfl rfl rfl ?_
      refine fm_getr (pq := 56) (q := 17) hX fR_59 rfl rfl d_R_enter_53 rfl ?_
      refine fm_iconst (pq := 57) (v := nI 4) hX d_R_enter_56 (by decide) rfl ?_
      refine fm_iload (pq := 59) hX d_R_enter_57 rfl rfl ?_
      refine fm_imul (pq := 60) (v := nI (4 * r)) hX d_R_enter_59 (pk_mul _ _) rfl ?_
      refine fm_iload (pq := 62) hX d_R_enter_60 rfl rfl ?_
      refine fm_iadd (pq := 63) (v := nI (4 * r + v)) hX d_R_enter_62 (nI_add _ _) rfl ?_
      refine fm_iconst (pq := 64) (v := nI 0) hX d_R_enter_63 (by decide) rfl ?_
      refine fm_iast (pq := 65) hX rfl rfl rfl (by omega) (by decide) d_R_enter_64 rfl ?_
      refine fm_mem (M' := rm_z (fm_up (fm_up (fm_up M 13 r (nI m)) 14 r (nI 0)) 15 r (nI t)) (4 * r) (v + 1)) rfl ?_
      refine fm_iinc (pq := 68) (v := nI (v + 1)) (ls1 := [some (.inr 0), some (.inl (nI m)), some (.inl (nI t)), some (.inl x), some (.inl y), some (.inl (nI r)), some (.inl (nI (v + 1)))]) hX d_R_enter_65 rfl (nI_add _ _) (by decide) rfl rfl ?_
      refine fm_goto (tgt := 33) hX d_R_enter_68 rfl ?_
      exact ih (by omega)
  show fm_G SR Y_R_enter X M (fm_vv (rm_enter M (P.2.1 m) r m t x y)) 0 [some (.inr 0), some (.inl (nI m)), some (.inl (nI t)), some (.inl x), some (.inl y), none, none] [] M
  refine fm_aload_n (pq := 1) hX d_R_enter_0 rfl rfl rfl ?_
  refine fm_geti (pq := 4) (v := nI r) hX fR_157 rfl rfl (by first | exact hr | exact fm_up_s | simp [fm_up, hr] | simp [fm_up, fm_fz, rm_z, hr]) d_R_enter_1 rfl ?_
  refine fm_istore (pq := 6) (ls1 := [some (.inr 0), some (.inl (nI m)), some (.inl (nI t)), some (.inl x), some (.inl y), some (.inl (nI r)), none]) hX d_R_enter_4 (by decide) rfl rfl ?_
  refine fm_aload_n (pq := 7) hX d_R_enter_6 rfl rfl rfl ?_
  refine fm_getr (pq := 10) (q := 13) hX fR_47 rfl rfl d_R_enter_7 rfl ?_
  refine fm_iload (pq := 12) hX d_R_enter_10 rfl rfl ?_
  refine fm_iload_n (pq := 13) hX d_R_enter_12 rfl rfl rfl ?_
  refine fm_iast (pq := 14) hX rfl rfl rfl (by omega) (by decide) d_R_enter_13 rfl ?_
  refine fm_aload_n (pq := 15) hX d_R_enter_14 rfl rfl rfl ?_
  refine fm_getr (pq := 18) (q := 14) hX fR_50 rfl rfl d_R_enter_15 rfl ?_
  refine fm_iload (pq := 20) hX d_R_enter_18 rfl rfl ?_
  refine fm_iconst (pq := 21) (v := nI 0) hX d_R_enter_20 (by decide) rfl ?_
  refine fm_iast (pq := 22) hX rfl rfl rfl (by omega) (by decide) d_R_enter_21 rfl ?_
  refine fm_aload_n (pq := 23) hX d_R_enter_22 rfl rfl rfl ?_
  refine fm_getr (pq := 26) (q := 15) hX fR_53 rfl rfl d_R_enter_23 rfl ?_
  refine fm_iload (pq := 28) hX d_R_enter_26 rfl rfl ?_
  refine fm_iload_n (pq := 29) hX d_R_enter_28 rfl rfl rfl ?_
  refine fm_iast (pq := 30) hX rfl rfl rfl (by omega) (by decide) d_R_enter_29 rfl ?_
  refine fm_iconst (pq := 31) (v := nI 0) hX d_R_enter_30 (by decide) rfl ?_
  refine fm_istore (pq := 33) (ls1 := [some (.inr 0), some (.inl (nI m)), some (.inl (nI t)), some (.inl x), some (.inl y), some (.inl (nI r)), some (.inl (nI 0))]) hX d_R_enter_31 (by decide) rfl rfl ?_
  exact L33 0 (by omega)
abbrev Y_R_leave : fm_Y := ("EscapeMillModel", b_R_leave, 2, none, 1)
set_option maxRecDepth 100000 in
set_option maxHeartbeats 4000000 in
theorem k_R_leave (M : fm_M) {r : Nat} (hr : M 0 14 = nI r) (h1 : 1 ≤ r) (h8 : r ≤ 8) {t : Nat} (ht : t < 4) (ht0 : 2 ≤ r → M 15 (r - 1) = nI t) (v : Int32) : fm_ct SR y_R_leave b_R_leave 2 none 1 [.inr 0, .inl v] M (fm_vv (rm_leave M r t v)) := by
  refine fm_of (ls := [some (.inr 0), some (.inl v)]) (by decide) wsA_good (Nat.le_of_ble_eq_true rfl) rfl (fun X hX => ?_)
  show fm_G SR Y_R_leave X M (fm_vv (rm_leave M r t v)) 0 [some (.inr 0), some (.inl v)] [] M
  refine fm_aload_n (pq := 1) hX d_R_leave_0 rfl rfl rfl ?_
  refine fm_dup (pq := 2) hX d_R_leave_1 rfl ?_
  refine fm_geti (pq := 5) (v := nI r) hX fR_157 rfl rfl (by first | exact hr | exact fm_up_s | simp [fm_up, hr] | simp [fm_up, fm_fz, rm_z, hr]) d_R_leave_2 rfl ?_
  refine fm_iconst (pq := 6) (v := nI 1) hX d_R_leave_5 (by decide) rfl ?_
  refine fm_isub (pq := 7) (v := nI (r - 1)) hX d_R_leave_6 (pk_sub (by omega)) rfl ?_
  refine fm_puti (pq := 10) hX fR_157 pR_14 rfl rfl rfl rfl d_R_leave_7 rfl ?_
  refine fm_aload_n (pq := 11) hX d_R_leave_10 rfl rfl rfl ?_
  refine fm_geti (pq := 14) (v := nI (r - 1)) hX fR_157 rfl rfl (by first | exact hr | exact fm_up_s | simp [fm_up, hr] | simp [fm_up, fm_fz, rm_z, hr]) d_R_leave_11 rfl ?_
  refine fm_z_le (tgt := 41) (pq := 17) hX d_R_leave_14 rfl rfl (by omega) (fun h14 => ?_) (fun h14 => ?_)
  · show fm_G SR Y_R_leave X M (fm_vv (rm_leave M r t v)) 41 [some (.inr 0), some (.inl v)] [] (fm_up M 0 14 (nI (r - 1)))
    refine fm_vret hX rfl d_R_leave_41 ?_
    first | exact ⟨rfl, (if_pos (by omega)).symm⟩ | exact ⟨rfl, (if_neg (by omega)).symm⟩
  · show fm_G SR Y_R_leave X M (fm_vv (rm_leave M r t v)) 17 [some (.inr 0), some (.inl v)] [] (fm_up M 0 14 (nI (r - 1)))
    refine fm_aload_n (pq := 18) hX d_R_leave_17 rfl rfl rfl ?_
    refine fm_getr (pq := 21) (q := 16) hX fR_56 rfl rfl d_R_leave_18 rfl ?_
    refine fm_iconst (pq := 22) (v := nI 4) hX d_R_leave_21 (by decide) rfl ?_
    refine fm_aload_n (pq := 23) hX d_R_leave_22 rfl rfl rfl ?_
    refine fm_geti (pq := 26) (v := nI (r - 1)) hX fR_157 rfl rfl (by first | exact hr | exact fm_up_s | simp [fm_up, hr] | simp [fm_up, fm_fz, rm_z, hr]) d_R_leave_23 rfl ?_
    refine fm_iconst (pq := 27) (v := nI 1) hX d_R_leave_26 (by decide) rfl ?_
    refine fm_isub (pq := 28) (v := nI (r - 1 - 1)) hX d_R_leave_27 (pk_sub (by omega)) rfl ?_
    refine fm_imul (pq := 29) (v := nI (4 * (r - 1 - 1))) hX d_R_leave_28 (pk_mul _ _) rfl ?_
    refine fm_aload_n (pq := 30) hX d_R_leave_29 rfl rfl rfl ?_
    refine fm_getr (pq := 33) (q := 15) hX fR_53 rfl rfl d_R_leave_30 rfl ?_
    refine fm_aload_n (pq := 34) hX d_R_leave_33 rfl rfl rfl ?_
    refine fm_geti (pq := 37) (v := nI (r - 1)) hX fR_157 rfl rfl (by first | exact hr | exact fm_up_s | simp [fm_up, hr] | simp [fm_up, fm_fz, rm_z, hr]) d_R_leave_34 rfl ?_
    refine fm_iald (pq := 38) (v := nI t) hX rfl rfl rfl (by omega) (by decide) (by first | exact ht0 (by omega) | (rw [fm_up_a (by decide)]; exact ht0 (by omega))) d_R_leave_37 rfl ?_
    refine fm_iadd (pq := 39) (v := nI (4 * (r - 1 - 1) + t)) hX d_R_leave_38 (nI_add _ _) rfl ?_
    refine fm_iload_n (pq := 40) hX d_R_leave_39 rfl rfl rfl ?_
    refine fm_iast (pq := 41) hX rfl rfl rfl (by omega) (by decide) d_R_leave_40 rfl ?_
    refine fm_vret hX rfl d_R_leave_41 ?_
    first | exact ⟨rfl, (if_pos (by omega)).symm⟩ | exact ⟨rfl, (if_neg (by omega)).symm⟩
abbrev Y_R_set : fm_Y := ("EscapeMillModel", b_R_set, 4, none, 1)
set_option maxRecDepth 100000 in
set_option maxHeartbeats 4000000 in
theorem k_R_set1 (M : fm_M) {c : Nat} (hc : c < 160) (v : Int32) : fm_ct SR y_R_set b_R_set 4 none 1 [.inr 0, .inl (nI 1), .inl (nI c), .inl v] M (fm_vv (fm_up M 18 c v)) := by
  refine fm_of (ls := [some (.inr 0), some (.inl (nI 1)), some (.inl (nI c)), some (.inl v)]) (by decide) wsA_good (Nat.le_of_ble_eq_true rfl) rfl (fun X hX => ?_)
  show fm_G SR Y_R_set X M (fm_vv (fm_up M 18 c v)) 0 [some (.inr 0), some (.inl (nI 1)), some (.inl (nI c)), some (.inl v)] [] M
  refine fm_iload_n (pq := 1) hX d_R_set_0 rfl rfl rfl ?_
  refine fm_z_eq (tgt := 14) (pq := 4) hX d_R_set_1 rfl rfl (by omega) (fun h1 => ?_) (fun h1 => ?_)
  · exact absurd h1 (by decide)
  · show fm_G SR Y_R_set X M (fm_vv (fm_up M 18 c v)) 4 [some (.inr 0), some (.inl (nI 1)), some (.inl (nI c)), some (.inl v)] [] M
    refine fm_aload_n (pq := 5) hX d_R_set_4 rfl rfl rfl ?_
    refine fm_getr (pq := 8) (q := 18) hX fR_62 rfl rfl d_R_set_5 rfl ?_
    refine fm_iload_n (pq := 9) hX d_R_set_8 rfl rfl rfl ?_
    refine fm_iload_n (pq := 10) hX d_R_set_9 rfl rfl rfl ?_
    refine fm_iast (pq := 11) hX rfl rfl rfl (by omega) (by decide) d_R_set_10 rfl ?_
    refine fm_goto (tgt := 21) hX d_R_set_11 rfl ?_
    refine fm_vret hX rfl d_R_set_21 ?_
    exact ⟨rfl, rfl⟩
set_option maxRecDepth 100000 in
set_option maxHeartbeats 4000000 in
theorem k_R_set0 (M : fm_M) {c : Nat} (hc : c < 2100) (v : Int32) : fm_ct SR y_R_set b_R_set 4 none 1 [.inr 0, .inl (nI 0), .inl (nI c), .inl v] M (fm_vv (fm_up M 19 c v)) := by
  refine fm_of (ls := [some (.inr 0), some (.inl (nI 0)), some (.inl (nI c)), some (.inl v)]) (by decide) wsA_good (Nat.le_of_ble_eq_true rfl) rfl (fun X hX => ?_)
  show fm_G SR Y_R_set X M (fm_vv (fm_up M 19 c v)) 0 [some (.inr 0), some (.inl (nI 0)), some (.inl (nI c)), some (.inl v)] [] M
  refine fm_iload_n (pq := 1) hX d_R_set_0 rfl rfl rfl ?_
  refine fm_z_eq (tgt := 14) (pq := 4) hX d_R_set_1 rfl rfl (by omega) (fun h1 => ?_) (fun h1 => ?_)
  · show fm_G SR Y_R_set X M (fm_vv (fm_up M 19 c v)) 14 [some (.inr 0), some (.inl (nI 0)), some (.inl (nI c)), some (.inl v)] [] M
    refine fm_aload_n (pq := 15) hX d_R_set_14 rfl rfl rfl ?_
    refine fm_getr (pq := 18) (q := 19) hX fR_65 rfl rfl d_R_set_15 rfl ?_
    refine fm_iload_n (pq := 19) hX d_R_set_18 rfl rfl rfl ?_
    refine fm_iload_n (pq := 20) hX d_R_set_19 rfl rfl rfl ?_
    refine fm_iast (pq := 21) hX rfl rfl rfl (by omega) (by decide) d_R_set_20 rfl ?_
    refine fm_vret hX rfl d_R_set_21 ?_
    exact ⟨rfl, rfl⟩
  · exact absurd h1 (by decide)
abbrev Y_R_fields : fm_Y := ("EscapeMillModel", b_R_fields, 10, none, 2)
set_option maxRecDepth 100000 in
set_option maxHeartbeats 4000000 in
theorem k_R_fields1 {P : pr_T} {m i : Nat} (hm : m < 5) (hi : i < P.1 m) (M : fm_M) (hP : rP M P) (hw : pr_wf P) {r : Nat} (hr : M 0 14 = nI r) (h1 : 1 ≤ r) (h8 : r ≤ 8) (ho : (P.2.2 m i).1 = 3 ∨ (P.2.2 m i).1 = 4 ∨ (P.2.2 m i).1 = 5 ∨ (P.2.2 m i).1 = 6 ∨ (P.2.2 m i).1 = 10 ∨ (P.2.2 m i).1 = 11) : fm_ct SR y_R_fields b_R_fields 10 none 2 [.inr 0, .inl (nI (24 * m + i)), .inl (nI 1)] M (fm_vv (rm_fl M r 18 (5 * (4 * (r - 1) + (if (P.2.2 m i).1 = 3 ∨ (P.2.2 m i).1 = 5 then (P.2.2 m i).2.2.1 else (P.2.2 m i).2.1))) (P.2.2 m i))) := by
  refine fm_of (ls := [some (.inr 0), some (.inl (nI (24 * m + i))), some (.inl (nI 1)), none, none, none, none, none, none, none]) (by decide) wsA_good (Nat.le_of_ble_eq_true rfl) rfl (fun X hX => ?_)
  obtain ⟨wl, wi, wI⟩ := hw m hm
  obtain ⟨w1, w2, w3, w4, w5, w6⟩ := wI i hi
  clear w6
  have hR4 : (if (P.2.2 m i).1 = 3 ∨ (P.2.2 m i).1 = 5 then (P.2.2 m i).2.2.1 else (P.2.2 m i).2.1) < 4 := by split <;> omega
  show fm_G SR Y_R_fields X M (fm_vv (rm_fl M r 18 (5 * (4 * (r - 1) + (if (P.2.2 m i).1 = 3 ∨ (P.2.2 m i).1 = 5 then (P.2.2 m i).2.2.1 else (P.2.2 m i).2.1))) (P.2.2 m i))) 0 [some (.inr 0), some (.inl (nI (24 * m + i))), some (.inl (nI 1)), none, none, none, none, none, none, none] [] M
  refine fm_aload_n (pq := 1) hX d_R_fields_0 rfl rfl rfl ?_
  refine fm_getr (pq := 4) (q := 3) hX fR_16 rfl rfl d_R_fields_1 rfl ?_
  refine fm_iload_n (pq := 5) hX d_R_fields_4 rfl rfl rfl ?_
  refine fm_iald (pq := 6) (v := nI ((P.2.2 m i).1)) hX rfl rfl rfl (by omega) (by decide) ((hP m (by omega)).2.2 i (by omega)).1 d_R_fields_5 rfl ?_
  refine fm_istore_n (pq := 7) (ls1 := [some (.inr 0), some (.inl (nI (24 * m + i))), some (.inl (nI 1)), some (.inl (nI ((P.2.2 m i).1))), none, none, none, none, none, none]) hX d_R_fields_6 rfl (by decide) rfl rfl ?_
  refine fm_iconst (pq := 8) (v := nI 4) hX d_R_fields_7 (by decide) rfl ?_
  refine fm_aload_n (pq := 9) hX d_R_fields_8 rfl rfl rfl ?_
  refine fm_geti (pq := 12) (v := nI r) hX fR_157 rfl rfl (by first | exact hr | exact fm_up_s | simp [fm_up, hr] | simp [fm_up, fm_fz, rm_z, hr]) d_R_fields_9 rfl ?_
  refine fm_iconst (pq := 13) (v := nI 1) hX d_R_fields_12 (by decide) rfl ?_
  refine fm_isub (pq := 14) (v := nI (r - 1)) hX d_R_fields_13 (pk_sub (by omega)) rfl ?_
  refine fm_imul (pq := 15) (v := nI (4 * (r - 1))) hX d_R_fields_14 (pk_mul _ _) rfl ?_
  refine fm_istore (pq := 17) (ls1 := [some (.inr 0), some (.inl (nI (24 * m + i))), some (.inl (nI 1)), some (.inl (nI ((P.2.2 m i).1))), some (.inl (nI (4 * (r - 1)))), none, none, none, none, none]) hX d_R_fields_15 (by decide) rfl rfl ?_
  have L42 : ∀ q : Nat, q = (if (P.2.2 m i).1 = 3 ∨ (P.2.2 m i).1 = 5 then (P.2.2 m i).2.2.1 else (P.2.2 m i).2.1) → fm_G SR Y_R_fields X M (fm_vv (rm_fl M r 18 (5 * (4 * (r - 1) + (if (P.2.2 m i).1 = 3 ∨ (P.2.2 m i).1 = 5 then (P.2.2 m i).2.2.1 else (P.2.2 m i).2.1))) (P.2.2 m i))) 42 [some (.inr 0), some (.inl (nI (24 * m + i))), some (.inl (nI 1)), some (.inl (nI ((P.2.2 m i).1))), some (.inl (nI (4 * (r - 1)))), none, none, none, none, none] [.inl (nI q)] M := by
    intro q hq
    subst hq
    refine fm_istore (pq := 44) (ls1 := [some (.inr 0), some (.inl (nI (24 * m + i))), some (.inl (nI 1)), some (.inl (nI ((P.2.2 m i).1))), some (.inl (nI (4 * (r - 1)))), some (.inl (nI ((if (P.2.2 m i).1 = 3 ∨ (P.2.2 m i).1 = 5 then (P.2.2 m i).2.2.1 else (P.2.2 m i).2.1)))), none, none, none, none]) hX d_R_fields_42 (by decide) rfl rfl ?_
    refine fm_aload_n (pq := 45) hX d_R_fields_44 rfl rfl rfl ?_
    refine fm_getr (pq := 48) (q := 16) hX fR_56 rfl rfl d_R_fields_45 rfl ?_
    refine fm_iload (pq := 50) hX d_R_fields_48 rfl rfl ?_
    refine fm_iload (pq := 52) hX d_R_fields_50 rfl rfl ?_
    refine fm_iadd (pq := 53) (v := nI (4 * (r - 1) + ((if (P.2.2 m i).1 = 3 ∨ (P.2.2 m i).1 = 5 then (P.2.2 m i).2.2.1 else (P.2.2 m i).2.1)))) hX d_R_fields_52 (nI_add _ _) rfl ?_
    refine fm_iald (pq := 54) (v := M 16 (4 * (r - 1) + ((if (P.2.2 m i).1 = 3 ∨ (P.2.2 m i).1 = 5 then (P.2.2 m i).2.2.1 else (P.2.2 m i).2.1)))) hX rfl rfl rfl (by omega) (by decide) rfl d_R_fields_53 rfl ?_
    refine fm_istore (pq := 56) (ls1 := [some (.inr 0), some (.inl (nI (24 * m + i))), some (.inl (nI 1)), some (.inl (nI ((P.2.2 m i).1))), some (.inl (nI (4 * (r - 1)))), some (.inl (nI ((if (P.2.2 m i).1 = 3 ∨ (P.2.2 m i).1 = 5 then (P.2.2 m i).2.2.1 else (P.2.2 m i).2.1)))), some (.inl (M 16 (4 * (r - 1) + ((if (P.2.2 m i).1 = 3 ∨ (P.2.2 m i).1 = 5 then (P.2.2 m i).2.2.1 else (P.2.2 m i).2.1))))), none, none, none]) hX d_R_fields_54 (by decide) rfl rfl ?_
    refine fm_iload_n (pq := 57) hX d_R_fields_56 rfl rfl rfl ?_
    refine fm_z_ne (tgt := 71) (pq := 60) hX d_R_fields_57 rfl rfl (by omega) (fun h57 => ?_) (fun h57 => ?_)
    · show fm_G SR Y_R_fields X M (fm_vv (rm_fl M r 18 (5 * (4 * (r - 1) + (if (P.2.2 m i).1 = 3 ∨ (P.2.2 m i).1 = 5 then (P.2.2 m i).2.2.1 else (P.2.2 m i).2.1))) (P.2.2 m i))) 71 [some (.inr 0), some (.inl (nI (24 * m + i))), some (.inl (nI 1)), some (.inl (nI ((P.2.2 m i).1))), some (.inl (nI (4 * (r - 1)))), some (.inl (nI ((if (P.2.2 m i).1 = 3 ∨ (P.2.2 m i).1 = 5 then (P.2.2 m i).2.2.1 else (P.2.2 m i).2.1)))), some (.inl (M 16 (4 * (r - 1) + ((if (P.2.2 m i).1 = 3 ∨ (P.2.2 m i).1 = 5 then (P.2.2 m i).2.2.1 else (P.2.2 m i).2.1))))), none, none, none] [] M
      refine fm_iload_n (pq := 72) hX d_R_fields_71 rfl rfl rfl ?_
      refine fm_z_eq (tgt := 85) (pq := 75) hX d_R_fields_72 rfl rfl (by omega) (fun h72 => ?_) (fun h72 => ?_)
      · exact absurd h72 (by decide)
      · show fm_G SR Y_R_fields X M (fm_vv (rm_fl M r 18 (5 * (4 * (r - 1) + (if (P.2.2 m i).1 = 3 ∨ (P.2.2 m i).1 = 5 then (P.2.2 m i).2.2.1 else (P.2.2 m i).2.1))) (P.2.2 m i))) 75 [some (.inr 0), some (.inl (nI (24 * m + i))), some (.inl (nI 1)), some (.inl (nI ((P.2.2 m i).1))), some (.inl (nI (4 * (r - 1)))), some (.inl (nI ((if (P.2.2 m i).1 = 3 ∨ (P.2.2 m i).1 = 5 then (P.2.2 m i).2.2.1 else (P.2.2 m i).2.1)))), some (.inl (M 16 (4 * (r - 1) + ((if (P.2.2 m i).1 = 3 ∨ (P.2.2 m i).1 = 5 then (P.2.2 m i).2.2.1 else (P.2.2 m i).2.1))))), none, none, none] [] M
        refine fm_iconst (pq := 76) (v := nI 5) hX d_R_fields_75 (by decide) rfl ?_
        refine fm_iload (pq := 78) hX d_R_fields_76 rfl rfl ?_
        refine fm_iload (pq := 80) hX d_R_fields_78 rfl rfl ?_
        refine fm_iadd (pq := 81) (v := nI (4 * (r - 1) + ((if (P.2.2 m i).1 = 3 ∨ (P.2.2 m i).1 = 5 then (P.2.2 m i).2.2.1 else (P.2.2 m i).2.1)))) hX d_R_fields_80 (nI_add _ _) rfl ?_
        refine fm_imul (pq := 82) (v := nI (5 * (4 * (r - 1) + ((if (P.2.2 m i).1 = 3 ∨ (P.2.2 m i).1 = 5 then (P.2.2 m i).2.2.1 else (P.2.2 m i).2.1))))) hX d_R_fields_81 (pk_mul _ _) rfl ?_
        refine fm_goto (tgt := 89) hX d_R_fields_82 rfl ?_
        refine fm_istore (pq := 91) (ls1 := [some (.inr 0), some (.inl (nI (24 * m + i))), some (.inl (nI 1)), some (.inl (nI ((P.2.2 m i).1))), some (.inl (nI (4 * (r - 1)))), some (.inl (nI ((if (P.2.2 m i).1 = 3 ∨ (P.2.2 m i).1 = 5 then (P.2.2 m i).2.2.1 else (P.2.2 m i).2.1)))), some (.inl (M 16 (4 * (r - 1) + ((if (P.2.2 m i).1 = 3 ∨ (P.2.2 m i).1 = 5 then (P.2.2 m i).2.2.1 else (P.2.2 m i).2.1))))), some (.inl (nI (5 * (4 * (r - 1) + ((if (P.2.2 m i).1 = 3 ∨ (P.2.2 m i).1 = 5 then (P.2.2 m i).2.2.1 else (P.2.2 m i).2.1)))))), none, none]) hX d_R_fields_89 (by decide) rfl rfl ?_
        refine fm_iload (pq := 93) hX d_R_fields_91 rfl rfl ?_
        refine fm_aload_n (pq := 94) hX d_R_fields_93 rfl rfl rfl ?_
        refine fm_getr (pq := 97) (q := 6) hX fR_25 rfl rfl d_R_fields_94 rfl ?_
        refine fm_iload_n (pq := 98) hX d_R_fields_97 rfl rfl rfl ?_
        refine fm_iald (pq := 99) (v := nI ((P.2.2 m i).2.2.2.1)) hX rfl rfl rfl (by omega) (by decide) ((hP m (by omega)).2.2 i (by omega)).2.2.2.1 d_R_fields_98 rfl ?_
        refine fm_iadd (pq := 100) (v := nI (5 * (4 * (r - 1) + ((if (P.2.2 m i).1 = 3 ∨ (P.2.2 m i).1 = 5 then (P.2.2 m i).2.2.1 else (P.2.2 m i).2.1))) + ((P.2.2 m i).2.2.2.1))) hX d_R_fields_99 (nI_add _ _) rfl ?_
        refine fm_istore (pq := 102) (ls1 := [some (.inr 0), some (.inl (nI (24 * m + i))), some (.inl (nI 1)), some (.inl (nI ((P.2.2 m i).1))), some (.inl (nI (4 * (r - 1)))), some (.inl (nI ((if (P.2.2 m i).1 = 3 ∨ (P.2.2 m i).1 = 5 then (P.2.2 m i).2.2.1 else (P.2.2 m i).2.1)))), some (.inl (M 16 (4 * (r - 1) + ((if (P.2.2 m i).1 = 3 ∨ (P.2.2 m i).1 = 5 then (P.2.2 m i).2.2.1 else (P.2.2 m i).2.1))))), some (.inl (nI (5 * (4 * (r - 1) + ((if (P.2.2 m i).1 = 3 ∨ (P.2.2 m i).1 = 5 then (P.2.2 m i).2.2.1 else (P.2.2 m i).2.1)))))), some (.inl (nI (5 * (4 * (r - 1) + ((if (P.2.2 m i).1 = 3 ∨ (P.2.2 m i).1 = 5 then (P.2.2 m i).2.2.1 else (P.2.2 m i).2.1))) + ((P.2.2 m i).2.2.2.1)))), none]) hX d_R_fields_100 (by decide) rfl rfl ?_
        refine fm_iload_n (pq := 103) hX d_R_fields_102 rfl rfl rfl ?_
        refine fm_iconst (pq := 104) (v := nI 3) hX d_R_fields_103 (by decide) rfl ?_
        refine fm_n_ne (tgt := 145) (pq := 107) hX d_R_fields_104 rfl rfl (by omega) (by omega) (fun h104 => ?_) (fun h104 => ?_)
        · show fm_G SR Y_R_fields X M (fm_vv (rm_fl M r 18 (5 * (4 * (r - 1) + (if (P.2.2 m i).1 = 3 ∨ (P.2.2 m i).1 = 5 then (P.2.2 m i).2.2.1 else (P.2.2 m i).2.1))) (P.2.2 m i))) 145 [some (.inr 0), some (.inl (nI (24 * m + i))), some (.inl (nI 1)), some (.inl (nI ((P.2.2 m i).1))), some (.inl (nI (4 * (r - 1)))), some (.inl (nI ((if (P.2.2 m i).1 = 3 ∨ (P.2.2 m i).1 = 5 then (P.2.2 m i).2.2.1 else (P.2.2 m i).2.1)))), some (.inl (M 16 (4 * (r - 1) + ((if (P.2.2 m i).1 = 3 ∨ (P.2.2 m i).1 = 5 then (P.2.2 m i).2.2.1 else (P.2.2 m i).2.1))))), some (.inl (nI (5 * (4 * (r - 1) + ((if (P.2.2 m i).1 = 3 ∨ (P.2.2 m i).1 = 5 then (P.2.2 m i).2.2.1 else (P.2.2 m i).2.1)))))), some (.inl (nI (5 * (4 * (r - 1) + ((if (P.2.2 m i).1 = 3 ∨ (P.2.2 m i).1 = 5 then (P.2.2 m i).2.2.1 else (P.2.2 m i).2.1))) + ((P.2.2 m i).2.2.2.1)))), none] [] M
          refine fm_iload_n (pq := 146) hX d_R_fields_145 rfl rfl rfl ?_
          refine fm_iconst (pq := 147) (v := nI 5) hX d_R_fields_146 (by decide) rfl ?_
          refine fm_n_ne (tgt := 192) (pq := 150) hX d_R_fields_147 rfl rfl (by omega) (by omega) (fun h147 => ?_) (fun h147 => ?_)
          · show fm_G SR Y_R_fields X M (fm_vv (rm_fl M r 18 (5 * (4 * (r - 1) + (if (P.2.2 m i).1 = 3 ∨ (P.2.2 m i).1 = 5 then (P.2.2 m i).2.2.1 else (P.2.2 m i).2.1))) (P.2.2 m i))) 192 [some (.inr 0), some (.inl (nI (24 * m + i))), some (.inl (nI 1)), some (.inl (nI ((P.2.2 m i).1))), some (.inl (nI (4 * (r - 1)))), some (.inl (nI ((if (P.2.2 m i).1 = 3 ∨ (P.2.2 m i).1 = 5 then (P.2.2 m i).2.2.1 else (P.2.2 m i).2.1)))), some (.inl (M 16 (4 * (r - 1) + ((if (P.2.2 m i).1 = 3 ∨ (P.2.2 m i).1 = 5 then (P.2.2 m i).2.2.1 else (P.2.2 m i).2.1))))), some (.inl (nI (5 * (4 * (r - 1) + ((if (P.2.2 m i).1 = 3 ∨ (P.2.2 m i).1 = 5 then (P.2.2 m i).2.2.1 else (P.2.2 m i).2.1)))))), some (.inl (nI (5 * (4 * (r - 1) + ((if (P.2.2 m i).1 = 3 ∨ (P.2.2 m i).1 = 5 then (P.2.2 m i).2.2.1 else (P.2.2 m i).2.1))) + ((P.2.2 m i).2.2.2.1)))), none] [] M
            refine fm_iload_n (pq := 193) hX d_R_fields_192 rfl rfl rfl ?_
            refine fm_iconst (pq := 194) (v := nI 4) hX d_R_fields_193 (by decide) rfl ?_
            refine fm_n_ne (tgt := 221) (pq := 197) hX d_R_fields_194 rfl rfl (by omega) (by omega) (fun h194 => ?_) (fun h194 => ?_)
            · show fm_G SR Y_R_fields X M (fm_vv (rm_fl M r 18 (5 * (4 * (r - 1) + (if (P.2.2 m i).1 = 3 ∨ (P.2.2 m i).1 = 5 then (P.2.2 m i).2.2.1 else (P.2.2 m i).2.1))) (P.2.2 m i))) 221 [some (.inr 0), some (.inl (nI (24 * m + i))), some (.inl (nI 1)), some (.inl (nI ((P.2.2 m i).1))), some (.inl (nI (4 * (r - 1)))), some (.inl (nI ((if (P.2.2 m i).1 = 3 ∨ (P.2.2 m i).1 = 5 then (P.2.2 m i).2.2.1 else (P.2.2 m i).2.1)))), some (.inl (M 16 (4 * (r - 1) + ((if (P.2.2 m i).1 = 3 ∨ (P.2.2 m i).1 = 5 then (P.2.2 m i).2.2.1 else (P.2.2 m i).2.1))))), some (.inl (nI (5 * (4 * (r - 1) + ((if (P.2.2 m i).1 = 3 ∨ (P.2.2 m i).1 = 5 then (P.2.2 m i).2.2.1 else (P.2.2 m i).2.1)))))), some (.inl (nI (5 * (4 * (r - 1) + ((if (P.2.2 m i).1 = 3 ∨ (P.2.2 m i).1 = 5 then (P.2.2 m i).2.2.1 else (P.2.2 m i).2.1))) + ((P.2.2 m i).2.2.2.1)))), none] [] M
              refine fm_iload_n (pq := 222) hX d_R_fields_221 rfl rfl rfl ?_
              refine fm_bipush (pq := 224) (v := nI 6) hX d_R_fields_222 (by decide) rfl ?_
              refine fm_n_ne (tgt := 253) (pq := 227) hX d_R_fields_224 rfl rfl (by omega) (by omega) (fun h224 => ?_) (fun h224 => ?_)
              · show fm_G SR Y_R_fields X M (fm_vv (rm_fl M r 18 (5 * (4 * (r - 1) + (if (P.2.2 m i).1 = 3 ∨ (P.2.2 m i).1 = 5 then (P.2.2 m i).2.2.1 else (P.2.2 m i).2.1))) (P.2.2 m i))) 253 [some (.inr 0), some (.inl (nI (24 * m + i))), some (.inl (nI 1)), some (.inl (nI ((P.2.2 m i).1))), some (.inl (nI (4 * (r - 1)))), some (.inl (nI ((if (P.2.2 m i).1 = 3 ∨ (P.2.2 m i).1 = 5 then (P.2.2 m i).2.2.1 else (P.2.2 m i).2.1)))), some (.inl (M 16 (4 * (r - 1) + ((if (P.2.2 m i).1 = 3 ∨ (P.2.2 m i).1 = 5 then (P.2.2 m i).2.2.1 else (P.2.2 m i).2.1))))), some (.inl (nI (5 * (4 * (r - 1) + ((if (P.2.2 m i).1 = 3 ∨ (P.2.2 m i).1 = 5 then (P.2.2 m i).2.2.1 else (P.2.2 m i).2.1)))))), some (.inl (nI (5 * (4 * (r - 1) + ((if (P.2.2 m i).1 = 3 ∨ (P.2.2 m i).1 = 5 then (P.2.2 m i).2.2.1 else (P.2.2 m i).2.1))) + ((P.2.2 m i).2.2.2.1)))), none] [] M
                refine fm_iload_n (pq := 254) hX d_R_fields_253 rfl rfl rfl ?_
                refine fm_z_eq (tgt := 269) (pq := 257) hX d_R_fields_254 rfl rfl (by omega) (fun h254 => ?_) (fun h254 => ?_)
                · exact absurd h254 (by decide)
                · show fm_G SR Y_R_fields X M (fm_vv (rm_fl M r 18 (5 * (4 * (r - 1) + (if (P.2.2 m i).1 = 3 ∨ (P.2.2 m i).1 = 5 then (P.2.2 m i).2.2.1 else (P.2.2 m i).2.1))) (P.2.2 m i))) 257 [some (.inr 0), some (.inl (nI (24 * m + i))), some (.inl (nI 1)), some (.inl (nI ((P.2.2 m i).1))), some (.inl (nI (4 * (r - 1)))), some (.inl (nI ((if (P.2.2 m i).1 = 3 ∨ (P.2.2 m i).1 = 5 then (P.2.2 m i).2.2.1 else (P.2.2 m i).2.1)))), some (.inl (M 16 (4 * (r - 1) + ((if (P.2.2 m i).1 = 3 ∨ (P.2.2 m i).1 = 5 then (P.2.2 m i).2.2.1 else (P.2.2 m i).2.1))))), some (.inl (nI (5 * (4 * (r - 1) + ((if (P.2.2 m i).1 = 3 ∨ (P.2.2 m i).1 = 5 then (P.2.2 m i).2.2.1 else (P.2.2 m i).2.1)))))), some (.inl (nI (5 * (4 * (r - 1) + ((if (P.2.2 m i).1 = 3 ∨ (P.2.2 m i).1 = 5 then (P.2.2 m i).2.2.1 else (P.2.2 m i).2.1))) + ((P.2.2 m i).2.2.2.1)))), none] [] M
                  refine fm_aload_n (pq := 258) hX d_R_fields_257 rfl rfl rfl ?_
                  refine fm_getr (pq := 261) (q := 18) hX fR_62 rfl rfl d_R_fields_258 rfl ?_
                  refine fm_iload (pq := 263) hX d_R_fields_261 rfl rfl ?_
                  refine fm_iconst (pq := 264) (v := nI 4) hX d_R_fields_263 (by decide) rfl ?_
                  refine fm_iadd (pq := 265) (v := nI (5 * (4 * (r - 1) + ((if (P.2.2 m i).1 = 3 ∨ (P.2.2 m i).1 = 5 then (P.2.2 m i).2.2.1 else (P.2.2 m i).2.1))) + 4)) hX d_R_fields_264 (nI_add _ _) rfl ?_
                  refine fm_iald (pq := 266) (v := M 18 (5 * (4 * (r - 1) + ((if (P.2.2 m i).1 = 3 ∨ (P.2.2 m i).1 = 5 then (P.2.2 m i).2.2.1 else (P.2.2 m i).2.1))) + 4)) hX rfl rfl rfl (by omega) (by decide) rfl d_R_fields_265 rfl ?_
                  refine fm_goto (tgt := 278) hX d_R_fields_266 rfl ?_
                  refine fm_istore (pq := 280) (ls1 := [some (.inr 0), some (.inl (nI (24 * m + i))), some (.inl (nI 1)), some (.inl (nI ((P.2.2 m i).1))), some (.inl (nI (4 * (r - 1)))), some (.inl (nI ((if (P.2.2 m i).1 = 3 ∨ (P.2.2 m i).1 = 5 then (P.2.2 m i).2.2.1 else (P.2.2 m i).2.1)))), some (.inl (M 16 (4 * (r - 1) + ((if (P.2.2 m i).1 = 3 ∨ (P.2.2 m i).1 = 5 then (P.2.2 m i).2.2.1 else (P.2.2 m i).2.1))))), some (.inl (nI (5 * (4 * (r - 1) + ((if (P.2.2 m i).1 = 3 ∨ (P.2.2 m i).1 = 5 then (P.2.2 m i).2.2.1 else (P.2.2 m i).2.1)))))), some (.inl (nI (5 * (4 * (r - 1) + ((if (P.2.2 m i).1 = 3 ∨ (P.2.2 m i).1 = 5 then (P.2.2 m i).2.2.1 else (P.2.2 m i).2.1))) + ((P.2.2 m i).2.2.2.1)))), some (.inl (M 18 (5 * (4 * (r - 1) + ((if (P.2.2 m i).1 = 3 ∨ (P.2.2 m i).1 = 5 then (P.2.2 m i).2.2.1 else (P.2.2 m i).2.1))) + 4)))]) hX d_R_fields_278 (by decide) rfl rfl ?_
                  refine fm_iload_n (pq := 281) hX d_R_fields_280 rfl rfl rfl ?_
                  refine fm_bipush (pq := 283) (v := nI 11) hX d_R_fields_281 (by decide) rfl ?_
                  refine fm_n_ne (tgt := 297) (pq := 286) hX d_R_fields_283 rfl rfl (by omega) (by omega) (fun h283 => ?_) (fun h283 => ?_)
                  · show fm_G SR Y_R_fields X M (fm_vv (rm_fl M r 18 (5 * (4 * (r - 1) + (if (P.2.2 m i).1 = 3 ∨ (P.2.2 m i).1 = 5 then (P.2.2 m i).2.2.1 else (P.2.2 m i).2.1))) (P.2.2 m i))) 297 [some (.inr 0), some (.inl (nI (24 * m + i))), some (.inl (nI 1)), some (.inl (nI ((P.2.2 m i).1))), some (.inl (nI (4 * (r - 1)))), some (.inl (nI ((if (P.2.2 m i).1 = 3 ∨ (P.2.2 m i).1 = 5 then (P.2.2 m i).2.2.1 else (P.2.2 m i).2.1)))), some (.inl (M 16 (4 * (r - 1) + ((if (P.2.2 m i).1 = 3 ∨ (P.2.2 m i).1 = 5 then (P.2.2 m i).2.2.1 else (P.2.2 m i).2.1))))), some (.inl (nI (5 * (4 * (r - 1) + ((if (P.2.2 m i).1 = 3 ∨ (P.2.2 m i).1 = 5 then (P.2.2 m i).2.2.1 else (P.2.2 m i).2.1)))))), some (.inl (nI (5 * (4 * (r - 1) + ((if (P.2.2 m i).1 = 3 ∨ (P.2.2 m i).1 = 5 then (P.2.2 m i).2.2.1 else (P.2.2 m i).2.1))) + ((P.2.2 m i).2.2.2.1)))), some (.inl (M 18 (5 * (4 * (r - 1) + ((if (P.2.2 m i).1 = 3 ∨ (P.2.2 m i).1 = 5 then (P.2.2 m i).2.2.1 else (P.2.2 m i).2.1))) + 4)))] [] M
                    refine fm_aload_n (pq := 298) hX d_R_fields_297 rfl rfl rfl ?_
                    refine fm_iload_n (pq := 299) hX d_R_fields_298 rfl rfl rfl ?_
                    refine fm_iload (pq := 301) hX d_R_fields_299 rfl rfl ?_
                    refine fm_iconst (pq := 302) (v := nI 4) hX d_R_fields_301 (by decide) rfl ?_
                    refine fm_iadd (pq := 303) (v := nI (5 * (4 * (r - 1) + ((if (P.2.2 m i).1 = 3 ∨ (P.2.2 m i).1 = 5 then (P.2.2 m i).2.2.1 else (P.2.2 m i).2.1))) + 4)) hX d_R_fields_302 (nI_add _ _) rfl ?_
                    refine fm_iload_n (pq := 304) hX d_R_fields_303 rfl rfl rfl ?_
                    refine fm_bipush (pq := 306) (v := nI 10) hX d_R_fields_304 (by decide) rfl ?_
                    refine fm_n_ne (tgt := 316) (pq := 309) hX d_R_fields_306 rfl rfl (by omega) (by omega) (fun h306 => ?_) (fun h306 => ?_)
                    · show fm_G SR Y_R_fields X M (fm_vv (rm_fl M r 18 (5 * (4 * (r - 1) + (if (P.2.2 m i).1 = 3 ∨ (P.2.2 m i).1 = 5 then (P.2.2 m i).2.2.1 else (P.2.2 m i).2.1))) (P.2.2 m i))) 316 [some (.inr 0), some (.inl (nI (24 * m + i))), some (.inl (nI 1)), some (.inl (nI ((P.2.2 m i).1))), some (.inl (nI (4 * (r - 1)))), some (.inl (nI ((if (P.2.2 m i).1 = 3 ∨ (P.2.2 m i).1 = 5 then (P.2.2 m i).2.2.1 else (P.2.2 m i).2.1)))), some (.inl (M 16 (4 * (r - 1) + ((if (P.2.2 m i).1 = 3 ∨ (P.2.2 m i).1 = 5 then (P.2.2 m i).2.2.1 else (P.2.2 m i).2.1))))), some (.inl (nI (5 * (4 * (r - 1) + ((if (P.2.2 m i).1 = 3 ∨ (P.2.2 m i).1 = 5 then (P.2.2 m i).2.2.1 else (P.2.2 m i).2.1)))))), some (.inl (nI (5 * (4 * (r - 1) + ((if (P.2.2 m i).1 = 3 ∨ (P.2.2 m i).1 = 5 then (P.2.2 m i).2.2.1 else (P.2.2 m i).2.1))) + ((P.2.2 m i).2.2.2.1)))), some (.inl (M 18 (5 * (4 * (r - 1) + ((if (P.2.2 m i).1 = 3 ∨ (P.2.2 m i).1 = 5 then (P.2.2 m i).2.2.1 else (P.2.2 m i).2.1))) + 4)))] [.inl (nI (5 * (4 * (r - 1) + ((if (P.2.2 m i).1 = 3 ∨ (P.2.2 m i).1 = 5 then (P.2.2 m i).2.2.1 else (P.2.2 m i).2.1))) + 4)), .inl (nI 1), .inr 0] M
                      refine fm_iload (pq := 318) hX d_R_fields_316 rfl rfl ?_
                      refine fm_iconst (pq := 319) (v := nI 1) hX d_R_fields_318 (by decide) rfl ?_
                      refine fm_isub (pq := 320) (v := (M 18 (5 * (4 * (r - 1) + ((if (P.2.2 m i).1 = 3 ∨ (P.2.2 m i).1 = 5 then (P.2.2 m i).2.2.1 else (P.2.2 m i).2.1))) + 4)) - (nI 1)) hX d_R_fields_319 rfl rfl ?_
                      refine fm_callV_v (as := [.inl (nI 1), .inl (nI (5 * (4 * (r - 1) + ((if (P.2.2 m i).1 = 3 ∨ (P.2.2 m i).1 = 5 then (P.2.2 m i).2.2.1 else (P.2.2 m i).2.1))) + 4)), .inl ((M 18 (5 * (4 * (r - 1) + ((if (P.2.2 m i).1 = 3 ∨ (P.2.2 m i).1 = 5 then (P.2.2 m i).2.2.1 else (P.2.2 m i).2.1))) + 4)) - (nI 1))]) (st := []) (pq := 323) hX rfl rfl cR_163 rfl im_R_set se_R_set (k_R_set1 M (c := 5 * (4 * (r - 1) + ((if (P.2.2 m i).1 = 3 ∨ (P.2.2 m i).1 = 5 then (P.2.2 m i).2.2.1 else (P.2.2 m i).2.1))) + 4) (by omega) ((M 18 (5 * (4 * (r - 1) + ((if (P.2.2 m i).1 = 3 ∨ (P.2.2 m i).1 = 5 then (P.2.2 m i).2.2.1 else (P.2.2 m i).2.1))) + 4)) - (nI 1))) rfl rfl (Nat.le_of_ble_eq_true rfl) (Nat.le_of_ble_eq_true rfl) d_R_fields_320 rfl ?_
                      refine fm_aload_n (pq := 324) hX d_R_fields_323 rfl rfl rfl ?_
                      refine fm_dup (pq := 325) hX d_R_fields_324 rfl ?_
                      refine fm_geti (pq := 328) (v := M 0 27) hX fR_167 rfl rfl (by first | rfl | simp [fm_up]) d_R_fields_325 rfl ?_
                      refine fm_iload_n (pq := 329) hX d_R_fields_328 rfl rfl rfl ?_
                      refine fm_z_eq (tgt := 336) (pq := 332) hX d_R_fields_329 rfl rfl (by omega) (fun h329 => ?_) (fun h329 => ?_)
                      · exact absurd h329 (by decide)
                      · show fm_G SR Y_R_fields X M (fm_vv (rm_fl M r 18 (5 * (4 * (r - 1) + (if (P.2.2 m i).1 = 3 ∨ (P.2.2 m i).1 = 5 then (P.2.2 m i).2.2.1 else (P.2.2 m i).2.1))) (P.2.2 m i))) 332 [some (.inr 0), some (.inl (nI (24 * m + i))), some (.inl (nI 1)), some (.inl (nI ((P.2.2 m i).1))), some (.inl (nI (4 * (r - 1)))), some (.inl (nI ((if (P.2.2 m i).1 = 3 ∨ (P.2.2 m i).1 = 5 then (P.2.2 m i).2.2.1 else (P.2.2 m i).2.1)))), some (.inl (M 16 (4 * (r - 1) + ((if (P.2.2 m i).1 = 3 ∨ (P.2.2 m i).1 = 5 then (P.2.2 m i).2.2.1 else (P.2.2 m i).2.1))))), some (.inl (nI (5 * (4 * (r - 1) + ((if (P.2.2 m i).1 = 3 ∨ (P.2.2 m i).1 = 5 then (P.2.2 m i).2.2.1 else (P.2.2 m i).2.1)))))), some (.inl (nI (5 * (4 * (r - 1) + ((if (P.2.2 m i).1 = 3 ∨ (P.2.2 m i).1 = 5 then (P.2.2 m i).2.2.1 else (P.2.2 m i).2.1))) + ((P.2.2 m i).2.2.2.1)))), some (.inl (M 18 (5 * (4 * (r - 1) + ((if (P.2.2 m i).1 = 3 ∨ (P.2.2 m i).1 = 5 then (P.2.2 m i).2.2.1 else (P.2.2 m i).2.1))) + 4)))] [.inl (M 0 27), .inr 0] (fm_up M 18 (5 * (4 * (r - 1) + ((if (P.2.2 m i).1 = 3 ∨ (P.2.2 m i).1 = 5 then (P.2.2 m i).2.2.1 else (P.2.2 m i).2.1))) + 4) ((M 18 (5 * (4 * (r - 1) + ((if (P.2.2 m i).1 = 3 ∨ (P.2.2 m i).1 = 5 then (P.2.2 m i).2.2.1 else (P.2.2 m i).2.1))) + 4)) - (nI 1)))
                        refine fm_iconst (pq := 333) (v := nI 0) hX d_R_fields_332 (by decide) rfl ?_
                        refine fm_goto (tgt := 337) hX d_R_fields_333 rfl ?_
                        refine fm_iadd (pq := 338) (v := (M 0 27) + (nI 0)) hX d_R_fields_337 rfl rfl ?_
                        refine fm_puti (pq := 341) hX fR_167 pR_27 rfl rfl rfl rfl d_R_fields_338 rfl ?_
                        refine fm_vret hX rfl d_R_fields_341 ?_
                        refine ⟨rfl, ?_⟩
                        first
                           | (exfalso; omega)
                           | exact (rm_fl_3 h104).symm
                           | exact (rm_fl_5 h147).symm
                           | exact (rm_fl_4 h194).symm
                           | exact (rm_fl_6 h224).symm
                           | exact (rm_fl_v h283 h288).symm
                           | exact (rm_fl_u h283 h288).symm
                           | exact (rm_fl_k h306).symm
                    · show fm_G SR Y_R_fields X M (fm_vv (rm_fl M r 18 (5 * (4 * (r - 1) + (if (P.2.2 m i).1 = 3 ∨ (P.2.2 m i).1 = 5 then (P.2.2 m i).2.2.1 else (P.2.2 m i).2.1))) (P.2.2 m i))) 309 [some (.inr 0), some (.inl (nI (24 * m + i))), some (.inl (nI 1)), some (.inl (nI ((P.2.2 m i).1))), some (.inl (nI (4 * (r - 1)))), some (.inl (nI ((if (P.2.2 m i).1 = 3 ∨ (P.2.2 m i).1 = 5 then (P.2.2 m i).2.2.1 else (P.2.2 m i).2.1)))), some (.inl (M 16 (4 * (r - 1) + ((if (P.2.2 m i).1 = 3 ∨ (P.2.2 m i).1 = 5 then (P.2.2 m i).2.2.1 else (P.2.2 m i).2.1))))), some (.inl (nI (5 * (4 * (r - 1) + ((if (P.2.2 m i).1 = 3 ∨ (P.2.2 m i).1 = 5 then (P.2.2 m i).2.2.1 else (P.2.2 m i).2.1)))))), some (.inl (nI (5 * (4 * (r - 1) + ((if (P.2.2 m i).1 = 3 ∨ (P.2.2 m i).1 = 5 then (P.2.2 m i).2.2.1 else (P.2.2 m i).2.1))) + ((P.2.2 m i).2.2.2.1)))), some (.inl (M 18 (5 * (4 * (r - 1) + ((if (P.2.2 m i).1 = 3 ∨ (P.2.2 m i).1 = 5 then (P.2.2 m i).2.2.1 else (P.2.2 m i).2.1))) + 4)))] [.inl (nI (5 * (4 * (r - 1) + ((if (P.2.2 m i).1 = 3 ∨ (P.2.2 m i).1 = 5 then (P.2.2 m i).2.2.1 else (P.2.2 m i).2.1))) + 4)), .inl (nI 1), .inr 0] M
                      refine fm_iload (pq := 311) hX d_R_fields_309 rfl rfl ?_
                      refine fm_iconst (pq := 312) (v := nI 1) hX d_R_fields_311 (by decide) rfl ?_
                      refine fm_iadd (pq := 313) (v := (M 18 (5 * (4 * (r - 1) + ((if (P.2.2 m i).1 = 3 ∨ (P.2.2 m i).1 = 5 then (P.2.2 m i).2.2.1 else (P.2.2 m i).2.1))) + 4)) + (nI 1)) hX d_R_fields_312 rfl rfl ?_
                      refine fm_goto (tgt := 320) hX d_R_fields_313 rfl ?_
                      refine fm_callV_v (as := [.inl (nI 1), .inl (nI (5 * (4 * (r - 1) + ((if (P.2.2 m i).1 = 3 ∨ (P.2.2 m i).1 = 5 then (P.2.2 m i).2.2.1 else (P.2.2 m i).2.1))) + 4)), .inl ((M 18 (5 * (4 * (r - 1) + ((if (P.2.2 m i).1 = 3 ∨ (P.2.2 m i).1 = 5 then (P.2.2 m i).2.2.1 else (P.2.2 m i).2.1))) + 4)) + (nI 1))]) (st := []) (pq := 323) hX rfl rfl cR_163 rfl im_R_set se_R_set (k_R_set1 M (c := 5 * (4 * (r - 1) + ((if (P.2.2 m i).1 = 3 ∨ (P.2.2 m i).1 = 5 then (P.2.2 m i).2.2.1 else (P.2.2 m i).2.1))) + 4) (by omega) ((M 18 (5 * (4 * (r - 1) + ((if (P.2.2 m i).1 = 3 ∨ (P.2.2 m i).1 = 5 then (P.2.2 m i).2.2.1 else (P.2.2 m i).2.1))) + 4)) + (nI 1))) rfl rfl (Nat.le_of_ble_eq_true rfl) (Nat.le_of_ble_eq_true rfl) d_R_fields_320 rfl ?_
                      refine fm_aload_n (pq := 324) hX d_R_fields_323 rfl rfl rfl ?_
                      refine fm_dup (pq := 325) hX d_R_fields_324 rfl ?_
                      refine fm_geti (pq := 328) (v := M 0 27) hX fR_167 rfl rfl (by first | rfl | simp [fm_up]) d_R_fields_325 rfl ?_
                      refine fm_iload_n (pq := 329) hX d_R_fields_328 rfl rfl rfl ?_
                      refine fm_z_eq (tgt := 336) (pq := 332) hX d_R_fields_329 rfl rfl (by omega) (fun h329 => ?_) (fun h329 => ?_)
                      · exact absurd h329 (by decide)
                      · show fm_G SR Y_R_fields X M (fm_vv (rm_fl M r 18 (5 * (4 * (r - 1) + (if (P.2.2 m i).1 = 3 ∨ (P.2.2 m i).1 = 5 then (P.2.2 m i).2.2.1 else (P.2.2 m i).2.1))) (P.2.2 m i))) 332 [some (.inr 0), some (.inl (nI (24 * m + i))), some (.inl (nI 1)), some (.inl (nI ((P.2.2 m i).1))), some (.inl (nI (4 * (r - 1)))), some (.inl (nI ((if (P.2.2 m i).1 = 3 ∨ (P.2.2 m i).1 = 5 then (P.2.2 m i).2.2.1 else (P.2.2 m i).2.1)))), some (.inl (M 16 (4 * (r - 1) + ((if (P.2.2 m i).1 = 3 ∨ (P.2.2 m i).1 = 5 then (P.2.2 m i).2.2.1 else (P.2.2 m i).2.1))))), some (.inl (nI (5 * (4 * (r - 1) + ((if (P.2.2 m i).1 = 3 ∨ (P.2.2 m i).1 = 5 then (P.2.2 m i).2.2.1 else (P.2.2 m i).2.1)))))), some (.inl (nI (5 * (4 * (r - 1) + ((if (P.2.2 m i).1 = 3 ∨ (P.2.2 m i).1 = 5 then (P.2.2 m i).2.2.1 else (P.2.2 m i).2.1))) + ((P.2.2 m i).2.2.2.1)))), some (.inl (M 18 (5 * (4 * (r - 1) + ((if (P.2.2 m i).1 = 3 ∨ (P.2.2 m i).1 = 5 then (P.2.2 m i).2.2.1 else (P.2.2 m i).2.1))) + 4)))] [.inl (M 0 27), .inr 0] (fm_up M 18 (5 * (4 * (r - 1) + ((if (P.2.2 m i).1 = 3 ∨ (P.2.2 m i).1 = 5 then (P.2.2 m i).2.2.1 else (P.2.2 m i).2.1))) + 4) ((M 18 (5 * (4 * (r - 1) + ((if (P.2.2 m i).1 = 3 ∨ (P.2.2 m i).1 = 5 then (P.2.2 m i).2.2.1 else (P.2.2 m i).2.1))) + 4)) + (nI 1)))
                        refine fm_iconst (pq := 333) (v := nI 0) hX d_R_fields_332 (by decide) rfl ?_
                        refine fm_goto (tgt := 337) hX d_R_fields_333 rfl ?_
                        refine fm_iadd (pq := 338) (v := (M 0 27) + (nI 0)) hX d_R_fields_337 rfl rfl ?_
                        refine fm_puti (pq := 341) hX fR_167 pR_27 rfl rfl rfl rfl d_R_fields_338 rfl ?_
                        refine fm_vret hX rfl d_R_fields_341 ?_
                        refine ⟨rfl, ?_⟩
                        first
                           | (exfalso; omega)
                           | exact (rm_fl_3 h104).symm
                           | exact (rm_fl_5 h147).symm
                           | exact (rm_fl_4 h194).symm
                           | exact (rm_fl_6 h224).symm
                           | exact (rm_fl_v h283 h288).symm
                           | exact (rm_fl_u h283 h288).symm
                           | exact (rm_fl_k h306).symm
                  · show fm_G SR Y_R_fields X M (fm_vv (rm_fl M r 18 (5 * (4 * (r - 1) + (if (P.2.2 m i).1 = 3 ∨ (P.2.2 m i).1 = 5 then (P.2.2 m i).2.2.1 else (P.2.2 m i).2.1))) (P.2.2 m i))) 286 [some (.inr 0), some (.inl (nI (24 * m + i))), some (.inl (nI 1)), some (.inl (nI ((P.2.2 m i).1))), some (.inl (nI (4 * (r - 1)))), some (.inl (nI ((if (P.2.2 m i).1 = 3 ∨ (P.2.2 m i).1 = 5 then (P.2.2 m i).2.2.1 else (P.2.2 m i).2.1)))), some (.inl (M 16 (4 * (r - 1) + ((if (P.2.2 m i).1 = 3 ∨ (P.2.2 m i).1 = 5 then (P.2.2 m i).2.2.1 else (P.2.2 m i).2.1))))), some (.inl (nI (5 * (4 * (r - 1) + ((if (P.2.2 m i).1 = 3 ∨ (P.2.2 m i).1 = 5 then (P.2.2 m i).2.2.1 else (P.2.2 m i).2.1)))))), some (.inl (nI (5 * (4 * (r - 1) + ((if (P.2.2 m i).1 = 3 ∨ (P.2.2 m i).1 = 5 then (P.2.2 m i).2.2.1 else (P.2.2 m i).2.1))) + ((P.2.2 m i).2.2.2.1)))), some (.inl (M 18 (5 * (4 * (r - 1) + ((if (P.2.2 m i).1 = 3 ∨ (P.2.2 m i).1 = 5 then (P.2.2 m i).2.2.1 else (P.2.2 m i).2.1))) + 4)))] [] M
                    refine fm_iload (pq := 288) hX d_R_fields_286 rfl rfl ?_
                    refine fm_if_ne (tgt := 297) (pq := 291) hX d_R_fields_288 rfl rfl (fun h288 => ?_) (fun h288 => ?_)
                    · show fm_G SR Y_R_fields X M (fm_vv (rm_fl M r 18 (5 * (4 * (r - 1) + (if (P.2.2 m i).1 = 3 ∨ (P.2.2 m i).1 = 5 then (P.2.2 m i).2.2.1 else (P.2.2 m i).2.1))) (P.2.2 m i))) 297 [some (.inr 0), some (.inl (nI (24 * m + i))), some (.inl (nI 1)), some (.inl (nI ((P.2.2 m i).1))), some (.inl (nI (4 * (r - 1)))), some (.inl (nI ((if (P.2.2 m i).1 = 3 ∨ (P.2.2 m i).1 = 5 then (P.2.2 m i).2.2.1 else (P.2.2 m i).2.1)))), some (.inl (M 16 (4 * (r - 1) + ((if (P.2.2 m i).1 = 3 ∨ (P.2.2 m i).1 = 5 then (P.2.2 m i).2.2.1 else (P.2.2 m i).2.1))))), some (.inl (nI (5 * (4 * (r - 1) + ((if (P.2.2 m i).1 = 3 ∨ (P.2.2 m i).1 = 5 then (P.2.2 m i).2.2.1 else (P.2.2 m i).2.1)))))), some (.inl (nI (5 * (4 * (r - 1) + ((if (P.2.2 m i).1 = 3 ∨ (P.2.2 m i).1 = 5 then (P.2.2 m i).2.2.1 else (P.2.2 m i).2.1))) + ((P.2.2 m i).2.2.2.1)))), some (.inl (M 18 (5 * (4 * (r - 1) + ((if (P.2.2 m i).1 = 3 ∨ (P.2.2 m i).1 = 5 then (P.2.2 m i).2.2.1 else (P.2.2 m i).2.1))) + 4)))] [] M
                      refine fm_aload_n (pq := 298) hX d_R_fields_297 rfl rfl rfl ?_
                      refine fm_iload_n (pq := 299) hX d_R_fields_298 rfl rfl rfl ?_
                      refine fm_iload (pq := 301) hX d_R_fields_299 rfl rfl ?_
                      refine fm_iconst (pq := 302) (v := nI 4) hX d_R_fields_301 (by decide) rfl ?_
                      refine fm_iadd (pq := 303) (v := nI (5 * (4 * (r - 1) + ((if (P.2.2 m i).1 = 3 ∨ (P.2.2 m i).1 = 5 then (P.2.2 m i).2.2.1 else (P.2.2 m i).2.1))) + 4)) hX d_R_fields_302 (nI_add _ _) rfl ?_
                      refine fm_iload_n (pq := 304) hX d_R_fields_303 rfl rfl rfl ?_
                      refine fm_bipush (pq := 306) (v := nI 10) hX d_R_fields_304 (by decide) rfl ?_
                      refine fm_n_ne (tgt := 316) (pq := 309) hX d_R_fields_306 rfl rfl (by omega) (by omega) (fun h306 => ?_) (fun h306 => ?_)
                      · show fm_G SR Y_R_fields X M (fm_vv (rm_fl M r 18 (5 * (4 * (r - 1) + (if (P.2.2 m i).1 = 3 ∨ (P.2.2 m i).1 = 5 then (P.2.2 m i).2.2.1 else (P.2.2 m i).2.1))) (P.2.2 m i))) 316 [some (.inr 0), some (.inl (nI (24 * m + i))), some (.inl (nI 1)), some (.inl (nI ((P.2.2 m i).1))), some (.inl (nI (4 * (r - 1)))), some (.inl (nI ((if (P.2.2 m i).1 = 3 ∨ (P.2.2 m i).1 = 5 then (P.2.2 m i).2.2.1 else (P.2.2 m i).2.1)))), some (.inl (M 16 (4 * (r - 1) + ((if (P.2.2 m i).1 = 3 ∨ (P.2.2 m i).1 = 5 then (P.2.2 m i).2.2.1 else (P.2.2 m i).2.1))))), some (.inl (nI (5 * (4 * (r - 1) + ((if (P.2.2 m i).1 = 3 ∨ (P.2.2 m i).1 = 5 then (P.2.2 m i).2.2.1 else (P.2.2 m i).2.1)))))), some (.inl (nI (5 * (4 * (r - 1) + ((if (P.2.2 m i).1 = 3 ∨ (P.2.2 m i).1 = 5 then (P.2.2 m i).2.2.1 else (P.2.2 m i).2.1))) + ((P.2.2 m i).2.2.2.1)))), some (.inl (M 18 (5 * (4 * (r - 1) + ((if (P.2.2 m i).1 = 3 ∨ (P.2.2 m i).1 = 5 then (P.2.2 m i).2.2.1 else (P.2.2 m i).2.1))) + 4)))] [.inl (nI (5 * (4 * (r - 1) + ((if (P.2.2 m i).1 = 3 ∨ (P.2.2 m i).1 = 5 then (P.2.2 m i).2.2.1 else (P.2.2 m i).2.1))) + 4)), .inl (nI 1), .inr 0] M
                        refine fm_iload (pq := 318) hX d_R_fields_316 rfl rfl ?_
                        refine fm_iconst (pq := 319) (v := nI 1) hX d_R_fields_318 (by decide) rfl ?_
                        refine fm_isub (pq := 320) (v := (M 18 (5 * (4 * (r - 1) + ((if (P.2.2 m i).1 = 3 ∨ (P.2.2 m i).1 = 5 then (P.2.2 m i).2.2.1 else (P.2.2 m i).2.1))) + 4)) - (nI 1)) hX d_R_fields_319 rfl rfl ?_
                        refine fm_callV_v (as := [.inl (nI 1), .inl (nI (5 * (4 * (r - 1) + ((if (P.2.2 m i).1 = 3 ∨ (P.2.2 m i).1 = 5 then (P.2.2 m i).2.2.1 else (P.2.2 m i).2.1))) + 4)), .inl ((M 18 (5 * (4 * (r - 1) + ((if (P.2.2 m i).1 = 3 ∨ (P.2.2 m i).1 = 5 then (P.2.2 m i).2.2.1 else (P.2.2 m i).2.1))) + 4)) - (nI 1))]) (st := []) (pq := 323) hX rfl rfl cR_163 rfl im_R_set se_R_set (k_R_set1 M (c := 5 * (4 * (r - 1) + ((if (P.2.2 m i).1 = 3 ∨ (P.2.2 m i).1 = 5 then (P.2.2 m i).2.2.1 else (P.2.2 m i).2.1))) + 4) (by omega) ((M 18 (5 * (4 * (r - 1) + ((if (P.2.2 m i).1 = 3 ∨ (P.2.2 m i).1 = 5 then (P.2.2 m i).2.2.1 else (P.2.2 m i).2.1))) + 4)) - (nI 1))) rfl rfl (Nat.le_of_ble_eq_true rfl) (Nat.le_of_ble_eq_true rfl) d_R_fields_320 rfl ?_
                        refine fm_aload_n (pq := 324) hX d_R_fields_323 rfl rfl rfl ?_
                        refine fm_dup (pq := 325) hX d_R_fields_324 rfl ?_
                        refine fm_geti (pq := 328) (v := M 0 27) hX fR_167 rfl rfl (by first | rfl | simp [fm_up]) d_R_fields_325 rfl ?_
                        refine fm_iload_n (pq := 329) hX d_R_fields_328 rfl rfl rfl ?_
                        refine fm_z_eq (tgt := 336) (pq := 332) hX d_R_fields_329 rfl rfl (by omega) (fun h329 => ?_) (fun h329 => ?_)
                        · exact absurd h329 (by decide)
                        · show fm_G SR Y_R_fields X M (fm_vv (rm_fl M r 18 (5 * (4 * (r - 1) + (if (P.2.2 m i).1 = 3 ∨ (P.2.2 m i).1 = 5 then (P.2.2 m i).2.2.1 else (P.2.2 m i).2.1))) (P.2.2 m i))) 332 [some (.inr 0), some (.inl (nI (24 * m + i))), some (.inl (nI 1)), some (.inl (nI ((P.2.2 m i).1))), some (.inl (nI (4 * (r - 1)))), some (.inl (nI ((if (P.2.2 m i).1 = 3 ∨ (P.2.2 m i).1 = 5 then (P.2.2 m i).2.2.1 else (P.2.2 m i).2.1)))), some (.inl (M 16 (4 * (r - 1) + ((if (P.2.2 m i).1 = 3 ∨ (P.2.2 m i).1 = 5 then (P.2.2 m i).2.2.1 else (P.2.2 m i).2.1))))), some (.inl (nI (5 * (4 * (r - 1) + ((if (P.2.2 m i).1 = 3 ∨ (P.2.2 m i).1 = 5 then (P.2.2 m i).2.2.1 else (P.2.2 m i).2.1)))))), some (.inl (nI (5 * (4 * (r - 1) + ((if (P.2.2 m i).1 = 3 ∨ (P.2.2 m i).1 = 5 then (P.2.2 m i).2.2.1 else (P.2.2 m i).2.1))) + ((P.2.2 m i).2.2.2.1)))), some (.inl (M 18 (5 * (4 * (r - 1) + ((if (P.2.2 m i).1 = 3 ∨ (P.2.2 m i).1 = 5 then (P.2.2 m i).2.2.1 else (P.2.2 m i).2.1))) + 4)))] [.inl (M 0 27), .inr 0] (fm_up M 18 (5 * (4 * (r - 1) + ((if (P.2.2 m i).1 = 3 ∨ (P.2.2 m i).1 = 5 then (P.2.2 m i).2.2.1 else (P.2.2 m i).2.1))) + 4) ((M 18 (5 * (4 * (r - 1) + ((if (P.2.2 m i).1 = 3 ∨ (P.2.2 m i).1 = 5 then (P.2.2 m i).2.2.1 else (P.2.2 m i).2.1))) + 4)) - (nI 1)))
                          refine fm_iconst (pq := 333) (v := nI 0) hX d_R_fields_332 (by decide) rfl ?_
                          refine fm_goto (tgt := 337) hX d_R_fields_333 rfl ?_
                          refine fm_iadd (pq := 338) (v := (M 0 27) + (nI 0)) hX d_R_fields_337 rfl rfl ?_
                          refine fm_puti (pq := 341) hX fR_167 pR_27 rfl rfl rfl rfl d_R_fields_338 rfl ?_
                          refine fm_vret hX rfl d_R_fields_341 ?_
                          refine ⟨rfl, ?_⟩
                          first
                             | (exfalso; omega)
                             | exact (rm_fl_3 h104).symm
                             | exact (rm_fl_5 h147).symm
                             | exact (rm_fl_4 h194).symm
                             | exact (rm_fl_6 h224).symm
                             | exact (rm_fl_v h283 h288).symm
                             | exact (rm_fl_u h283 h288).symm
                             | exact (rm_fl_k h306).symm
                      · show fm_G SR Y_R_fields X M (fm_vv (rm_fl M r 18 (5 * (4 * (r - 1) + (if (P.2.2 m i).1 = 3 ∨ (P.2.2 m i).1 = 5 then (P.2.2 m i).2.2.1 else (P.2.2 m i).2.1))) (P.2.2 m i))) 309 [some (.inr 0), some (.inl (nI (24 * m + i))), some (.inl (nI 1)), some (.inl (nI ((P.2.2 m i).1))), some (.inl (nI (4 * (r - 1)))), some (.inl (nI ((if (P.2.2 m i).1 = 3 ∨ (P.2.2 m i).1 = 5 then (P.2.2 m i).2.2.1 else (P.2.2 m i).2.1)))), some (.inl (M 16 (4 * (r - 1) + ((if (P.2.2 m i).1 = 3 ∨ (P.2.2 m i).1 = 5 then (P.2.2 m i).2.2.1 else (P.2.2 m i).2.1))))), some (.inl (nI (5 * (4 * (r - 1) + ((if (P.2.2 m i).1 = 3 ∨ (P.2.2 m i).1 = 5 then (P.2.2 m i).2.2.1 else (P.2.2 m i).2.1)))))), some (.inl (nI (5 * (4 * (r - 1) + ((if (P.2.2 m i).1 = 3 ∨ (P.2.2 m i).1 = 5 then (P.2.2 m i).2.2.1 else (P.2.2 m i).2.1))) + ((P.2.2 m i).2.2.2.1)))), some (.inl (M 18 (5 * (4 * (r - 1) + ((if (P.2.2 m i).1 = 3 ∨ (P.2.2 m i).1 = 5 then (P.2.2 m i).2.2.1 else (P.2.2 m i).2.1))) + 4)))] [.inl (nI (5 * (4 * (r - 1) + ((if (P.2.2 m i).1 = 3 ∨ (P.2.2 m i).1 = 5 then (P.2.2 m i).2.2.1 else (P.2.2 m i).2.1))) + 4)), .inl (nI 1), .inr 0] M
                        refine fm_iload (pq := 311) hX d_R_fields_309 rfl rfl ?_
                        refine fm_iconst (pq := 312) (v := nI 1) hX d_R_fields_311 (by decide) rfl ?_
                        refine fm_iadd (pq := 313) (v := (M 18 (5 * (4 * (r - 1) + ((if (P.2.2 m i).1 = 3 ∨ (P.2.2 m i).1 = 5 then (P.2.2 m i).2.2.1 else (P.2.2 m i).2.1))) + 4)) + (nI 1)) hX d_R_fields_312 rfl rfl ?_
                        refine fm_goto (tgt := 320) hX d_R_fields_313 rfl ?_
                        refine fm_callV_v (as := [.inl (nI 1), .inl (nI (5 * (4 * (r - 1) + ((if (P.2.2 m i).1 = 3 ∨ (P.2.2 m i).1 = 5 then (P.2.2 m i).2.2.1 else (P.2.2 m i).2.1))) + 4)), .inl ((M 18 (5 * (4 * (r - 1) + ((if (P.2.2 m i).1 = 3 ∨ (P.2.2 m i).1 = 5 then (P.2.2 m i).2.2.1 else (P.2.2 m i).2.1))) + 4)) + (nI 1))]) (st := []) (pq := 323) hX rfl rfl cR_163 rfl im_R_set se_R_set (k_R_set1 M (c := 5 * (4 * (r - 1) + ((if (P.2.2 m i).1 = 3 ∨ (P.2.2 m i).1 = 5 then (P.2.2 m i).2.2.1 else (P.2.2 m i).2.1))) + 4) (by omega) ((M 18 (5 * (4 * (r - 1) + ((if (P.2.2 m i).1 = 3 ∨ (P.2.2 m i).1 = 5 then (P.2.2 m i).2.2.1 else (P.2.2 m i).2.1))) + 4)) + (nI 1))) rfl rfl (Nat.le_of_ble_eq_true rfl) (Nat.le_of_ble_eq_true rfl) d_R_fields_320 rfl ?_
                        refine fm_aload_n (pq := 324) hX d_R_fields_323 rfl rfl rfl ?_
                        refine fm_dup (pq := 325) hX d_R_fields_324 rfl ?_
                        refine fm_geti (pq := 328) (v := M 0 27) hX fR_167 rfl rfl (by first | rfl | simp [fm_up]) d_R_fields_325 rfl ?_
                        refine fm_iload_n (pq := 329) hX d_R_fields_328 rfl rfl rfl ?_
                        refine fm_z_eq (tgt := 336) (pq := 332) hX d_R_fields_329 rfl rfl (by omega) (fun h329 => ?_) (fun h329 => ?_)
                        · exact absurd h329 (by decide)
                        · show fm_G SR Y_R_fields X M (fm_vv (rm_fl M r 18 (5 * (4 * (r - 1) + (if (P.2.2 m i).1 = 3 ∨ (P.2.2 m i).1 = 5 then (P.2.2 m i).2.2.1 else (P.2.2 m i).2.1))) (P.2.2 m i))) 332 [some (.inr 0), some (.inl (nI (24 * m + i))), some (.inl (nI 1)), some (.inl (nI ((P.2.2 m i).1))), some (.inl (nI (4 * (r - 1)))), some (.inl (nI ((if (P.2.2 m i).1 = 3 ∨ (P.2.2 m i).1 = 5 then (P.2.2 m i).2.2.1 else (P.2.2 m i).2.1)))), some (.inl (M 16 (4 * (r - 1) + ((if (P.2.2 m i).1 = 3 ∨ (P.2.2 m i).1 = 5 then (P.2.2 m i).2.2.1 else (P.2.2 m i).2.1))))), some (.inl (nI (5 * (4 * (r - 1) + ((if (P.2.2 m i).1 = 3 ∨ (P.2.2 m i).1 = 5 then (P.2.2 m i).2.2.1 else (P.2.2 m i).2.1)))))), some (.inl (nI (5 * (4 * (r - 1) + ((if (P.2.2 m i).1 = 3 ∨ (P.2.2 m i).1 = 5 then (P.2.2 m i).2.2.1 else (P.2.2 m i).2.1))) + ((P.2.2 m i).2.2.2.1)))), some (.inl (M 18 (5 * (4 * (r - 1) + ((if (P.2.2 m i).1 = 3 ∨ (P.2.2 m i).1 = 5 then (P.2.2 m i).2.2.1 else (P.2.2 m i).2.1))) + 4)))] [.inl (M 0 27), .inr 0] (fm_up M 18 (5 * (4 * (r - 1) + ((if (P.2.2 m i).1 = 3 ∨ (P.2.2 m i).1 = 5 then (P.2.2 m i).2.2.1 else (P.2.2 m i).2.1))) + 4) ((M 18 (5 * (4 * (r - 1) + ((if (P.2.2 m i).1 = 3 ∨ (P.2.2 m i).1 = 5 then (P.2.2 m i).2.2.1 else (P.2.2 m i).2.1))) + 4)) + (nI 1)))
                          refine fm_iconst (pq := 333) (v := nI 0) hX d_R_fields_332 (by decide) rfl ?_
                          refine fm_goto (tgt := 337) hX d_R_fields_333 rfl ?_
                          refine fm_iadd (pq := 338) (v := (M 0 27) + (nI 0)) hX d_R_fields_337 rfl rfl ?_
                          refine fm_puti (pq := 341) hX fR_167 pR_27 rfl rfl rfl rfl d_R_fields_338 rfl ?_
                          refine fm_vret hX rfl d_R_fields_341 ?_
                          refine ⟨rfl, ?_⟩
                          first
                             | (exfalso; omega)
                             | exact (rm_fl_3 h104).symm
                             | exact (rm_fl_5 h147).symm
                             | exact (rm_fl_4 h194).symm
                             | exact (rm_fl_6 h224).symm
                             | exact (rm_fl_v h283 h288).symm
                             | exact (rm_fl_u h283 h288).symm
                             | exact (rm_fl_k h306).symm
                    · show fm_G SR Y_R_fields X M (fm_vv (rm_fl M r 18 (5 * (4 * (r - 1) + (if (P.2.2 m i).1 = 3 ∨ (P.2.2 m i).1 = 5 then (P.2.2 m i).2.2.1 else (P.2.2 m i).2.1))) (P.2.2 m i))) 291 [some (.inr 0), some (.inl (nI (24 * m + i))), some (.inl (nI 1)), some (.inl (nI ((P.2.2 m i).1))), some (.inl (nI (4 * (r - 1)))), some (.inl (nI ((if (P.2.2 m i).1 = 3 ∨ (P.2.2 m i).1 = 5 then (P.2.2 m i).2.2.1 else (P.2.2 m i).2.1)))), some (.inl (M 16 (4 * (r - 1) + ((if (P.2.2 m i).1 = 3 ∨ (P.2.2 m i).1 = 5 then (P.2.2 m i).2.2.1 else (P.2.2 m i).2.1))))), some (.inl (nI (5 * (4 * (r - 1) + ((if (P.2.2 m i).1 = 3 ∨ (P.2.2 m i).1 = 5 then (P.2.2 m i).2.2.1 else (P.2.2 m i).2.1)))))), some (.inl (nI (5 * (4 * (r - 1) + ((if (P.2.2 m i).1 = 3 ∨ (P.2.2 m i).1 = 5 then (P.2.2 m i).2.2.1 else (P.2.2 m i).2.1))) + ((P.2.2 m i).2.2.2.1)))), some (.inl (M 18 (5 * (4 * (r - 1) + ((if (P.2.2 m i).1 = 3 ∨ (P.2.2 m i).1 = 5 then (P.2.2 m i).2.2.1 else (P.2.2 m i).2.1))) + 4)))] [] M
                      refine fm_aload_n (pq := 292) hX d_R_fields_291 rfl rfl rfl ?_
                      refine fm_iconst (pq := 293) (v := nI 2) hX d_R_fields_292 (by decide) rfl ?_
                      refine fm_puti (pq := 296) hX fR_160 pR_24 rfl rfl rfl rfl d_R_fields_293 rfl ?_
                      refine fm_vret hX rfl d_R_fields_296 ?_
                      refine ⟨rfl, ?_⟩
                      first
                         | (exfalso; omega)
                         | exact (rm_fl_3 h104).symm
                         | exact (rm_fl_5 h147).symm
                         | exact (rm_fl_4 h194).symm
                         | exact (rm_fl_6 h224).symm
                         | exact (rm_fl_v h283 h288).symm
                         | exact (rm_fl_u h283 h288).symm
                         | exact (rm_fl_k h306).symm
              · show fm_G SR Y_R_fields X M (fm_vv (rm_fl M r 18 (5 * (4 * (r - 1) + (if (P.2.2 m i).1 = 3 ∨ (P.2.2 m i).1 = 5 then (P.2.2 m i).2.2.1 else (P.2.2 m i).2.1))) (P.2.2 m i))) 227 [some (.inr 0), some (.inl (nI (24 * m + i))), some (.inl (nI 1)), some (.inl (nI ((P.2.2 m i).1))), some (.inl (nI (4 * (r - 1)))), some (.inl (nI ((if (P.2.2 m i).1 = 3 ∨ (P.2.2 m i).1 = 5 then (P.2.2 m i).2.2.1 else (P.2.2 m i).2.1)))), some (.inl (M 16 (4 * (r - 1) + ((if (P.2.2 m i).1 = 3 ∨ (P.2.2 m i).1 = 5 then (P.2.2 m i).2.2.1 else (P.2.2 m i).2.1))))), some (.inl (nI (5 * (4 * (r - 1) + ((if (P.2.2 m i).1 = 3 ∨ (P.2.2 m i).1 = 5 then (P.2.2 m i).2.2.1 else (P.2.2 m i).2.1)))))), some (.inl (nI (5 * (4 * (r - 1) + ((if (P.2.2 m i).1 = 3 ∨ (P.2.2 m i).1 = 5 then (P.2.2 m i).2.2.1 else (P.2.2 m i).2.1))) + ((P.2.2 m i).2.2.2.1)))), none] [] M
                refine fm_aload_n (pq := 228) hX d_R_fields_227 rfl rfl rfl ?_
                refine fm_iload_n (pq := 229) hX d_R_fields_228 rfl rfl rfl ?_
                refine fm_iload (pq := 231) hX d_R_fields_229 rfl rfl ?_
                refine fm_iconst (pq := 232) (v := nI 2) hX d_R_fields_231 (by decide) rfl ?_
                refine fm_iadd (pq := 233) (v := nI (5 * (4 * (r - 1) + ((if (P.2.2 m i).1 = 3 ∨ (P.2.2 m i).1 = 5 then (P.2.2 m i).2.2.1 else (P.2.2 m i).2.1))) + ((P.2.2 m i).2.2.2.1) + 2)) hX d_R_fields_232 (nI_add _ _) rfl ?_
                refine fm_aload_n (pq := 234) hX d_R_fields_233 rfl rfl rfl ?_
                refine fm_getr (pq := 237) (q := 17) hX fR_59 rfl rfl d_R_fields_234 rfl ?_
                refine fm_iload (pq := 239) hX d_R_fields_237 rfl rfl ?_
                refine fm_aload_n (pq := 240) hX d_R_fields_239 rfl rfl rfl ?_
                refine fm_getr (pq := 243) (q := 5) hX fR_22 rfl rfl d_R_fields_240 rfl ?_
                refine fm_iload_n (pq := 244) hX d_R_fields_243 rfl rfl rfl ?_
                refine fm_iald (pq := 245) (v := nI ((P.2.2 m i).2.2.1)) hX rfl rfl rfl (by omega) (by decide) ((hP m (by omega)).2.2 i (by omega)).2.2.1 d_R_fields_244 rfl ?_
                refine fm_iadd (pq := 246) (v := nI (4 * (r - 1) + ((P.2.2 m i).2.2.1))) hX d_R_fields_245 (nI_add _ _) rfl ?_
                refine fm_iald (pq := 247) (v := M 17 (4 * (r - 1) + ((P.2.2 m i).2.2.1))) hX rfl rfl rfl (by omega) (by decide) rfl d_R_fields_246 rfl ?_
                refine fm_callV_v (as := [.inl (nI 1), .inl (nI (5 * (4 * (r - 1) + ((if (P.2.2 m i).1 = 3 ∨ (P.2.2 m i).1 = 5 then (P.2.2 m i).2.2.1 else (P.2.2 m i).2.1))) + ((P.2.2 m i).2.2.2.1) + 2)), .inl (M 17 (4 * (r - 1) + ((P.2.2 m i).2.2.1)))]) (st := []) (pq := 250) hX rfl rfl cR_163 rfl im_R_set se_R_set (k_R_set1 M (c := 5 * (4 * (r - 1) + ((if (P.2.2 m i).1 = 3 ∨ (P.2.2 m i).1 = 5 then (P.2.2 m i).2.2.1 else (P.2.2 m i).2.1))) + ((P.2.2 m i).2.2.2.1) + 2) (by omega) (M 17 (4 * (r - 1) + ((P.2.2 m i).2.2.1)))) rfl rfl (Nat.le_of_ble_eq_true rfl) (Nat.le_of_ble_eq_true rfl) d_R_fields_247 rfl ?_
                refine fm_goto (tgt := 341) hX d_R_fields_250 rfl ?_
                refine fm_vret hX rfl d_R_fields_341 ?_
                refine ⟨rfl, ?_⟩
                first
                   | (exfalso; omega)
                   | exact (rm_fl_3 h104).symm
                   | exact (rm_fl_5 h147).symm
                   | exact (rm_fl_4 h194).symm
                   | exact (rm_fl_6 h224).symm
                   | exact (rm_fl_v h283 h288).symm
                   | exact (rm_fl_u h283 h288).symm
                   | exact (rm_fl_k h306).symm
            · show fm_G SR Y_R_fields X M (fm_vv (rm_fl M r 18 (5 * (4 * (r - 1) + (if (P.2.2 m i).1 = 3 ∨ (P.2.2 m i).1 = 5 then (P.2.2 m i).2.2.1 else (P.2.2 m i).2.1))) (P.2.2 m i))) 197 [some (.inr 0), some (.inl (nI (24 * m + i))), some (.inl (nI 1)), some (.inl (nI ((P.2.2 m i).1))), some (.inl (nI (4 * (r - 1)))), some (.inl (nI ((if (P.2.2 m i).1 = 3 ∨ (P.2.2 m i).1 = 5 then (P.2.2 m i).2.2.1 else (P.2.2 m i).2.1)))), some (.inl (M 16 (4 * (r - 1) + ((if (P.2.2 m i).1 = 3 ∨ (P.2.2 m i).1 = 5 then (P.2.2 m i).2.2.1 else (P.2.2 m i).2.1))))), some (.inl (nI (5 * (4 * (r - 1) + ((if (P.2.2 m i).1 = 3 ∨ (P.2.2 m i).1 = 5 then (P.2.2 m i).2.2.1 else (P.2.2 m i).2.1)))))), some (.inl (nI (5 * (4 * (r - 1) + ((if (P.2.2 m i).1 = 3 ∨ (P.2.2 m i).1 = 5 then (P.2.2 m i).2.2.1 else (P.2.2 m i).2.1))) + ((P.2.2 m i).2.2.2.1)))), none] [] M
              refine fm_aload_n (pq := 198) hX d_R_fields_197 rfl rfl rfl ?_
              refine fm_iload_n (pq := 199) hX d_R_fields_198 rfl rfl rfl ?_
              refine fm_iload (pq := 201) hX d_R_fields_199 rfl rfl ?_
              refine fm_aload_n (pq := 202) hX d_R_fields_201 rfl rfl rfl ?_
              refine fm_getr (pq := 205) (q := 16) hX fR_56 rfl rfl d_R_fields_202 rfl ?_
              refine fm_iload (pq := 207) hX d_R_fields_205 rfl rfl ?_
              refine fm_aload_n (pq := 208) hX d_R_fields_207 rfl rfl rfl ?_
              refine fm_getr (pq := 211) (q := 5) hX fR_22 rfl rfl d_R_fields_208 rfl ?_
              refine fm_iload_n (pq := 212) hX d_R_fields_211 rfl rfl rfl ?_
              refine fm_iald (pq := 213) (v := nI ((P.2.2 m i).2.2.1)) hX rfl rfl rfl (by omega) (by decide) ((hP m (by omega)).2.2 i (by omega)).2.2.1 d_R_fields_212 rfl ?_
              refine fm_iadd (pq := 214) (v := nI (4 * (r - 1) + ((P.2.2 m i).2.2.1))) hX d_R_fields_213 (nI_add _ _) rfl ?_
              refine fm_iald (pq := 215) (v := M 16 (4 * (r - 1) + ((P.2.2 m i).2.2.1))) hX rfl rfl rfl (by omega) (by decide) rfl d_R_fields_214 rfl ?_
              refine fm_callV_v (as := [.inl (nI 1), .inl (nI (5 * (4 * (r - 1) + ((if (P.2.2 m i).1 = 3 ∨ (P.2.2 m i).1 = 5 then (P.2.2 m i).2.2.1 else (P.2.2 m i).2.1))) + ((P.2.2 m i).2.2.2.1))), .inl (M 16 (4 * (r - 1) + ((P.2.2 m i).2.2.1)))]) (st := []) (pq := 218) hX rfl rfl cR_163 rfl im_R_set se_R_set (k_R_set1 M (c := 5 * (4 * (r - 1) + ((if (P.2.2 m i).1 = 3 ∨ (P.2.2 m i).1 = 5 then (P.2.2 m i).2.2.1 else (P.2.2 m i).2.1))) + ((P.2.2 m i).2.2.2.1)) (by omega) (M 16 (4 * (r - 1) + ((P.2.2 m i).2.2.1)))) rfl rfl (Nat.le_of_ble_eq_true rfl) (Nat.le_of_ble_eq_true rfl) d_R_fields_215 rfl ?_
              refine fm_goto (tgt := 341) hX d_R_fields_218 rfl ?_
              refine fm_vret hX rfl d_R_fields_341 ?_
              refine ⟨rfl, ?_⟩
              first
                 | (exfalso; omega)
                 | exact (rm_fl_3 h104).symm
                 | exact (rm_fl_5 h147).symm
                 | exact (rm_fl_4 h194).symm
                 | exact (rm_fl_6 h224).symm
                 | exact (rm_fl_v h283 h288).symm
                 | exact (rm_fl_u h283 h288).symm
                 | exact (rm_fl_k h306).symm
          · show fm_G SR Y_R_fields X M (fm_vv (rm_fl M r 18 (5 * (4 * (r - 1) + (if (P.2.2 m i).1 = 3 ∨ (P.2.2 m i).1 = 5 then (P.2.2 m i).2.2.1 else (P.2.2 m i).2.1))) (P.2.2 m i))) 150 [some (.inr 0), some (.inl (nI (24 * m + i))), some (.inl (nI 1)), some (.inl (nI ((P.2.2 m i).1))), some (.inl (nI (4 * (r - 1)))), some (.inl (nI ((if (P.2.2 m i).1 = 3 ∨ (P.2.2 m i).1 = 5 then (P.2.2 m i).2.2.1 else (P.2.2 m i).2.1)))), some (.inl (M 16 (4 * (r - 1) + ((if (P.2.2 m i).1 = 3 ∨ (P.2.2 m i).1 = 5 then (P.2.2 m i).2.2.1 else (P.2.2 m i).2.1))))), some (.inl (nI (5 * (4 * (r - 1) + ((if (P.2.2 m i).1 = 3 ∨ (P.2.2 m i).1 = 5 then (P.2.2 m i).2.2.1 else (P.2.2 m i).2.1)))))), some (.inl (nI (5 * (4 * (r - 1) + ((if (P.2.2 m i).1 = 3 ∨ (P.2.2 m i).1 = 5 then (P.2.2 m i).2.2.1 else (P.2.2 m i).2.1))) + ((P.2.2 m i).2.2.2.1)))), none] [] M
            refine fm_aload_n (pq := 151) hX d_R_fields_150 rfl rfl rfl ?_
            refine fm_getr (pq := 154) (q := 17) hX fR_59 rfl rfl d_R_fields_151 rfl ?_
            refine fm_iload (pq := 156) hX d_R_fields_154 rfl rfl ?_
            refine fm_aload_n (pq := 157) hX d_R_fields_156 rfl rfl rfl ?_
            refine fm_getr (pq := 160) (q := 4) hX fR_19 rfl rfl d_R_fields_157 rfl ?_
            refine fm_iload_n (pq := 161) hX d_R_fields_160 rfl rfl rfl ?_
            refine fm_iald (pq := 162) (v := nI ((P.2.2 m i).2.1)) hX rfl rfl rfl (by omega) (by decide) ((hP m (by omega)).2.2 i (by omega)).2.1 d_R_fields_161 rfl ?_
            refine fm_iadd (pq := 163) (v := nI (4 * (r - 1) + ((P.2.2 m i).2.1))) hX d_R_fields_162 (nI_add _ _) rfl ?_
            refine fm_iload_n (pq := 164) hX d_R_fields_163 rfl rfl rfl ?_
            refine fm_z_eq (tgt := 179) (pq := 167) hX d_R_fields_164 rfl rfl (by omega) (fun h164 => ?_) (fun h164 => ?_)
            · exact absurd h164 (by decide)
            · show fm_G SR Y_R_fields X M (fm_vv (rm_fl M r 18 (5 * (4 * (r - 1) + (if (P.2.2 m i).1 = 3 ∨ (P.2.2 m i).1 = 5 then (P.2.2 m i).2.2.1 else (P.2.2 m i).2.1))) (P.2.2 m i))) 167 [some (.inr 0), some (.inl (nI (24 * m + i))), some (.inl (nI 1)), some (.inl (nI ((P.2.2 m i).1))), some (.inl (nI (4 * (r - 1)))), some (.inl (nI ((if (P.2.2 m i).1 = 3 ∨ (P.2.2 m i).1 = 5 then (P.2.2 m i).2.2.1 else (P.2.2 m i).2.1)))), some (.inl (M 16 (4 * (r - 1) + ((if (P.2.2 m i).1 = 3 ∨ (P.2.2 m i).1 = 5 then (P.2.2 m i).2.2.1 else (P.2.2 m i).2.1))))), some (.inl (nI (5 * (4 * (r - 1) + ((if (P.2.2 m i).1 = 3 ∨ (P.2.2 m i).1 = 5 then (P.2.2 m i).2.2.1 else (P.2.2 m i).2.1)))))), some (.inl (nI (5 * (4 * (r - 1) + ((if (P.2.2 m i).1 = 3 ∨ (P.2.2 m i).1 = 5 then (P.2.2 m i).2.2.1 else (P.2.2 m i).2.1))) + ((P.2.2 m i).2.2.2.1)))), none] [.inl (nI (4 * (r - 1) + ((P.2.2 m i).2.1))), .inr 17] M
              refine fm_aload_n (pq := 168) hX d_R_fields_167 rfl rfl rfl ?_
              refine fm_getr (pq := 171) (q := 18) hX fR_62 rfl rfl d_R_fields_168 rfl ?_
              refine fm_iload (pq := 173) hX d_R_fields_171 rfl rfl ?_
              refine fm_iconst (pq := 174) (v := nI 2) hX d_R_fields_173 (by decide) rfl ?_
              refine fm_iadd (pq := 175) (v := nI (5 * (4 * (r - 1) + ((if (P.2.2 m i).1 = 3 ∨ (P.2.2 m i).1 = 5 then (P.2.2 m i).2.2.1 else (P.2.2 m i).2.1))) + ((P.2.2 m i).2.2.2.1) + 2)) hX d_R_fields_174 (nI_add _ _) rfl ?_
              refine fm_iald (pq := 176) (v := M 18 (5 * (4 * (r - 1) + ((if (P.2.2 m i).1 = 3 ∨ (P.2.2 m i).1 = 5 then (P.2.2 m i).2.2.1 else (P.2.2 m i).2.1))) + ((P.2.2 m i).2.2.2.1) + 2)) hX rfl rfl rfl (by omega) (by decide) rfl d_R_fields_175 rfl ?_
              refine fm_goto (tgt := 188) hX d_R_fields_176 rfl ?_
              refine fm_iast (pq := 189) hX rfl rfl rfl (by omega) (by decide) d_R_fields_188 rfl ?_
              refine fm_goto (tgt := 341) hX d_R_fields_189 rfl ?_
              refine fm_vret hX rfl d_R_fields_341 ?_
              refine ⟨rfl, ?_⟩
              first
                 | (exfalso; omega)
                 | exact (rm_fl_3 h104).symm
                 | exact (rm_fl_5 h147).symm
                 | exact (rm_fl_4 h194).symm
                 | exact (rm_fl_6 h224).symm
                 | exact (rm_fl_v h283 h288).symm
                 | exact (rm_fl_u h283 h288).symm
                 | exact (rm_fl_k h306).symm
        · show fm_G SR Y_R_fields X M (fm_vv (rm_fl M r 18 (5 * (4 * (r - 1) + (if (P.2.2 m i).1 = 3 ∨ (P.2.2 m i).1 = 5 then (P.2.2 m i).2.2.1 else (P.2.2 m i).2.1))) (P.2.2 m i))) 107 [some (.inr 0), some (.inl (nI (24 * m + i))), some (.inl (nI 1)), some (.inl (nI ((P.2.2 m i).1))), some (.inl (nI (4 * (r - 1)))), some (.inl (nI ((if (P.2.2 m i).1 = 3 ∨ (P.2.2 m i).1 = 5 then (P.2.2 m i).2.2.1 else (P.2.2 m i).2.1)))), some (.inl (M 16 (4 * (r - 1) + ((if (P.2.2 m i).1 = 3 ∨ (P.2.2 m i).1 = 5 then (P.2.2 m i).2.2.1 else (P.2.2 m i).2.1))))), some (.inl (nI (5 * (4 * (r - 1) + ((if (P.2.2 m i).1 = 3 ∨ (P.2.2 m i).1 = 5 then (P.2.2 m i).2.2.1 else (P.2.2 m i).2.1)))))), some (.inl (nI (5 * (4 * (r - 1) + ((if (P.2.2 m i).1 = 3 ∨ (P.2.2 m i).1 = 5 then (P.2.2 m i).2.2.1 else (P.2.2 m i).2.1))) + ((P.2.2 m i).2.2.2.1)))), none] [] M
          refine fm_aload_n (pq := 108) hX d_R_fields_107 rfl rfl rfl ?_
          refine fm_getr (pq := 111) (q := 16) hX fR_56 rfl rfl d_R_fields_108 rfl ?_
          refine fm_iload (pq := 113) hX d_R_fields_111 rfl rfl ?_
          refine fm_aload_n (pq := 114) hX d_R_fields_113 rfl rfl rfl ?_
          refine fm_getr (pq := 117) (q := 4) hX fR_19 rfl rfl d_R_fields_114 rfl ?_
          refine fm_iload_n (pq := 118) hX d_R_fields_117 rfl rfl rfl ?_
          refine fm_iald (pq := 119) (v := nI ((P.2.2 m i).2.1)) hX rfl rfl rfl (by omega) (by decide) ((hP m (by omega)).2.2 i (by omega)).2.1 d_R_fields_118 rfl ?_
          refine fm_iadd (pq := 120) (v := nI (4 * (r - 1) + ((P.2.2 m i).2.1))) hX d_R_fields_119 (nI_add _ _) rfl ?_
          refine fm_iload_n (pq := 121) hX d_R_fields_120 rfl rfl rfl ?_
          refine fm_z_eq (tgt := 134) (pq := 124) hX d_R_fields_121 rfl rfl (by omega) (fun h121 => ?_) (fun h121 => ?_)
          · exact absurd h121 (by decide)
          · show fm_G SR Y_R_fields X M (fm_vv (rm_fl M r 18 (5 * (4 * (r - 1) + (if (P.2.2 m i).1 = 3 ∨ (P.2.2 m i).1 = 5 then (P.2.2 m i).2.2.1 else (P.2.2 m i).2.1))) (P.2.2 m i))) 124 [some (.inr 0), some (.inl (nI (24 * m + i))), some (.inl (nI 1)), some (.inl (nI ((P.2.2 m i).1))), some (.inl (nI (4 * (r - 1)))), some (.inl (nI ((if (P.2.2 m i).1 = 3 ∨ (P.2.2 m i).1 = 5 then (P.2.2 m i).2.2.1 else (P.2.2 m i).2.1)))), some (.inl (M 16 (4 * (r - 1) + ((if (P.2.2 m i).1 = 3 ∨ (P.2.2 m i).1 = 5 then (P.2.2 m i).2.2.1 else (P.2.2 m i).2.1))))), some (.inl (nI (5 * (4 * (r - 1) + ((if (P.2.2 m i).1 = 3 ∨ (P.2.2 m i).1 = 5 then (P.2.2 m i).2.2.1 else (P.2.2 m i).2.1)))))), some (.inl (nI (5 * (4 * (r - 1) + ((if (P.2.2 m i).1 = 3 ∨ (P.2.2 m i).1 = 5 then (P.2.2 m i).2.2.1 else (P.2.2 m i).2.1))) + ((P.2.2 m i).2.2.2.1)))), none] [.inl (nI (4 * (r - 1) + ((P.2.2 m i).2.1))), .inr 16] M
            refine fm_aload_n (pq := 125) hX d_R_fields_124 rfl rfl rfl ?_
            refine fm_getr (pq := 128) (q := 18) hX fR_62 rfl rfl d_R_fields_125 rfl ?_
            refine fm_iload (pq := 130) hX d_R_fields_128 rfl rfl ?_
            refine fm_iald (pq := 131) (v := M 18 (5 * (4 * (r - 1) + ((if (P.2.2 m i).1 = 3 ∨ (P.2.2 m i).1 = 5 then (P.2.2 m i).2.2.1 else (P.2.2 m i).2.1))) + ((P.2.2 m i).2.2.2.1))) hX rfl rfl rfl (by omega) (by decide) rfl d_R_fields_130 rfl ?_
            refine fm_goto (tgt := 141) hX d_R_fields_131 rfl ?_
            refine fm_iast (pq := 142) hX rfl rfl rfl (by omega) (by decide) d_R_fields_141 rfl ?_
            refine fm_goto (tgt := 341) hX d_R_fields_142 rfl ?_
            refine fm_vret hX rfl d_R_fields_341 ?_
            refine ⟨rfl, ?_⟩
            first
               | (exfalso; omega)
               | exact (rm_fl_3 h104).symm
               | exact (rm_fl_5 h147).symm
               | exact (rm_fl_4 h194).symm
               | exact (rm_fl_6 h224).symm
               | exact (rm_fl_v h283 h288).symm
               | exact (rm_fl_u h283 h288).symm
               | exact (rm_fl_k h306).symm
    · exact absurd h57 (by decide)
  refine fm_iload_n (pq := 18) hX d_R_fields_17 rfl rfl rfl ?_
  refine fm_iconst (pq := 19) (v := nI 3) hX d_R_fields_18 (by decide) rfl ?_
  refine fm_n_eq (tgt := 27) (pq := 22) hX d_R_fields_19 rfl rfl (by omega) (by omega) (fun h19 => ?_) (fun h19 => ?_)
  · show fm_G SR Y_R_fields X M (fm_vv (rm_fl M r 18 (5 * (4 * (r - 1) + (if (P.2.2 m i).1 = 3 ∨ (P.2.2 m i).1 = 5 then (P.2.2 m i).2.2.1 else (P.2.2 m i).2.1))) (P.2.2 m i))) 27 [some (.inr 0), some (.inl (nI (24 * m + i))), some (.inl (nI 1)), some (.inl (nI ((P.2.2 m i).1))), some (.inl (nI (4 * (r - 1)))), none, none, none, none, none] [] M
    refine fm_aload_n (pq := 28) hX d_R_fields_27 rfl rfl rfl ?_
    refine fm_getr (pq := 31) (q := 5) hX fR_22 rfl rfl d_R_fields_28 rfl ?_
    refine fm_iload_n (pq := 32) hX d_R_fields_31 rfl rfl rfl ?_
    refine fm_iald (pq := 33) (v := nI ((P.2.2 m i).2.2.1)) hX rfl rfl rfl (by omega) (by decide) ((hP m (by omega)).2.2 i (by omega)).2.2.1 d_R_fields_32 rfl ?_
    refine fm_goto (tgt := 42) hX d_R_fields_33 rfl ?_
    first | exact L42 _ (by rw [if_pos (by omega)]) | exact L42 _ (by rw [if_neg (by omega)])
  · show fm_G SR Y_R_fields X M (fm_vv (rm_fl M r 18 (5 * (4 * (r - 1) + (if (P.2.2 m i).1 = 3 ∨ (P.2.2 m i).1 = 5 then (P.2.2 m i).2.2.1 else (P.2.2 m i).2.1))) (P.2.2 m i))) 22 [some (.inr 0), some (.inl (nI (24 * m + i))), some (.inl (nI 1)), some (.inl (nI ((P.2.2 m i).1))), some (.inl (nI (4 * (r - 1)))), none, none, none, none, none] [] M
    refine fm_iload_n (pq := 23) hX d_R_fields_22 rfl rfl rfl ?_
    refine fm_iconst (pq := 24) (v := nI 5) hX d_R_fields_23 (by decide) rfl ?_
    refine fm_n_ne (tgt := 36) (pq := 27) hX d_R_fields_24 rfl rfl (by omega) (by omega) (fun h24 => ?_) (fun h24 => ?_)
    · show fm_G SR Y_R_fields X M (fm_vv (rm_fl M r 18 (5 * (4 * (r - 1) + (if (P.2.2 m i).1 = 3 ∨ (P.2.2 m i).1 = 5 then (P.2.2 m i).2.2.1 else (P.2.2 m i).2.1))) (P.2.2 m i))) 36 [some (.inr 0), some (.inl (nI (24 * m + i))), some (.inl (nI 1)), some (.inl (nI ((P.2.2 m i).1))), some (.inl (nI (4 * (r - 1)))), none, none, none, none, none] [] M
      refine fm_aload_n (pq := 37) hX d_R_fields_36 rfl rfl rfl ?_
      refine fm_getr (pq := 40) (q := 4) hX fR_19 rfl rfl d_R_fields_37 rfl ?_
      refine fm_iload_n (pq := 41) hX d_R_fields_40 rfl rfl rfl ?_
      refine fm_iald (pq := 42) (v := nI ((P.2.2 m i).2.1)) hX rfl rfl rfl (by omega) (by decide) ((hP m (by omega)).2.2 i (by omega)).2.1 d_R_fields_41 rfl ?_
      first | exact L42 _ (by rw [if_pos (by omega)]) | exact L42 _ (by rw [if_neg (by omega)])
    · show fm_G SR Y_R_fields X M (fm_vv (rm_fl M r 18 (5 * (4 * (r - 1) + (if (P.2.2 m i).1 = 3 ∨ (P.2.2 m i).1 = 5 then (P.2.2 m i).2.2.1 else (P.2.2 m i).2.1))) (P.2.2 m i))) 27 [some (.inr 0), some (.inl (nI (24 * m + i))), some (.inl (nI 1)), some (.inl (nI ((P.2.2 m i).1))), some (.inl (nI (4 * (r - 1)))), none, none, none, none, none] [] M
      refine fm_aload_n (pq := 28) hX d_R_fields_27 rfl rfl rfl ?_
      refine fm_getr (pq := 31) (q := 5) hX fR_22 rfl rfl d_R_fields_28 rfl ?_
      refine fm_iload_n (pq := 32) hX d_R_fields_31 rfl rfl rfl ?_
      refine fm_iald (pq := 33) (v := nI ((P.2.2 m i).2.2.1)) hX rfl rfl rfl (by omega) (by decide) ((hP m (by omega)).2.2 i (by omega)).2.2.1 d_R_fields_32 rfl ?_
      refine fm_goto (tgt := 42) hX d_R_fields_33 rfl ?_
      first | exact L42 _ (by rw [if_pos (by omega)]) | exact L42 _ (by rw [if_neg (by omega)])
set_option maxRecDepth 100000 in
set_option maxHeartbeats 4000000 in
theorem k_R_fields0 {P : pr_T} {m i : Nat} (hm : m < 5) (hi : i < P.1 m) (M : fm_M) (hP : rP M P) (hw : pr_wf P) {r : Nat} (hr : M 0 14 = nI r) (h1 : 1 ≤ r) (h8 : r ≤ 8) (ho : (P.2.2 m i).1 = 3 ∨ (P.2.2 m i).1 = 4 ∨ (P.2.2 m i).1 = 5 ∨ (P.2.2 m i).1 = 6 ∨ (P.2.2 m i).1 = 10 ∨ (P.2.2 m i).1 = 11) {ob : Nat} (hob : M 16 (4 * (r - 1) + (if (P.2.2 m i).1 = 3 ∨ (P.2.2 m i).1 = 5 then (P.2.2 m i).2.2.1 else (P.2.2 m i).2.1)) = nI ob) (ho4 : ob ≤ 400) : fm_ct SR y_R_fields b_R_fields 10 none 2 [.inr 0, .inl (nI (24 * m + i)), .inl (nI 0)] M (fm_vv (if ob = 0 then fm_up M 0 24 (nI 1) else rm_fl M r 19 (5 * ob) (P.2.2 m i))) := by
  refine fm_of (ls := [some (.inr 0), some (.inl (nI (24 * m + i))), some (.inl (nI 0)), none, none, none, none, none, none, none]) (by decide) wsA_good (Nat.le_of_ble_eq_true rfl) rfl (fun X hX => ?_)
  obtain ⟨wl, wi, wI⟩ := hw m hm
  obtain ⟨w1, w2, w3, w4, w5, w6⟩ := wI i hi
  clear w6
  have hR4 : (if (P.2.2 m i).1 = 3 ∨ (P.2.2 m i).1 = 5 then (P.2.2 m i).2.2.1 else (P.2.2 m i).2.1) < 4 := by split <;> omega
  show fm_G SR Y_R_fields X M (fm_vv (if ob = 0 then fm_up M 0 24 (nI 1) else rm_fl M r 19 (5 * ob) (P.2.2 m i))) 0 [some (.inr 0), some (.inl (nI (24 * m + i))), some (.inl (nI 0)), none, none, none, none, none, none, none] [] M
  refine fm_aload_n (pq := 1) hX d_R_fields_0 rfl rfl rfl ?_
  refine fm_getr (pq := 4) (q := 3) hX fR_16 rfl rfl d_R_fields_1 rfl ?_
  refine fm_iload_n (pq := 5) hX d_R_fields_4 rfl rfl rfl ?_
  refine fm_iald (pq := 6) (v := nI ((P.2.2 m i).1)) hX rfl rfl rfl (by omega) (by decide) ((hP m (by omega)).2.2 i (by omega)).1 d_R_fields_5 rfl ?_
  refine fm_istore_n (pq := 7) (ls1 := [some (.inr 0), some (.inl (nI (24 * m + i))), some (.inl (nI 0)), some (.inl (nI ((P.2.2 m i).1))), none, none, none, none, none, none]) hX d_R_fields_6 rfl (by decide) rfl rfl ?_
  refine fm_iconst (pq := 8) (v := nI 4) hX d_R_fields_7 (by decide) rfl ?_
  refine fm_aload_n (pq := 9) hX d_R_fields_8 rfl rfl rfl ?_
  refine fm_geti (pq := 12) (v := nI r) hX fR_157 rfl rfl (by first | exact hr | exact fm_up_s | simp [fm_up, hr] | simp [fm_up, fm_fz, rm_z, hr]) d_R_fields_9 rfl ?_
  refine fm_iconst (pq := 13) (v := nI 1) hX d_R_fields_12 (by decide) rfl ?_
  refine fm_isub (pq := 14) (v := nI (r - 1)) hX d_R_fields_13 (pk_sub (by omega)) rfl ?_
  refine fm_imul (pq := 15) (v := nI (4 * (r - 1))) hX d_R_fields_14 (pk_mul _ _) rfl ?_
  refine fm_istore (pq := 17) (ls1 := [some (.inr 0), some (.inl (nI (24 * m + i))), some (.inl (nI 0)), some (.inl (nI ((P.2.2 m i).1))), some (.inl (nI (4 * (r - 1)))), none, none, none, none, none]) hX d_R_fields_15 (by decide) rfl rfl ?_
  have L42 : ∀ q : Nat, q = (if (P.2.2 m i).1 = 3 ∨ (P.2.2 m i).1 = 5 then (P.2.2 m i).2.2.1 else (P.2.2 m i).2.1) → fm_G SR Y_R_fields X M (fm_vv (if ob = 0 then fm_up M 0 24 (nI 1) else rm_fl M r 19 (5 * ob) (P.2.2 m i))) 42 [some (.inr 0), some (.inl (nI (24 * m + i))), some (.inl (nI 0)), some (.inl (nI ((P.2.2 m i).1))), some (.inl (nI (4 * (r - 1)))), none, none, none, none, none] [.inl (nI q)] M := by
    intro q hq
    subst hq
    refine fm_istore (pq := 44) (ls1 := [some (.inr 0), some (.inl (nI (24 * m + i))), some (.inl (nI 0)), some (.inl (nI ((P.2.2 m i).1))), some (.inl (nI (4 * (r - 1)))), some (.inl (nI ((if (P.2.2 m i).1 = 3 ∨ (P.2.2 m i).1 = 5 then (P.2.2 m i).2.2.1 else (P.2.2 m i).2.1)))), none, none, none, none]) hX d_R_fields_42 (by decide) rfl rfl ?_
    refine fm_aload_n (pq := 45) hX d_R_fields_44 rfl rfl rfl ?_
    refine fm_getr (pq := 48) (q := 16) hX fR_56 rfl rfl d_R_fields_45 rfl ?_
    refine fm_iload (pq := 50) hX d_R_fields_48 rfl rfl ?_
    refine fm_iload (pq := 52) hX d_R_fields_50 rfl rfl ?_
    refine fm_iadd (pq := 53) (v := nI (4 * (r - 1) + ((if (P.2.2 m i).1 = 3 ∨ (P.2.2 m i).1 = 5 then (P.2.2 m i).2.2.1 else (P.2.2 m i).2.1)))) hX d_R_fields_52 (nI_add _ _) rfl ?_
    refine fm_iald (pq := 54) (v := nI ob) hX rfl rfl rfl (by omega) (by decide) hob d_R_fields_53 rfl ?_
    refine fm_istore (pq := 56) (ls1 := [some (.inr 0), some (.inl (nI (24 * m + i))), some (.inl (nI 0)), some (.inl (nI ((P.2.2 m i).1))), some (.inl (nI (4 * (r - 1)))), some (.inl (nI ((if (P.2.2 m i).1 = 3 ∨ (P.2.2 m i).1 = 5 then (P.2.2 m i).2.2.1 else (P.2.2 m i).2.1)))), some (.inl (nI ob)), none, none, none]) hX d_R_fields_54 (by decide) rfl rfl ?_
    refine fm_iload_n (pq := 57) hX d_R_fields_56 rfl rfl rfl ?_
    refine fm_z_ne (tgt := 71) (pq := 60) hX d_R_fields_57 rfl rfl (by omega) (fun h57 => ?_) (fun h57 => ?_)
    · exact absurd h57 (by decide)
    · show fm_G SR Y_R_fields X M (fm_vv (if ob = 0 then fm_up M 0 24 (nI 1) else rm_fl M r 19 (5 * ob) (P.2.2 m i))) 60 [some (.inr 0), some (.inl (nI (24 * m + i))), some (.inl (nI 0)), some (.inl (nI ((P.2.2 m i).1))), some (.inl (nI (4 * (r - 1)))), some (.inl (nI ((if (P.2.2 m i).1 = 3 ∨ (P.2.2 m i).1 = 5 then (P.2.2 m i).2.2.1 else (P.2.2 m i).2.1)))), some (.inl (nI ob)), none, none, none] [] M
      refine fm_iload (pq := 62) hX d_R_fields_60 rfl rfl ?_
      refine fm_z_ne (tgt := 71) (pq := 65) hX d_R_fields_62 rfl rfl (by omega) (fun h62 => ?_) (fun h62 => ?_)
      · show fm_G SR Y_R_fields X M (fm_vv (if ob = 0 then fm_up M 0 24 (nI 1) else rm_fl M r 19 (5 * ob) (P.2.2 m i))) 71 [some (.inr 0), some (.inl (nI (24 * m + i))), some (.inl (nI 0)), some (.inl (nI ((P.2.2 m i).1))), some (.inl (nI (4 * (r - 1)))), some (.inl (nI ((if (P.2.2 m i).1 = 3 ∨ (P.2.2 m i).1 = 5 then (P.2.2 m i).2.2.1 else (P.2.2 m i).2.1)))), some (.inl (nI ob)), none, none, none] [] M
        refine fm_iload_n (pq := 72) hX d_R_fields_71 rfl rfl rfl ?_
        refine fm_z_eq (tgt := 85) (pq := 75) hX d_R_fields_72 rfl rfl (by omega) (fun h72 => ?_) (fun h72 => ?_)
        · show fm_G SR Y_R_fields X M (fm_vv (if ob = 0 then fm_up M 0 24 (nI 1) else rm_fl M r 19 (5 * ob) (P.2.2 m i))) 85 [some (.inr 0), some (.inl (nI (24 * m + i))), some (.inl (nI 0)), some (.inl (nI ((P.2.2 m i).1))), some (.inl (nI (4 * (r - 1)))), some (.inl (nI ((if (P.2.2 m i).1 = 3 ∨ (P.2.2 m i).1 = 5 then (P.2.2 m i).2.2.1 else (P.2.2 m i).2.1)))), some (.inl (nI ob)), none, none, none] [] M
          refine fm_iconst (pq := 86) (v := nI 5) hX d_R_fields_85 (by decide) rfl ?_
          refine fm_iload (pq := 88) hX d_R_fields_86 rfl rfl ?_
          refine fm_imul (pq := 89) (v := nI (5 * ob)) hX d_R_fields_88 (pk_mul _ _) rfl ?_
          refine fm_istore (pq := 91) (ls1 := [some (.inr 0), some (.inl (nI (24 * m + i))), some (.inl (nI 0)), some (.inl (nI ((P.2.2 m i).1))), some (.inl (nI (4 * (r - 1)))), some (.inl (nI ((if (P.2.2 m i).1 = 3 ∨ (P.2.2 m i).1 = 5 then (P.2.2 m i).2.2.1 else (P.2.2 m i).2.1)))), some (.inl (nI ob)), some (.inl (nI (5 * ob))), none, none]) hX d_R_fields_89 (by decide) rfl rfl ?_
          refine fm_iload (pq := 93) hX d_R_fields_91 rfl rfl ?_
          refine fm_aload_n (pq := 94) hX d_R_fields_93 rfl rfl rfl ?_
          refine fm_getr (pq := 97) (q := 6) hX fR_25 rfl rfl d_R_fields_94 rfl ?_
          refine fm_iload_n (pq := 98) hX d_R_fields_97 rfl rfl rfl ?_
          refine fm_iald (pq := 99) (v := nI ((P.2.2 m i).2.2.2.1)) hX rfl rfl rfl (by omega) (by decide) ((hP m (by omega)).2.2 i (by omega)).2.2.2.1 d_R_fields_98 rfl ?_
          refine fm_iadd (pq := 100) (v := nI (5 * ob + ((P.2.2 m i).2.2.2.1))) hX d_R_fields_99 (nI_add _ _) rfl ?_
          refine fm_istore (pq := 102) (ls1 := [some (.inr 0), some (.inl (nI (24 * m + i))), some (.inl (nI 0)), some (.inl (nI ((P.2.2 m i).1))), some (.inl (nI (4 * (r - 1)))), some (.inl (nI ((if (P.2.2 m i).1 = 3 ∨ (P.2.2 m i).1 = 5 then (P.2.2 m i).2.2.1 else (P.2.2 m i).2.1)))), some (.inl (nI ob)), some (.inl (nI (5 * ob))), some (.inl (nI (5 * ob + ((P.2.2 m i).2.2.2.1)))), none]) hX d_R_fields_100 (by decide) rfl rfl ?_
          refine fm_iload_n (pq := 103) hX d_R_fields_102 rfl rfl rfl ?_
          refine fm_iconst (pq := 104) (v := nI 3) hX d_R_fields_103 (by decide) rfl ?_
          refine fm_n_ne (tgt := 145) (pq := 107) hX d_R_fields_104 rfl rfl (by omega) (by omega) (fun h104 => ?_) (fun h104 => ?_)
          · show fm_G SR Y_R_fields X M (fm_vv (if ob = 0 then fm_up M 0 24 (nI 1) else rm_fl M r 19 (5 * ob) (P.2.2 m i))) 145 [some (.inr 0), some (.inl (nI (24 * m + i))), some (.inl (nI 0)), some (.inl (nI ((P.2.2 m i).1))), some (.inl (nI (4 * (r - 1)))), some (.inl (nI ((if (P.2.2 m i).1 = 3 ∨ (P.2.2 m i).1 = 5 then (P.2.2 m i).2.2.1 else (P.2.2 m i).2.1)))), some (.inl (nI ob)), some (.inl (nI (5 * ob))), some (.inl (nI (5 * ob + ((P.2.2 m i).2.2.2.1)))), none] [] M
            refine fm_iload_n (pq := 146) hX d_R_fields_145 rfl rfl rfl ?_
            refine fm_iconst (pq := 147) (v := nI 5) hX d_R_fields_146 (by decide) rfl ?_
            refine fm_n_ne (tgt := 192) (pq := 150) hX d_R_fields_147 rfl rfl (by omega) (by omega) (fun h147 => ?_) (fun h147 => ?_)
            · show fm_G SR Y_R_fields X M (fm_vv (if ob = 0 then fm_up M 0 24 (nI 1) else rm_fl M r 19 (5 * ob) (P.2.2 m i))) 192 [some (.inr 0), some (.inl (nI (24 * m + i))), some (.inl (nI 0)), some (.inl (nI ((P.2.2 m i).1))), some (.inl (nI (4 * (r - 1)))), some (.inl (nI ((if (P.2.2 m i).1 = 3 ∨ (P.2.2 m i).1 = 5 then (P.2.2 m i).2.2.1 else (P.2.2 m i).2.1)))), some (.inl (nI ob)), some (.inl (nI (5 * ob))), some (.inl (nI (5 * ob + ((P.2.2 m i).2.2.2.1)))), none] [] M
              refine fm_iload_n (pq := 193) hX d_R_fields_192 rfl rfl rfl ?_
              refine fm_iconst (pq := 194) (v := nI 4) hX d_R_fields_193 (by decide) rfl ?_
              refine fm_n_ne (tgt := 221) (pq := 197) hX d_R_fields_194 rfl rfl (by omega) (by omega) (fun h194 => ?_) (fun h194 => ?_)
              · show fm_G SR Y_R_fields X M (fm_vv (if ob = 0 then fm_up M 0 24 (nI 1) else rm_fl M r 19 (5 * ob) (P.2.2 m i))) 221 [some (.inr 0), some (.inl (nI (24 * m + i))), some (.inl (nI 0)), some (.inl (nI ((P.2.2 m i).1))), some (.inl (nI (4 * (r - 1)))), some (.inl (nI ((if (P.2.2 m i).1 = 3 ∨ (P.2.2 m i).1 = 5 then (P.2.2 m i).2.2.1 else (P.2.2 m i).2.1)))), some (.inl (nI ob)), some (.inl (nI (5 * ob))), some (.inl (nI (5 * ob + ((P.2.2 m i).2.2.2.1)))), none] [] M
                refine fm_iload_n (pq := 222) hX d_R_fields_221 rfl rfl rfl ?_
                refine fm_bipush (pq := 224) (v := nI 6) hX d_R_fields_222 (by decide) rfl ?_
                refine fm_n_ne (tgt := 253) (pq := 227) hX d_R_fields_224 rfl rfl (by omega) (by omega) (fun h224 => ?_) (fun h224 => ?_)
                · show fm_G SR Y_R_fields X M (fm_vv (if ob = 0 then fm_up M 0 24 (nI 1) else rm_fl M r 19 (5 * ob) (P.2.2 m i))) 253 [some (.inr 0), some (.inl (nI (24 * m + i))), some (.inl (nI 0)), some (.inl (nI ((P.2.2 m i).1))), some (.inl (nI (4 * (r - 1)))), some (.inl (nI ((if (P.2.2 m i).1 = 3 ∨ (P.2.2 m i).1 = 5 then (P.2.2 m i).2.2.1 else (P.2.2 m i).2.1)))), some (.inl (nI ob)), some (.inl (nI (5 * ob))), some (.inl (nI (5 * ob + ((P.2.2 m i).2.2.2.1)))), none] [] M
                  refine fm_iload_n (pq := 254) hX d_R_fields_253 rfl rfl rfl ?_
                  refine fm_z_eq (tgt := 269) (pq := 257) hX d_R_fields_254 rfl rfl (by omega) (fun h254 => ?_) (fun h254 => ?_)
                  · show fm_G SR Y_R_fields X M (fm_vv (if ob = 0 then fm_up M 0 24 (nI 1) else rm_fl M r 19 (5 * ob) (P.2.2 m i))) 269 [some (.inr 0), some (.inl (nI (24 * m + i))), some (.inl (nI 0)), some (.inl (nI ((P.2.2 m i).1))), some (.inl (nI (4 * (r - 1)))), some (.inl (nI ((if (P.2.2 m i).1 = 3 ∨ (P.2.2 m i).1 = 5 then (P.2.2 m i).2.2.1 else (P.2.2 m i).2.1)))), some (.inl (nI ob)), some (.inl (nI (5 * ob))), some (.inl (nI (5 * ob + ((P.2.2 m i).2.2.2.1)))), none] [] M
                    refine fm_aload_n (pq := 270) hX d_R_fields_269 rfl rfl rfl ?_
                    refine fm_getr (pq := 273) (q := 19) hX fR_65 rfl rfl d_R_fields_270 rfl ?_
                    refine fm_iload (pq := 275) hX d_R_fields_273 rfl rfl ?_
                    refine fm_iconst (pq := 276) (v := nI 4) hX d_R_fields_275 (by decide) rfl ?_
                    refine fm_iadd (pq := 277) (v := nI (5 * ob + 4)) hX d_R_fields_276 (nI_add _ _) rfl ?_
                    refine fm_iald (pq := 278) (v := M 19 (5 * ob + 4)) hX rfl rfl rfl (by omega) (by decide) rfl d_R_fields_277 rfl ?_
                    refine fm_istore (pq := 280) (ls1 := [some (.inr 0), some (.inl (nI (24 * m + i))), some (.inl (nI 0)), some (.inl (nI ((P.2.2 m i).1))), some (.inl (nI (4 * (r - 1)))), some (.inl (nI ((if (P.2.2 m i).1 = 3 ∨ (P.2.2 m i).1 = 5 then (P.2.2 m i).2.2.1 else (P.2.2 m i).2.1)))), some (.inl (nI ob)), some (.inl (nI (5 * ob))), some (.inl (nI (5 * ob + ((P.2.2 m i).2.2.2.1)))), some (.inl (M 19 (5 * ob + 4)))]) hX d_R_fields_278 (by decide) rfl rfl ?_
                    refine fm_iload_n (pq := 281) hX d_R_fields_280 rfl rfl rfl ?_
                    refine fm_bipush (pq := 283) (v := nI 11) hX d_R_fields_281 (by decide) rfl ?_
                    refine fm_n_ne (tgt := 297) (pq := 286) hX d_R_fields_283 rfl rfl (by omega) (by omega) (fun h283 => ?_) (fun h283 => ?_)
                    · show fm_G SR Y_R_fields X M (fm_vv (if ob = 0 then fm_up M 0 24 (nI 1) else rm_fl M r 19 (5 * ob) (P.2.2 m i))) 297 [some (.inr 0), some (.inl (nI (24 * m + i))), some (.inl (nI 0)), some (.inl (nI ((P.2.2 m i).1))), some (.inl (nI (4 * (r - 1)))), some (.inl (nI ((if (P.2.2 m i).1 = 3 ∨ (P.2.2 m i).1 = 5 then (P.2.2 m i).2.2.1 else (P.2.2 m i).2.1)))), some (.inl (nI ob)), some (.inl (nI (5 * ob))), some (.inl (nI (5 * ob + ((P.2.2 m i).2.2.2.1)))), some (.inl (M 19 (5 * ob + 4)))] [] M
                      refine fm_aload_n (pq := 298) hX d_R_fields_297 rfl rfl rfl ?_
                      refine fm_iload_n (pq := 299) hX d_R_fields_298 rfl rfl rfl ?_
                      refine fm_iload (pq := 301) hX d_R_fields_299 rfl rfl ?_
                      refine fm_iconst (pq := 302) (v := nI 4) hX d_R_fields_301 (by decide) rfl ?_
                      refine fm_iadd (pq := 303) (v := nI (5 * ob + 4)) hX d_R_fields_302 (nI_add _ _) rfl ?_
                      refine fm_iload_n (pq := 304) hX d_R_fields_303 rfl rfl rfl ?_
                      refine fm_bipush (pq := 306) (v := nI 10) hX d_R_fields_304 (by decide) rfl ?_
                      refine fm_n_ne (tgt := 316) (pq := 309) hX d_R_fields_306 rfl rfl (by omega) (by omega) (fun h306 => ?_) (fun h306 => ?_)
                      · show fm_G SR Y_R_fields X M (fm_vv (if ob = 0 then fm_up M 0 24 (nI 1) else rm_fl M r 19 (5 * ob) (P.2.2 m i))) 316 [some (.inr 0), some (.inl (nI (24 * m + i))), some (.inl (nI 0)), some (.inl (nI ((P.2.2 m i).1))), some (.inl (nI (4 * (r - 1)))), some (.inl (nI ((if (P.2.2 m i).1 = 3 ∨ (P.2.2 m i).1 = 5 then (P.2.2 m i).2.2.1 else (P.2.2 m i).2.1)))), some (.inl (nI ob)), some (.inl (nI (5 * ob))), some (.inl (nI (5 * ob + ((P.2.2 m i).2.2.2.1)))), some (.inl (M 19 (5 * ob + 4)))] [.inl (nI (5 * ob + 4)), .inl (nI 0), .inr 0] M
                        refine fm_iload (pq := 318) hX d_R_fields_316 rfl rfl ?_
                        refine fm_iconst (pq := 319) (v := nI 1) hX d_R_fields_318 (by decide) rfl ?_
                        refine fm_isub (pq := 320) (v := (M 19 (5 * ob + 4)) - (nI 1)) hX d_R_fields_319 rfl rfl ?_
                        refine fm_callV_v (as := [.inl (nI 0), .inl (nI (5 * ob + 4)), .inl ((M 19 (5 * ob + 4)) - (nI 1))]) (st := []) (pq := 323) hX rfl rfl cR_163 rfl im_R_set se_R_set (k_R_set0 M (c := 5 * ob + 4) (by omega) ((M 19 (5 * ob + 4)) - (nI 1))) rfl rfl (Nat.le_of_ble_eq_true rfl) (Nat.le_of_ble_eq_true rfl) d_R_fields_320 rfl ?_
                        refine fm_aload_n (pq := 324) hX d_R_fields_323 rfl rfl rfl ?_
                        refine fm_dup (pq := 325) hX d_R_fields_324 rfl ?_
                        refine fm_geti (pq := 328) (v := M 0 27) hX fR_167 rfl rfl (by first | rfl | simp [fm_up]) d_R_fields_325 rfl ?_
                        refine fm_iload_n (pq := 329) hX d_R_fields_328 rfl rfl rfl ?_
                        refine fm_z_eq (tgt := 336) (pq := 332) hX d_R_fields_329 rfl rfl (by omega) (fun h329 => ?_) (fun h329 => ?_)
                        · show fm_G SR Y_R_fields X M (fm_vv (if ob = 0 then fm_up M 0 24 (nI 1) else rm_fl M r 19 (5 * ob) (P.2.2 m i))) 336 [some (.inr 0), some (.inl (nI (24 * m + i))), some (.inl (nI 0)), some (.inl (nI ((P.2.2 m i).1))), some (.inl (nI (4 * (r - 1)))), some (.inl (nI ((if (P.2.2 m i).1 = 3 ∨ (P.2.2 m i).1 = 5 then (P.2.2 m i).2.2.1 else (P.2.2 m i).2.1)))), some (.inl (nI ob)), some (.inl (nI (5 * ob))), some (.inl (nI (5 * ob + ((P.2.2 m i).2.2.2.1)))), some (.inl (M 19 (5 * ob + 4)))] [.inl (M 0 27), .inr 0] (fm_up M 19 (5 * ob + 4) ((M 19 (5 * ob + 4)) - (nI 1)))
                          refine fm_iconst (pq := 337) (v := nI 1) hX d_R_fields_336 (by decide) rfl ?_
                          refine fm_iadd (pq := 338) (v := (M 0 27) + (nI 1)) hX d_R_fields_337 rfl rfl ?_
                          refine fm_puti (pq := 341) hX fR_167 pR_27 rfl rfl rfl rfl d_R_fields_338 rfl ?_
                          refine fm_vret hX rfl d_R_fields_341 ?_
                          refine ⟨rfl, ?_⟩
                          first
                          | (rw [if_pos h62]; done)
                          | (rw [if_neg h62]
                             first
                             | (exfalso; omega)
                             | exact (rm_fl_3 h104).symm
                             | exact (rm_fl_5 h147).symm
                             | exact (rm_fl_4 h194).symm
                             | exact (rm_fl_6 h224).symm
                             | exact (rm_fl_v h283 h288).symm
                             | exact (rm_fl_u h283 h288).symm
                             | exact (rm_fl_k h306).symm)
                        · exact absurd h329 (by decide)
                      · show fm_G SR Y_R_fields X M (fm_vv (if ob = 0 then fm_up M 0 24 (nI 1) else rm_fl M r 19 (5 * ob) (P.2.2 m i))) 309 [some (.inr 0), some (.inl (nI (24 * m + i))), some (.inl (nI 0)), some (.inl (nI ((P.2.2 m i).1))), some (.inl (nI (4 * (r - 1)))), some (.inl (nI ((if (P.2.2 m i).1 = 3 ∨ (P.2.2 m i).1 = 5 then (P.2.2 m i).2.2.1 else (P.2.2 m i).2.1)))), some (.inl (nI ob)), some (.inl (nI (5 * ob))), some (.inl (nI (5 * ob + ((P.2.2 m i).2.2.2.1)))), some (.inl (M 19 (5 * ob + 4)))] [.inl (nI (5 * ob + 4)), .inl (nI 0), .inr 0] M
                        refine fm_iload (pq := 311) hX d_R_fields_309 rfl rfl ?_
                        refine fm_iconst (pq := 312) (v := nI 1) hX d_R_fields_311 (by decide) rfl ?_
                        refine fm_iadd (pq := 313) (v := (M 19 (5 * ob + 4)) + (nI 1)) hX d_R_fields_312 rfl rfl ?_
                        refine fm_goto (tgt := 320) hX d_R_fields_313 rfl ?_
                        refine fm_callV_v (as := [.inl (nI 0), .inl (nI (5 * ob + 4)), .inl ((M 19 (5 * ob + 4)) + (nI 1))]) (st := []) (pq := 323) hX rfl rfl cR_163 rfl im_R_set se_R_set (k_R_set0 M (c := 5 * ob + 4) (by omega) ((M 19 (5 * ob + 4)) + (nI 1))) rfl rfl (Nat.le_of_ble_eq_true rfl) (Nat.le_of_ble_eq_true rfl) d_R_fields_320 rfl ?_
                        refine fm_aload_n (pq := 324) hX d_R_fields_323 rfl rfl rfl ?_
                        refine fm_dup (pq := 325) hX d_R_fields_324 rfl ?_
                        refine fm_geti (pq := 328) (v := M 0 27) hX fR_167 rfl rfl (by first | rfl | simp [fm_up]) d_R_fields_325 rfl ?_
                        refine fm_iload_n (pq := 329) hX d_R_fields_328 rfl rfl rfl ?_
                        refine fm_z_eq (tgt := 336) (pq := 332) hX d_R_fields_329 rfl rfl (by omega) (fun h329 => ?_) (fun h329 => ?_)
                        · show fm_G SR Y_R_fields X M (fm_vv (if ob = 0 then fm_up M 0 24 (nI 1) else rm_fl M r 19 (5 * ob) (P.2.2 m i))) 336 [some (.inr 0), some (.inl (nI (24 * m + i))), some (.inl (nI 0)), some (.inl (nI ((P.2.2 m i).1))), some (.inl (nI (4 * (r - 1)))), some (.inl (nI ((if (P.2.2 m i).1 = 3 ∨ (P.2.2 m i).1 = 5 then (P.2.2 m i).2.2.1 else (P.2.2 m i).2.1)))), some (.inl (nI ob)), some (.inl (nI (5 * ob))), some (.inl (nI (5 * ob + ((P.2.2 m i).2.2.2.1)))), some (.inl (M 19 (5 * ob + 4)))] [.inl (M 0 27), .inr 0] (fm_up M 19 (5 * ob + 4) ((M 19 (5 * ob + 4)) + (nI 1)))
                          refine fm_iconst (pq := 337) (v := nI 1) hX d_R_fields_336 (by decide) rfl ?_
                          refine fm_iadd (pq := 338) (v := (M 0 27) + (nI 1)) hX d_R_fields_337 rfl rfl ?_
                          refine fm_puti (pq := 341) hX fR_167 pR_27 rfl rfl rfl rfl d_R_fields_338 rfl ?_
                          refine fm_vret hX rfl d_R_fields_341 ?_
                          refine ⟨rfl, ?_⟩
                          first
                          | (rw [if_pos h62]; done)
                          | (rw [if_neg h62]
                             first
                             | (exfalso; omega)
                             | exact (rm_fl_3 h104).symm
                             | exact (rm_fl_5 h147).symm
                             | exact (rm_fl_4 h194).symm
                             | exact (rm_fl_6 h224).symm
                             | exact (rm_fl_v h283 h288).symm
                             | exact (rm_fl_u h283 h288).symm
                             | exact (rm_fl_k h306).symm)
                        · exact absurd h329 (by decide)
                    · show fm_G SR Y_R_fields X M (fm_vv (if ob = 0 then fm_up M 0 24 (nI 1) else rm_fl M r 19 (5 * ob) (P.2.2 m i))) 286 [some (.inr 0), some (.inl (nI (24 * m + i))), some (.inl (nI 0)), some (.inl (nI ((P.2.2 m i).1))), some (.inl (nI (4 * (r - 1)))), some (.inl (nI ((if (P.2.2 m i).1 = 3 ∨ (P.2.2 m i).1 = 5 then (P.2.2 m i).2.2.1 else (P.2.2 m i).2.1)))), some (.inl (nI ob)), some (.inl (nI (5 * ob))), some (.inl (nI (5 * ob + ((P.2.2 m i).2.2.2.1)))), some (.inl (M 19 (5 * ob + 4)))] [] M
                      refine fm_iload (pq := 288) hX d_R_fields_286 rfl rfl ?_
                      refine fm_if_ne (tgt := 297) (pq := 291) hX d_R_fields_288 rfl rfl (fun h288 => ?_) (fun h288 => ?_)
                      · show fm_G SR Y_R_fields X M (fm_vv (if ob = 0 then fm_up M 0 24 (nI 1) else rm_fl M r 19 (5 * ob) (P.2.2 m i))) 297 [some (.inr 0), some (.inl (nI (24 * m + i))), some (.inl (nI 0)), some (.inl (nI ((P.2.2 m i).1))), some (.inl (nI (4 * (r - 1)))), some (.inl (nI ((if (P.2.2 m i).1 = 3 ∨ (P.2.2 m i).1 = 5 then (P.2.2 m i).2.2.1 else (P.2.2 m i).2.1)))), some (.inl (nI ob)), some (.inl (nI (5 * ob))), some (.inl (nI (5 * ob + ((P.2.2 m i).2.2.2.1)))), some (.inl (M 19 (5 * ob + 4)))] [] M
                        refine fm_aload_n (pq := 298) hX d_R_fields_297 rfl rfl rfl ?_
                        refine fm_iload_n (pq := 299) hX d_R_fields_298 rfl rfl rfl ?_
                        refine fm_iload (pq := 301) hX d_R_fields_299 rfl rfl ?_
                        refine fm_iconst (pq := 302) (v := nI 4) hX d_R_fields_301 (by decide) rfl ?_
                        refine fm_iadd (pq := 303) (v := nI (5 * ob + 4)) hX d_R_fields_302 (nI_add _ _) rfl ?_
                        refine fm_iload_n (pq := 304) hX d_R_fields_303 rfl rfl rfl ?_
                        refine fm_bipush (pq := 306) (v := nI 10) hX d_R_fields_304 (by decide) rfl ?_
                        refine fm_n_ne (tgt := 316) (pq := 309) hX d_R_fields_306 rfl rfl (by omega) (by omega) (fun h306 => ?_) (fun h306 => ?_)
                        · show fm_G SR Y_R_fields X M (fm_vv (if ob = 0 then fm_up M 0 24 (nI 1) else rm_fl M r 19 (5 * ob) (P.2.2 m i))) 316 [some (.inr 0), some (.inl (nI (24 * m + i))), some (.inl (nI 0)), some (.inl (nI ((P.2.2 m i).1))), some (.inl (nI (4 * (r - 1)))), some (.inl (nI ((if (P.2.2 m i).1 = 3 ∨ (P.2.2 m i).1 = 5 then (P.2.2 m i).2.2.1 else (P.2.2 m i).2.1)))), some (.inl (nI ob)), some (.inl (nI (5 * ob))), some (.inl (nI (5 * ob + ((P.2.2 m i).2.2.2.1)))), some (.inl (M 19 (5 * ob + 4)))] [.inl (nI (5 * ob + 4)), .inl (nI 0), .inr 0] M
                          refine fm_iload (pq := 318) hX d_R_fields_316 rfl rfl ?_
                          refine fm_iconst (pq := 319) (v := nI 1) hX d_R_fields_318 (by decide) rfl ?_
                          refine fm_isub (pq := 320) (v := (M 19 (5 * ob + 4)) - (nI 1)) hX d_R_fields_319 rfl rfl ?_
                          refine fm_callV_v (as := [.inl (nI 0), .inl (nI (5 * ob + 4)), .inl ((M 19 (5 * ob + 4)) - (nI 1))]) (st := []) (pq := 323) hX rfl rfl cR_163 rfl im_R_set se_R_set (k_R_set0 M (c := 5 * ob + 4) (by omega) ((M 19 (5 * ob + 4)) - (nI 1))) rfl rfl (Nat.le_of_ble_eq_true rfl) (Nat.le_of_ble_eq_true rfl) d_R_fields_320 rfl ?_
                          refine fm_aload_n (pq := 324) hX d_R_fields_323 rfl rfl rfl ?_
                          refine fm_dup (pq := 325) hX d_R_fields_324 rfl ?_
                          refine fm_geti (pq := 328) (v := M 0 27) hX fR_167 rfl rfl (by first | rfl | simp [fm_up]) d_R_fields_325 rfl ?_
                          refine fm_iload_n (pq := 329) hX d_R_fields_328 rfl rfl rfl ?_
                          refine fm_z_eq (tgt := 336) (pq := 332) hX d_R_fields_329 rfl rfl (by omega) (fun h329 => ?_) (fun h329 => ?_)
                          · show fm_G SR Y_R_fields X M (fm_vv (if ob = 0 then fm_up M 0 24 (nI 1) else rm_fl M r 19 (5 * ob) (P.2.2 m i))) 336 [some (.inr 0), some (.inl (nI (24 * m + i))), some (.inl (nI 0)), some (.inl (nI ((P.2.2 m i).1))), some (.inl (nI (4 * (r - 1)))), some (.inl (nI ((if (P.2.2 m i).1 = 3 ∨ (P.2.2 m i).1 = 5 then (P.2.2 m i).2.2.1 else (P.2.2 m i).2.1)))), some (.inl (nI ob)), some (.inl (nI (5 * ob))), some (.inl (nI (5 * ob + ((P.2.2 m i).2.2.2.1)))), some (.inl (M 19 (5 * ob + 4)))] [.inl (M 0 27), .inr 0] (fm_up M 19 (5 * ob + 4) ((M 19 (5 * ob + 4)) - (nI 1)))
                            refine fm_iconst (pq := 337) (v := nI 1) hX d_R_fields_336 (by decide) rfl ?_
                            refine fm_iadd (pq := 338) (v := (M 0 27) + (nI 1)) hX d_R_fields_337 rfl rfl ?_
                            refine fm_puti (pq := 341) hX fR_167 pR_27 rfl rfl rfl rfl d_R_fields_338 rfl ?_
                            refine fm_vret hX rfl d_R_fields_341 ?_
                            refine ⟨rfl, ?_⟩
                            first
                            | (rw [if_pos h62]; done)
                            | (rw [if_neg h62]
                               first
                               | (exfalso; omega)
                               | exact (rm_fl_3 h104).symm
                               | exact (rm_fl_5 h147).symm
                               | exact (rm_fl_4 h194).symm
                               | exact (rm_fl_6 h224).symm
                               | exact (rm_fl_v h283 h288).symm
                               | exact (rm_fl_u h283 h288).symm
                               | exact (rm_fl_k h306).symm)
                          · exact absurd h329 (by decide)
                        · show fm_G SR Y_R_fields X M (fm_vv (if ob = 0 then fm_up M 0 24 (nI 1) else rm_fl M r 19 (5 * ob) (P.2.2 m i))) 309 [some (.inr 0), some (.inl (nI (24 * m + i))), some (.inl (nI 0)), some (.inl (nI ((P.2.2 m i).1))), some (.inl (nI (4 * (r - 1)))), some (.inl (nI ((if (P.2.2 m i).1 = 3 ∨ (P.2.2 m i).1 = 5 then (P.2.2 m i).2.2.1 else (P.2.2 m i).2.1)))), some (.inl (nI ob)), some (.inl (nI (5 * ob))), some (.inl (nI (5 * ob + ((P.2.2 m i).2.2.2.1)))), some (.inl (M 19 (5 * ob + 4)))] [.inl (nI (5 * ob + 4)), .inl (nI 0), .inr 0] M
                          refine fm_iload (pq := 311) hX d_R_fields_309 rfl rfl ?_
                          refine fm_iconst (pq := 312) (v := nI 1) hX d_R_fields_311 (by decide) rfl ?_
                          refine fm_iadd (pq := 313) (v := (M 19 (5 * ob + 4)) + (nI 1)) hX d_R_fields_312 rfl rfl ?_
                          refine fm_goto (tgt := 320) hX d_R_fields_313 rfl ?_
                          refine fm_callV_v (as := [.inl (nI 0), .inl (nI (5 * ob + 4)), .inl ((M 19 (5 * ob + 4)) + (nI 1))]) (st := []) (pq := 323) hX rfl rfl cR_163 rfl im_R_set se_R_set (k_R_set0 M (c := 5 * ob + 4) (by omega) ((M 19 (5 * ob + 4)) + (nI 1))) rfl rfl (Nat.le_of_ble_eq_true rfl) (Nat.le_of_ble_eq_true rfl) d_R_fields_320 rfl ?_
                          refine fm_aload_n (pq := 324) hX d_R_fields_323 rfl rfl rfl ?_
                          refine fm_dup (pq := 325) hX d_R_fields_324 rfl ?_
                          refine fm_geti (pq := 328) (v := M 0 27) hX fR_167 rfl rfl (by first | rfl | simp [fm_up]) d_R_fields_325 rfl ?_
                          refine fm_iload_n (pq := 329) hX d_R_fields_328 rfl rfl rfl ?_
                          refine fm_z_eq (tgt := 336) (pq := 332) hX d_R_fields_329 rfl rfl (by omega) (fun h329 => ?_) (fun h329 => ?_)
                          · show fm_G SR Y_R_fields X M (fm_vv (if ob = 0 then fm_up M 0 24 (nI 1) else rm_fl M r 19 (5 * ob) (P.2.2 m i))) 336 [some (.inr 0), some (.inl (nI (24 * m + i))), some (.inl (nI 0)), some (.inl (nI ((P.2.2 m i).1))), some (.inl (nI (4 * (r - 1)))), some (.inl (nI ((if (P.2.2 m i).1 = 3 ∨ (P.2.2 m i).1 = 5 then (P.2.2 m i).2.2.1 else (P.2.2 m i).2.1)))), some (.inl (nI ob)), some (.inl (nI (5 * ob))), some (.inl (nI (5 * ob + ((P.2.2 m i).2.2.2.1)))), some (.inl (M 19 (5 * ob + 4)))] [.inl (M 0 27), .inr 0] (fm_up M 19 (5 * ob + 4) ((M 19 (5 * ob + 4)) + (nI 1)))
                            refine fm_iconst (pq := 337) (v := nI 1) hX d_R_fields_336 (by decide) rfl ?_
                            refine fm_iadd (pq := 338) (v := (M 0 27) + (nI 1)) hX d_R_fields_337 rfl rfl ?_
                            refine fm_puti (pq := 341) hX fR_167 pR_27 rfl rfl rfl rfl d_R_fields_338 rfl ?_
                            refine fm_vret hX rfl d_R_fields_341 ?_
                            refine ⟨rfl, ?_⟩
                            first
                            | (rw [if_pos h62]; done)
                            | (rw [if_neg h62]
                               first
                               | (exfalso; omega)
                               | exact (rm_fl_3 h104).symm
                               | exact (rm_fl_5 h147).symm
                               | exact (rm_fl_4 h194).symm
                               | exact (rm_fl_6 h224).symm
                               | exact (rm_fl_v h283 h288).symm
                               | exact (rm_fl_u h283 h288).symm
                               | exact (rm_fl_k h306).symm)
                          · exact absurd h329 (by decide)
                      · show fm_G SR Y_R_fields X M (fm_vv (if ob = 0 then fm_up M 0 24 (nI 1) else rm_fl M r 19 (5 * ob) (P.2.2 m i))) 291 [some (.inr 0), some (.inl (nI (24 * m + i))), some (.inl (nI 0)), some (.inl (nI ((P.2.2 m i).1))), some (.inl (nI (4 * (r - 1)))), some (.inl (nI ((if (P.2.2 m i).1 = 3 ∨ (P.2.2 m i).1 = 5 then (P.2.2 m i).2.2.1 else (P.2.2 m i).2.1)))), some (.inl (nI ob)), some (.inl (nI (5 * ob))), some (.inl (nI (5 * ob + ((P.2.2 m i).2.2.2.1)))), some (.inl (M 19 (5 * ob + 4)))] [] M
                        refine fm_aload_n (pq := 292) hX d_R_fields_291 rfl rfl rfl ?_
                        refine fm_iconst (pq := 293) (v := nI 2) hX d_R_fields_292 (by decide) rfl ?_
                        refine fm_puti (pq := 296) hX fR_160 pR_24 rfl rfl rfl rfl d_R_fields_293 rfl ?_
                        refine fm_vret hX rfl d_R_fields_296 ?_
                        refine ⟨rfl, ?_⟩
                        first
                        | (rw [if_pos h62]; done)
                        | (rw [if_neg h62]
                           first
                           | (exfalso; omega)
                           | exact (rm_fl_3 h104).symm
                           | exact (rm_fl_5 h147).symm
                           | exact (rm_fl_4 h194).symm
                           | exact (rm_fl_6 h224).symm
                           | exact (rm_fl_v h283 h288).symm
                           | exact (rm_fl_u h283 h288).symm
                           | exact (rm_fl_k h306).symm)
                  · exact absurd h254 (by decide)
                · show fm_G SR Y_R_fields X M (fm_vv (if ob = 0 then fm_up M 0 24 (nI 1) else rm_fl M r 19 (5 * ob) (P.2.2 m i))) 227 [some (.inr 0), some (.inl (nI (24 * m + i))), some (.inl (nI 0)), some (.inl (nI ((P.2.2 m i).1))), some (.inl (nI (4 * (r - 1)))), some (.inl (nI ((if (P.2.2 m i).1 = 3 ∨ (P.2.2 m i).1 = 5 then (P.2.2 m i).2.2.1 else (P.2.2 m i).2.1)))), some (.inl (nI ob)), some (.inl (nI (5 * ob))), some (.inl (nI (5 * ob + ((P.2.2 m i).2.2.2.1)))), none] [] M
                  refine fm_aload_n (pq := 228) hX d_R_fields_227 rfl rfl rfl ?_
                  refine fm_iload_n (pq := 229) hX d_R_fields_228 rfl rfl rfl ?_
                  refine fm_iload (pq := 231) hX d_R_fields_229 rfl rfl ?_
                  refine fm_iconst (pq := 232) (v := nI 2) hX d_R_fields_231 (by decide) rfl ?_
                  refine fm_iadd (pq := 233) (v := nI (5 * ob + ((P.2.2 m i).2.2.2.1) + 2)) hX d_R_fields_232 (nI_add _ _) rfl ?_
                  refine fm_aload_n (pq := 234) hX d_R_fields_233 rfl rfl rfl ?_
                  refine fm_getr (pq := 237) (q := 17) hX fR_59 rfl rfl d_R_fields_234 rfl ?_
                  refine fm_iload (pq := 239) hX d_R_fields_237 rfl rfl ?_
                  refine fm_aload_n (pq := 240) hX d_R_fields_239 rfl rfl rfl ?_
                  refine fm_getr (pq := 243) (q := 5) hX fR_22 rfl rfl d_R_fields_240 rfl ?_
                  refine fm_iload_n (pq := 244) hX d_R_fields_243 rfl rfl rfl ?_
                  refine fm_iald (pq := 245) (v := nI ((P.2.2 m i).2.2.1)) hX rfl rfl rfl (by omega) (by decide) ((hP m (by omega)).2.2 i (by omega)).2.2.1 d_R_fields_244 rfl ?_
                  refine fm_iadd (pq := 246) (v := nI (4 * (r - 1) + ((P.2.2 m i).2.2.1))) hX d_R_fields_245 (nI_add _ _) rfl ?_
                  refine fm_iald (pq := 247) (v := M 17 (4 * (r - 1) + ((P.2.2 m i).2.2.1))) hX rfl rfl rfl (by omega) (by decide) rfl d_R_fields_246 rfl ?_
                  refine fm_callV_v (as := [.inl (nI 0), .inl (nI (5 * ob + ((P.2.2 m i).2.2.2.1) + 2)), .inl (M 17 (4 * (r - 1) + ((P.2.2 m i).2.2.1)))]) (st := []) (pq := 250) hX rfl rfl cR_163 rfl im_R_set se_R_set (k_R_set0 M (c := 5 * ob + ((P.2.2 m i).2.2.2.1) + 2) (by omega) (M 17 (4 * (r - 1) + ((P.2.2 m i).2.2.1)))) rfl rfl (Nat.le_of_ble_eq_true rfl) (Nat.le_of_ble_eq_true rfl) d_R_fields_247 rfl ?_
                  refine fm_goto (tgt := 341) hX d_R_fields_250 rfl ?_
                  refine fm_vret hX rfl d_R_fields_341 ?_
                  refine ⟨rfl, ?_⟩
                  first
                  | (rw [if_pos h62]; done)
                  | (rw [if_neg h62]
                     first
                     | (exfalso; omega)
                     | exact (rm_fl_3 h104).symm
                     | exact (rm_fl_5 h147).symm
                     | exact (rm_fl_4 h194).symm
                     | exact (rm_fl_6 h224).symm
                     | exact (rm_fl_v h283 h288).symm
                     | exact (rm_fl_u h283 h288).symm
                     | exact (rm_fl_k h306).symm)
              · show fm_G SR Y_R_fields X M (fm_vv (if ob = 0 then fm_up M 0 24 (nI 1) else rm_fl M r 19 (5 * ob) (P.2.2 m i))) 197 [some (.inr 0), some (.inl (nI (24 * m + i))), some (.inl (nI 0)), some (.inl (nI ((P.2.2 m i).1))), some (.inl (nI (4 * (r - 1)))), some (.inl (nI ((if (P.2.2 m i).1 = 3 ∨ (P.2.2 m i).1 = 5 then (P.2.2 m i).2.2.1 else (P.2.2 m i).2.1)))), some (.inl (nI ob)), some (.inl (nI (5 * ob))), some (.inl (nI (5 * ob + ((P.2.2 m i).2.2.2.1)))), none] [] M
                refine fm_aload_n (pq := 198) hX d_R_fields_197 rfl rfl rfl ?_
                refine fm_iload_n (pq := 199) hX d_R_fields_198 rfl rfl rfl ?_
                refine fm_iload (pq := 201) hX d_R_fields_199 rfl rfl ?_
                refine fm_aload_n (pq := 202) hX d_R_fields_201 rfl rfl rfl ?_
                refine fm_getr (pq := 205) (q := 16) hX fR_56 rfl rfl d_R_fields_202 rfl ?_
                refine fm_iload (pq := 207) hX d_R_fields_205 rfl rfl ?_
                refine fm_aload_n (pq := 208) hX d_R_fields_207 rfl rfl rfl ?_
                refine fm_getr (pq := 211) (q := 5) hX fR_22 rfl rfl d_R_fields_208 rfl ?_
                refine fm_iload_n (pq := 212) hX d_R_fields_211 rfl rfl rfl ?_
                refine fm_iald (pq := 213) (v := nI ((P.2.2 m i).2.2.1)) hX rfl rfl rfl (by omega) (by decide) ((hP m (by omega)).2.2 i (by omega)).2.2.1 d_R_fields_212 rfl ?_
                refine fm_iadd (pq := 214) (v := nI (4 * (r - 1) + ((P.2.2 m i).2.2.1))) hX d_R_fields_213 (nI_add _ _) rfl ?_
                refine fm_iald (pq := 215) (v := M 16 (4 * (r - 1) + ((P.2.2 m i).2.2.1))) hX rfl rfl rfl (by omega) (by decide) rfl d_R_fields_214 rfl ?_
                refine fm_callV_v (as := [.inl (nI 0), .inl (nI (5 * ob + ((P.2.2 m i).2.2.2.1))), .inl (M 16 (4 * (r - 1) + ((P.2.2 m i).2.2.1)))]) (st := []) (pq := 218) hX rfl rfl cR_163 rfl im_R_set se_R_set (k_R_set0 M (c := 5 * ob + ((P.2.2 m i).2.2.2.1)) (by omega) (M 16 (4 * (r - 1) + ((P.2.2 m i).2.2.1)))) rfl rfl (Nat.le_of_ble_eq_true rfl) (Nat.le_of_ble_eq_true rfl) d_R_fields_215 rfl ?_
                refine fm_goto (tgt := 341) hX d_R_fields_218 rfl ?_
                refine fm_vret hX rfl d_R_fields_341 ?_
                refine ⟨rfl, ?_⟩
                first
                | (rw [if_pos h62]; done)
                | (rw [if_neg h62]
                   first
                   | (exfalso; omega)
                   | exact (rm_fl_3 h104).symm
                   | exact (rm_fl_5 h147).symm
                   | exact (rm_fl_4 h194).symm
                   | exact (rm_fl_6 h224).symm
                   | exact (rm_fl_v h283 h288).symm
                   | exact (rm_fl_u h283 h288).symm
                   | exact (rm_fl_k h306).symm)
            · show fm_G SR Y_R_fields X M (fm_vv (if ob = 0 then fm_up M 0 24 (nI 1) else rm_fl M r 19 (5 * ob) (P.2.2 m i))) 150 [some (.inr 0), some (.inl (nI (24 * m + i))), some (.inl (nI 0)), some (.inl (nI ((P.2.2 m i).1))), some (.inl (nI (4 * (r - 1)))), some (.inl (nI ((if (P.2.2 m i).1 = 3 ∨ (P.2.2 m i).1 = 5 then (P.2.2 m i).2.2.1 else (P.2.2 m i).2.1)))), some (.inl (nI ob)), some (.inl (nI (5 * ob))), some (.inl (nI (5 * ob + ((P.2.2 m i).2.2.2.1)))), none] [] M
              refine fm_aload_n (pq := 151) hX d_R_fields_150 rfl rfl rfl ?_
              refine fm_getr (pq := 154) (q := 17) hX fR_59 rfl rfl d_R_fields_151 rfl ?_
              refine fm_iload (pq := 156) hX d_R_fields_154 rfl rfl ?_
              refine fm_aload_n (pq := 157) hX d_R_fields_156 rfl rfl rfl ?_
              refine fm_getr (pq := 160) (q := 4) hX fR_19 rfl rfl d_R_fields_157 rfl ?_
              refine fm_iload_n (pq := 161) hX d_R_fields_160 rfl rfl rfl ?_
              refine fm_iald (pq := 162) (v := nI ((P.2.2 m i).2.1)) hX rfl rfl rfl (by omega) (by decide) ((hP m (by omega)).2.2 i (by omega)).2.1 d_R_fields_161 rfl ?_
              refine fm_iadd (pq := 163) (v := nI (4 * (r - 1) + ((P.2.2 m i).2.1))) hX d_R_fields_162 (nI_add _ _) rfl ?_
              refine fm_iload_n (pq := 164) hX d_R_fields_163 rfl rfl rfl ?_
              refine fm_z_eq (tgt := 179) (pq := 167) hX d_R_fields_164 rfl rfl (by omega) (fun h164 => ?_) (fun h164 => ?_)
              · show fm_G SR Y_R_fields X M (fm_vv (if ob = 0 then fm_up M 0 24 (nI 1) else rm_fl M r 19 (5 * ob) (P.2.2 m i))) 179 [some (.inr 0), some (.inl (nI (24 * m + i))), some (.inl (nI 0)), some (.inl (nI ((P.2.2 m i).1))), some (.inl (nI (4 * (r - 1)))), some (.inl (nI ((if (P.2.2 m i).1 = 3 ∨ (P.2.2 m i).1 = 5 then (P.2.2 m i).2.2.1 else (P.2.2 m i).2.1)))), some (.inl (nI ob)), some (.inl (nI (5 * ob))), some (.inl (nI (5 * ob + ((P.2.2 m i).2.2.2.1)))), none] [.inl (nI (4 * (r - 1) + ((P.2.2 m i).2.1))), .inr 17] M
                refine fm_aload_n (pq := 180) hX d_R_fields_179 rfl rfl rfl ?_
                refine fm_getr (pq := 183) (q := 19) hX fR_65 rfl rfl d_R_fields_180 rfl ?_
                refine fm_iload (pq := 185) hX d_R_fields_183 rfl rfl ?_
                refine fm_iconst (pq := 186) (v := nI 2) hX d_R_fields_185 (by decide) rfl ?_
                refine fm_iadd (pq := 187) (v := nI (5 * ob + ((P.2.2 m i).2.2.2.1) + 2)) hX d_R_fields_186 (nI_add _ _) rfl ?_
                refine fm_iald (pq := 188) (v := M 19 (5 * ob + ((P.2.2 m i).2.2.2.1) + 2)) hX rfl rfl rfl (by omega) (by decide) rfl d_R_fields_187 rfl ?_
                refine fm_iast (pq := 189) hX rfl rfl rfl (by omega) (by decide) d_R_fields_188 rfl ?_
                refine fm_goto (tgt := 341) hX d_R_fields_189 rfl ?_
                refine fm_vret hX rfl d_R_fields_341 ?_
                refine ⟨rfl, ?_⟩
                first
                | (rw [if_pos h62]; done)
                | (rw [if_neg h62]
                   first
                   | (exfalso; omega)
                   | exact (rm_fl_3 h104).symm
                   | exact (rm_fl_5 h147).symm
                   | exact (rm_fl_4 h194).symm
                   | exact (rm_fl_6 h224).symm
                   | exact (rm_fl_v h283 h288).symm
                   | exact (rm_fl_u h283 h288).symm
                   | exact (rm_fl_k h306).symm)
              · exact absurd h164 (by decide)
          · show fm_G SR Y_R_fields X M (fm_vv (if ob = 0 then fm_up M 0 24 (nI 1) else rm_fl M r 19 (5 * ob) (P.2.2 m i))) 107 [some (.inr 0), some (.inl (nI (24 * m + i))), some (.inl (nI 0)), some (.inl (nI ((P.2.2 m i).1))), some (.inl (nI (4 * (r - 1)))), some (.inl (nI ((if (P.2.2 m i).1 = 3 ∨ (P.2.2 m i).1 = 5 then (P.2.2 m i).2.2.1 else (P.2.2 m i).2.1)))), some (.inl (nI ob)), some (.inl (nI (5 * ob))), some (.inl (nI (5 * ob + ((P.2.2 m i).2.2.2.1)))), none] [] M
            refine fm_aload_n (pq := 108) hX d_R_fields_107 rfl rfl rfl ?_
            refine fm_getr (pq := 111) (q := 16) hX fR_56 rfl rfl d_R_fields_108 rfl ?_
            refine fm_iload (pq := 113) hX d_R_fields_111 rfl rfl ?_
            refine fm_aload_n (pq := 114) hX d_R_fields_113 rfl rfl rfl ?_
            refine fm_getr (pq := 117) (q := 4) hX fR_19 rfl rfl d_R_fields_114 rfl ?_
            refine fm_iload_n (pq := 118) hX d_R_fields_117 rfl rfl rfl ?_
            refine fm_iald (pq := 119) (v := nI ((P.2.2 m i).2.1)) hX rfl rfl rfl (by omega) (by decide) ((hP m (by omega)).2.2 i (by omega)).2.1 d_R_fields_118 rfl ?_
            refine fm_iadd (pq := 120) (v := nI (4 * (r - 1) + ((P.2.2 m i).2.1))) hX d_R_fields_119 (nI_add _ _) rfl ?_
            refine fm_iload_n (pq := 121) hX d_R_fields_120 rfl rfl rfl ?_
            refine fm_z_eq (tgt := 134) (pq := 124) hX d_R_fields_121 rfl rfl (by omega) (fun h121 => ?_) (fun h121 => ?_)
            · show fm_G SR Y_R_fields X M (fm_vv (if ob = 0 then fm_up M 0 24 (nI 1) else rm_fl M r 19 (5 * ob) (P.2.2 m i))) 134 [some (.inr 0), some (.inl (nI (24 * m + i))), some (.inl (nI 0)), some (.inl (nI ((P.2.2 m i).1))), some (.inl (nI (4 * (r - 1)))), some (.inl (nI ((if (P.2.2 m i).1 = 3 ∨ (P.2.2 m i).1 = 5 then (P.2.2 m i).2.2.1 else (P.2.2 m i).2.1)))), some (.inl (nI ob)), some (.inl (nI (5 * ob))), some (.inl (nI (5 * ob + ((P.2.2 m i).2.2.2.1)))), none] [.inl (nI (4 * (r - 1) + ((P.2.2 m i).2.1))), .inr 16] M
              refine fm_aload_n (pq := 135) hX d_R_fields_134 rfl rfl rfl ?_
              refine fm_getr (pq := 138) (q := 19) hX fR_65 rfl rfl d_R_fields_135 rfl ?_
              refine fm_iload (pq := 140) hX d_R_fields_138 rfl rfl ?_
              refine fm_iald (pq := 141) (v := M 19 (5 * ob + ((P.2.2 m i).2.2.2.1))) hX rfl rfl rfl (by omega) (by decide) rfl d_R_fields_140 rfl ?_
              refine fm_iast (pq := 142) hX rfl rfl rfl (by omega) (by decide) d_R_fields_141 rfl ?_
              refine fm_goto (tgt := 341) hX d_R_fields_142 rfl ?_
              refine fm_vret hX rfl d_R_fields_341 ?_
              refine ⟨rfl, ?_⟩
              first
              | (rw [if_pos h62]; done)
              | (rw [if_neg h62]
                 first
                 | (exfalso; omega)
                 | exact (rm_fl_3 h104).symm
                 | exact (rm_fl_5 h147).symm
                 | exact (rm_fl_4 h194).symm
                 | exact (rm_fl_6 h224).symm
                 | exact (rm_fl_v h283 h288).symm
                 | exact (rm_fl_u h283 h288).symm
                 | exact (rm_fl_k h306).symm)
            · exact absurd h121 (by decide)
        · exact absurd h72 (by decide)
      · show fm_G SR Y_R_fields X M (fm_vv (if ob = 0 then fm_up M 0 24 (nI 1) else rm_fl M r 19 (5 * ob) (P.2.2 m i))) 65 [some (.inr 0), some (.inl (nI (24 * m + i))), some (.inl (nI 0)), some (.inl (nI ((P.2.2 m i).1))), some (.inl (nI (4 * (r - 1)))), some (.inl (nI ((if (P.2.2 m i).1 = 3 ∨ (P.2.2 m i).1 = 5 then (P.2.2 m i).2.2.1 else (P.2.2 m i).2.1)))), some (.inl (nI ob)), none, none, none] [] M
        refine fm_aload_n (pq := 66) hX d_R_fields_65 rfl rfl rfl ?_
        refine fm_iconst (pq := 67) (v := nI 1) hX d_R_fields_66 (by decide) rfl ?_
        refine fm_puti (pq := 70) hX fR_160 pR_24 rfl rfl rfl rfl d_R_fields_67 rfl ?_
        refine fm_vret hX rfl d_R_fields_70 ?_
        refine ⟨rfl, ?_⟩
        first
        | (rw [if_pos h62]; done)
        | (rw [if_neg h62]
           first
           | (exfalso; omega)
           | exact (rm_fl_3 h104).symm
           | exact (rm_fl_5 h147).symm
           | exact (rm_fl_4 h194).symm
           | exact (rm_fl_6 h224).symm
           | exact (rm_fl_v h283 h288).symm
           | exact (rm_fl_u h283 h288).symm
           | exact (rm_fl_k h306).symm)
  refine fm_iload_n (pq := 18) hX d_R_fields_17 rfl rfl rfl ?_
  refine fm_iconst (pq := 19) (v := nI 3) hX d_R_fields_18 (by decide) rfl ?_
  refine fm_n_eq (tgt := 27) (pq := 22) hX d_R_fields_19 rfl rfl (by omega) (by omega) (fun h19 => ?_) (fun h19 => ?_)
  · show fm_G SR Y_R_fields X M (fm_vv (if ob = 0 then fm_up M 0 24 (nI 1) else rm_fl M r 19 (5 * ob) (P.2.2 m i))) 27 [some (.inr 0), some (.inl (nI (24 * m + i))), some (.inl (nI 0)), some (.inl (nI ((P.2.2 m i).1))), some (.inl (nI (4 * (r - 1)))), none, none, none, none, none] [] M
    refine fm_aload_n (pq := 28) hX d_R_fields_27 rfl rfl rfl ?_
    refine fm_getr (pq := 31) (q := 5) hX fR_22 rfl rfl d_R_fields_28 rfl ?_
    refine fm_iload_n (pq := 32) hX d_R_fields_31 rfl rfl rfl ?_
    refine fm_iald (pq := 33) (v := nI ((P.2.2 m i).2.2.1)) hX rfl rfl rfl (by omega) (by decide) ((hP m (by omega)).2.2 i (by omega)).2.2.1 d_R_fields_32 rfl ?_
    refine fm_goto (tgt := 42) hX d_R_fields_33 rfl ?_
    first | exact L42 _ (by rw [if_pos (by omega)]) | exact L42 _ (by rw [if_neg (by omega)])
  · show fm_G SR Y_R_fields X M (fm_vv (if ob = 0 then fm_up M 0 24 (nI 1) else rm_fl M r 19 (5 * ob) (P.2.2 m i))) 22 [some (.inr 0), some (.inl (nI (24 * m + i))), some (.inl (nI 0)), some (.inl (nI ((P.2.2 m i).1))), some (.inl (nI (4 * (r - 1)))), none, none, none, none, none] [] M
    refine fm_iload_n (pq := 23) hX d_R_fields_22 rfl rfl rfl ?_
    refine fm_iconst (pq := 24) (v := nI 5) hX d_R_fields_23 (by decide) rfl ?_
    refine fm_n_ne (tgt := 36) (pq := 27) hX d_R_fields_24 rfl rfl (by omega) (by omega) (fun h24 => ?_) (fun h24 => ?_)
    · show fm_G SR Y_R_fields X M (fm_vv (if ob = 0 then fm_up M 0 24 (nI 1) else rm_fl M r 19 (5 * ob) (P.2.2 m i))) 36 [some (.inr 0), some (.inl (nI (24 * m + i))), some (.inl (nI 0)), some (.inl (nI ((P.2.2 m i).1))), some (.inl (nI (4 * (r - 1)))), none, none, none, none, none] [] M
      refine fm_aload_n (pq := 37) hX d_R_fields_36 rfl rfl rfl ?_
      refine fm_getr (pq := 40) (q := 4) hX fR_19 rfl rfl d_R_fields_37 rfl ?_
      refine fm_iload_n (pq := 41) hX d_R_fields_40 rfl rfl rfl ?_
      refine fm_iald (pq := 42) (v := nI ((P.2.2 m i).2.1)) hX rfl rfl rfl (by omega) (by decide) ((hP m (by omega)).2.2 i (by omega)).2.1 d_R_fields_41 rfl ?_
      first | exact L42 _ (by rw [if_pos (by omega)]) | exact L42 _ (by rw [if_neg (by omega)])
    · show fm_G SR Y_R_fields X M (fm_vv (if ob = 0 then fm_up M 0 24 (nI 1) else rm_fl M r 19 (5 * ob) (P.2.2 m i))) 27 [some (.inr 0), some (.inl (nI (24 * m + i))), some (.inl (nI 0)), some (.inl (nI ((P.2.2 m i).1))), some (.inl (nI (4 * (r - 1)))), none, none, none, none, none] [] M
      refine fm_aload_n (pq := 28) hX d_R_fields_27 rfl rfl rfl ?_
      refine fm_getr (pq := 31) (q := 5) hX fR_22 rfl rfl d_R_fields_28 rfl ?_
      refine fm_iload_n (pq := 32) hX d_R_fields_31 rfl rfl rfl ?_
      refine fm_iald (pq := 33) (v := nI ((P.2.2 m i).2.2.1)) hX rfl rfl rfl (by omega) (by decide) ((hP m (by omega)).2.2 i (by omega)).2.2.1 d_R_fields_32 rfl ?_
      refine fm_goto (tgt := 42) hX d_R_fields_33 rfl ?_
      first | exact L42 _ (by rw [if_pos (by omega)]) | exact L42 _ (by rw [if_neg (by omega)])
