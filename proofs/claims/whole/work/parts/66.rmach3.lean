/-! The reference's machine: makes, call, moves, does (written by program) -/
theorem rm_move_1 {M : fm_M} {r sh t : Nat} {I : an_I} (h : I.1 = 1) : rm_move M r sh t I = fm_up M 16 (4 * (r - 1) + I.2.1) (M 16 (4 * (r - 1) + I.2.2.1)) := by simp [rm_move, h]
theorem rm_move_2 {M : fm_M} {r sh t : Nat} {I : an_I} (h : I.1 = 2) : rm_move M r sh t I = fm_up M 16 (4 * (r - 1) + I.2.1) (nI 0) := by simp [rm_move, h]
theorem rm_move_7 {M : fm_M} {r sh t : Nat} {I : an_I} (h : I.1 = 7) : rm_move M r sh t I = fm_up M 17 (4 * (r - 1) + I.2.1) I.2.2.2.2 := by simp [rm_move, h]
theorem rm_move_8 {M : fm_M} {r sh t : Nat} {I : an_I} (h : I.1 = 8) : rm_move M r sh t I = fm_up M 17 (4 * (r - 1) + I.2.1) (M 17 (4 * (r - 1) + I.2.2.1) + M 17 (4 * (r - 1) + I.2.2.2.1)) := by simp [rm_move, h]
theorem rm_move_12 {M : fm_M} {r sh t : Nat} {I : an_I} (h : I.1 = 12) : rm_move M r sh t I = fm_up M 20 I.2.2.1 (M 16 (4 * (r - 1) + I.2.1)) := by simp [rm_move, h]
theorem rm_move_13 {M : fm_M} {r sh t : Nat} {I : an_I} (h : I.1 = 13) : rm_move M r sh t I = fm_up M 16 (4 * (r - 1) + I.2.1) (M 20 I.2.2.1) := by simp [rm_move, h]
theorem rm_move_14 {M : fm_M} {r sh t : Nat} {I : an_I} (h : I.1 = 14) : rm_move M r sh t I = fm_up M 14 (r - 1) I.2.2.2.2 := by simp [rm_move, h]
theorem rm_move_15 {M : fm_M} {r sh t : Nat} {I : an_I} (h : I.1 = 15) : rm_move M r sh t I = fm_up M 14 (r - 1) (if M 17 (4 * (r - 1) + I.2.1) = 0 then I.2.2.2.2 else M 14 (r - 1)) := by simp [rm_move, h]
theorem rm_move_17 {M : fm_M} {r sh t : Nat} {I : an_I} (h : I.1 = 17) : rm_move M r sh t I = rm_leave M r t (M 16 (4 * (r - 1) + I.2.1)) := by simp [rm_move, h]
theorem rm_move_s {M : fm_M} {r sh t : Nat} {I : an_I} (h : I.1 ≠ 1 ∧ I.1 ≠ 2 ∧ I.1 ≠ 7 ∧ I.1 ≠ 8 ∧ I.1 ≠ 12 ∧ I.1 ≠ 13 ∧ I.1 ≠ 14 ∧ I.1 ≠ 15 ∧ I.1 ≠ 17) : rm_move M r sh t I = rm_show M sh (M 17 (4 * (r - 1) + I.2.1)) := by simp [rm_move, h]
abbrev Y_R_makes : fm_Y := ("EscapeMillModel", b_R_makes, 5, none, 1)
set_option maxRecDepth 100000 in
set_option maxHeartbeats 4000000 in
theorem k_R_makes1 (M : fm_M) {r : Nat} (hr : M 0 14 = nI r) (h1 : 1 ≤ r) (h8 : r ≤ 8) {x : Nat} (hx : x < 4) : fm_ct SR y_R_makes b_R_makes 5 none 1 [.inr 0, .inl (nI x), .inl (nI 1)] M (fm_vv (rm_newP M r x)) := by
  refine fm_of (ls := [some (.inr 0), some (.inl (nI x)), some (.inl (nI 1)), none, none]) (by decide) wsA_good (Nat.le_of_ble_eq_true rfl) rfl (fun X hX => ?_)
  have L20 : ∀ q, q ≤ 5 → fm_G SR Y_R_makes X M (fm_vv (rm_newP M r x)) 20 [some (.inr 0), some (.inl (nI x)), some (.inl (nI 1)), some (.inl (nI (4 * (r - 1)))), some (.inl (nI (5 * (4 * (r - 1) + x) + q)))] [] (fm_fz M 18 (5 * (4 * (r - 1) + x)) q (nI 0)) := by
    refine fm_ind 5 (fun q hle ih => ?_)
    refine fm_iload (pq := 22) hX d_R_makes_20 rfl rfl ?_
    refine fm_iconst (pq := 23) (v := nI 5) hX d_R_makes_22 (by decide) rfl ?_
    refine fm_iload_n (pq := 24) hX d_R_makes_23 rfl rfl rfl ?_
    refine fm_iload_n (pq := 25) hX d_R_makes_24 rfl rfl rfl ?_
    refine fm_iadd (pq := 26) (v := nI (4 * (r - 1) + x)) hX d_R_makes_25 (nI_add _ _) rfl ?_
    refine fm_imul (pq := 27) (v := nI (5 * (4 * (r - 1) + x))) hX d_R_makes_26 (pk_mul _ _) rfl ?_
    refine fm_iconst (pq := 28) (v := nI 5) hX d_R_makes_27 (by decide) rfl ?_
    refine fm_iadd (pq := 29) (v := nI (5 * (4 * (r - 1) + x) + 5)) hX d_R_makes_28 (nI_add _ _) rfl ?_
    refine fm_n_ge (tgt := 46) (pq := 32) hX d_R_makes_29 rfl rfl (by omega) (by omega) (fun h29 => ?_) (fun h29 => ?_)
    · show fm_G SR Y_R_makes X M (fm_vv (rm_newP M r x)) 46 [some (.inr 0), some (.inl (nI x)), some (.inl (nI 1)), some (.inl (nI (4 * (r - 1)))), some (.inl (nI (5 * (4 * (r - 1) + x) + q)))] [] (fm_fz M 18 (5 * (4 * (r - 1) + x)) q (nI 0))
      refine fm_vret hX rfl d_R_makes_46 ?_
      exact ⟨rfl, by rw [show q = 5 by omega]; rfl⟩
    · show fm_G SR Y_R_makes X M (fm_vv (rm_newP M r x)) 32 [some (.inr 0), some (.inl (nI x)), some (.inl (nI 1)), some (.inl (nI (4 * (r - 1)))), some (.inl (nI (5 * (4 * (r - 1) + x) + q)))] [] (fm_fz M 18 (5 * (4 * (r - 1) + x)) q (nI 0))
      refine fm_aload_n (pq := 33) hX d_R_makes_32 rfl rfl rfl ?_
      refine fm_getr (pq := 36) (q := 18) hX fR_62 rfl rfl d_R_makes_33 rfl ?_
      refine fm_iload (pq := 38) hX d_R_makes_36 rfl rfl ?_
      refine fm_iconst (pq := 39) (v := nI 0) hX d_R_makes_38 (by decide) rfl ?_
      refine fm_iast (pq := 40) hX rfl rfl rfl (by omega) (by decide) d_R_makes_39 rfl ?_
      refine fm_mem (M' := fm_fz M 18 (5 * (4 * (r - 1) + x)) (q + 1) (nI 0)) (fm_fz_s _ _ _ _ _) ?_
      refine fm_iinc (pq := 43) (v := nI (5 * (4 * (r - 1) + x) + q + 1)) (ls1 := [some (.inr 0), some (.inl (nI x)), some (.inl (nI 1)), some (.inl (nI (4 * (r - 1)))), some (.inl (nI (5 * (4 * (r - 1) + x) + q + 1)))]) hX d_R_makes_40 rfl (nI_add _ _) (by decide) rfl rfl ?_
      refine fm_goto (tgt := 20) hX d_R_makes_43 rfl ?_
      exact ih (by omega)
  show fm_G SR Y_R_makes X M (fm_vv (rm_newP M r x)) 0 [some (.inr 0), some (.inl (nI x)), some (.inl (nI 1)), none, none] [] M
  refine fm_iconst (pq := 1) (v := nI 4) hX d_R_makes_0 (by decide) rfl ?_
  refine fm_aload_n (pq := 2) hX d_R_makes_1 rfl rfl rfl ?_
  refine fm_geti (pq := 5) (v := nI r) hX fR_157 rfl rfl (by first | exact hr | exact fm_up_s | simp [fm_up, hr] | simp [fm_up, fm_fz, rm_z, hr]) d_R_makes_2 rfl ?_
  refine fm_iconst (pq := 6) (v := nI 1) hX d_R_makes_5 (by decide) rfl ?_
  refine fm_isub (pq := 7) (v := nI (r - 1)) hX d_R_makes_6 (pk_sub (by omega)) rfl ?_
  refine fm_imul (pq := 8) (v := nI (4 * (r - 1))) hX d_R_makes_7 (pk_mul _ _) rfl ?_
  refine fm_istore_n (pq := 9) (ls1 := [some (.inr 0), some (.inl (nI x)), some (.inl (nI 1)), some (.inl (nI (4 * (r - 1)))), none]) hX d_R_makes_8 rfl (by decide) rfl rfl ?_
  refine fm_iload_n (pq := 10) hX d_R_makes_9 rfl rfl rfl ?_
  refine fm_z_eq (tgt := 47) (pq := 13) hX d_R_makes_10 rfl rfl (by omega) (fun h10 => ?_) (fun h10 => ?_)
  · exact absurd h10 (by decide)
  · show fm_G SR Y_R_makes X M (fm_vv (rm_newP M r x)) 13 [some (.inr 0), some (.inl (nI x)), some (.inl (nI 1)), some (.inl (nI (4 * (r - 1)))), none] [] M
    refine fm_iconst (pq := 14) (v := nI 5) hX d_R_makes_13 (by decide) rfl ?_
    refine fm_iload_n (pq := 15) hX d_R_makes_14 rfl rfl rfl ?_
    refine fm_iload_n (pq := 16) hX d_R_makes_15 rfl rfl rfl ?_
    refine fm_iadd (pq := 17) (v := nI (4 * (r - 1) + x)) hX d_R_makes_16 (nI_add _ _) rfl ?_
    refine fm_imul (pq := 18) (v := nI (5 * (4 * (r - 1) + x))) hX d_R_makes_17 (pk_mul _ _) rfl ?_
    refine fm_istore (pq := 20) (ls1 := [some (.inr 0), some (.inl (nI x)), some (.inl (nI 1)), some (.inl (nI (4 * (r - 1)))), some (.inl (nI (5 * (4 * (r - 1) + x))))]) hX d_R_makes_18 (by decide) rfl rfl ?_
    refine fm_mem (fm_fz_0 _ 18 (5 * (4 * (r - 1) + x)) (nI 0)).symm ?_
    exact L20 0 (by omega)
set_option maxRecDepth 100000 in
set_option maxHeartbeats 4000000 in
theorem k_R_makes0 (M : fm_M) {r : Nat} (hr : M 0 14 = nI r) (h1 : 1 ≤ r) (h8 : r ≤ 8) {x md : Nat} (hx : x < 4) (hmd : M 0 22 = nI md) (hm4 : md < 400) : fm_ct SR y_R_makes b_R_makes 5 none 1 [.inr 0, .inl (nI x), .inl (nI 0)] M (fm_vv (rm_newO M r x md)) := by
  refine fm_of (ls := [some (.inr 0), some (.inl (nI x)), some (.inl (nI 0)), none, none]) (by decide) wsA_good (Nat.le_of_ble_eq_true rfl) rfl (fun X hX => ?_)
  have L65 : ∀ q, q ≤ 5 → fm_G SR Y_R_makes X M (fm_vv (rm_newO M r x md)) 65 [some (.inr 0), some (.inl (nI x)), some (.inl (nI 0)), some (.inl (nI (4 * (r - 1)))), some (.inl (nI (5 * (md + 1) + q)))] [] (fm_fz (fm_up M 0 22 (nI (md + 1))) 19 (5 * (md + 1)) q (nI 0)) := by
    refine fm_ind 5 (fun q hle ih => ?_)
    refine fm_iload (pq := 67) hX d_R_makes_65 rfl rfl ?_
    refine fm_iconst (pq := 68) (v := nI 5) hX d_R_makes_67 (by decide) rfl ?_
    refine fm_aload_n (pq := 69) hX d_R_makes_68 rfl rfl rfl ?_
    refine fm_geti (pq := 72) (v := nI (md + 1)) hX fR_170 rfl rfl (by first | exact fm_up_s | simp [fm_up, fm_fz]) d_R_makes_69 rfl ?_
    refine fm_imul (pq := 73) (v := nI (5 * (md + 1))) hX d_R_makes_72 (pk_mul _ _) rfl ?_
    refine fm_iconst (pq := 74) (v := nI 5) hX d_R_makes_73 (by decide) rfl ?_
    refine fm_iadd (pq := 75) (v := nI (5 * (md + 1) + 5)) hX d_R_makes_74 (nI_add _ _) rfl ?_
    refine fm_n_ge (tgt := 92) (pq := 78) hX d_R_makes_75 rfl rfl (by omega) (by omega) (fun h75 => ?_) (fun h75 => ?_)
    · show fm_G SR Y_R_makes X M (fm_vv (rm_newO M r x md)) 92 [some (.inr 0), some (.inl (nI x)), some (.inl (nI 0)), some (.inl (nI (4 * (r - 1)))), some (.inl (nI (5 * (md + 1) + q)))] [] (fm_fz (fm_up M 0 22 (nI (md + 1))) 19 (5 * (md + 1)) q (nI 0))
      refine fm_aload_n (pq := 93) hX d_R_makes_92 rfl rfl rfl ?_
      refine fm_getr (pq := 96) (q := 16) hX fR_56 rfl rfl d_R_makes_93 rfl ?_
      refine fm_iload_n (pq := 97) hX d_R_makes_96 rfl rfl rfl ?_
      refine fm_iload_n (pq := 98) hX d_R_makes_97 rfl rfl rfl ?_
      refine fm_iadd (pq := 99) (v := nI (4 * (r - 1) + x)) hX d_R_makes_98 (nI_add _ _) rfl ?_
      refine fm_aload_n (pq := 100) hX d_R_makes_99 rfl rfl rfl ?_
      refine fm_geti (pq := 103) (v := nI (md + 1)) hX fR_170 rfl rfl (by first | exact fm_up_s | simp [fm_up, fm_fz]) d_R_makes_100 rfl ?_
      refine fm_iast (pq := 104) hX rfl rfl rfl (by omega) (by decide) d_R_makes_103 rfl ?_
      refine fm_vret hX rfl d_R_makes_104 ?_
      exact ⟨rfl, by rw [show q = 5 by omega]; rfl⟩
    · show fm_G SR Y_R_makes X M (fm_vv (rm_newO M r x md)) 78 [some (.inr 0), some (.inl (nI x)), some (.inl (nI 0)), some (.inl (nI (4 * (r - 1)))), some (.inl (nI (5 * (md + 1) + q)))] [] (fm_fz (fm_up M 0 22 (nI (md + 1))) 19 (5 * (md + 1)) q (nI 0))
      refine fm_aload_n (pq := 79) hX d_R_makes_78 rfl rfl rfl ?_
      refine fm_getr (pq := 82) (q := 19) hX fR_65 rfl rfl d_R_makes_79 rfl ?_
      refine fm_iload (pq := 84) hX d_R_makes_82 rfl rfl ?_
      refine fm_iconst (pq := 85) (v := nI 0) hX d_R_makes_84 (by decide) rfl ?_
      refine fm_iast (pq := 86) hX rfl rfl rfl (by omega) (by decide) d_R_makes_85 rfl ?_
      refine fm_mem (M' := fm_fz (fm_up M 0 22 (nI (md + 1))) 19 (5 * (md + 1)) (q + 1) (nI 0)) (fm_fz_s _ _ _ _ _) ?_
      refine fm_iinc (pq := 89) (v := nI (5 * (md + 1) + q + 1)) (ls1 := [some (.inr 0), some (.inl (nI x)), some (.inl (nI 0)), some (.inl (nI (4 * (r - 1)))), some (.inl (nI (5 * (md + 1) + q + 1)))]) hX d_R_makes_86 rfl (nI_add _ _) (by decide) rfl rfl ?_
      refine fm_goto (tgt := 65) hX d_R_makes_89 rfl ?_
      exact ih (by omega)
  show fm_G SR Y_R_makes X M (fm_vv (rm_newO M r x md)) 0 [some (.inr 0), some (.inl (nI x)), some (.inl (nI 0)), none, none] [] M
  refine fm_iconst (pq := 1) (v := nI 4) hX d_R_makes_0 (by decide) rfl ?_
  refine fm_aload_n (pq := 2) hX d_R_makes_1 rfl rfl rfl ?_
  refine fm_geti (pq := 5) (v := nI r) hX fR_157 rfl rfl (by first | exact hr | exact fm_up_s | simp [fm_up, hr] | simp [fm_up, fm_fz, rm_z, hr]) d_R_makes_2 rfl ?_
  refine fm_iconst (pq := 6) (v := nI 1) hX d_R_makes_5 (by decide) rfl ?_
  refine fm_isub (pq := 7) (v := nI (r - 1)) hX d_R_makes_6 (pk_sub (by omega)) rfl ?_
  refine fm_imul (pq := 8) (v := nI (4 * (r - 1))) hX d_R_makes_7 (pk_mul _ _) rfl ?_
  refine fm_istore_n (pq := 9) (ls1 := [some (.inr 0), some (.inl (nI x)), some (.inl (nI 0)), some (.inl (nI (4 * (r - 1)))), none]) hX d_R_makes_8 rfl (by decide) rfl rfl ?_
  refine fm_iload_n (pq := 10) hX d_R_makes_9 rfl rfl rfl ?_
  refine fm_z_eq (tgt := 47) (pq := 13) hX d_R_makes_10 rfl rfl (by omega) (fun h10 => ?_) (fun h10 => ?_)
  · show fm_G SR Y_R_makes X M (fm_vv (rm_newO M r x md)) 47 [some (.inr 0), some (.inl (nI x)), some (.inl (nI 0)), some (.inl (nI (4 * (r - 1)))), none] [] M
    refine fm_aload_n (pq := 48) hX d_R_makes_47 rfl rfl rfl ?_
    refine fm_dup (pq := 49) hX d_R_makes_48 rfl ?_
    refine fm_geti (pq := 52) (v := nI md) hX fR_170 rfl rfl hmd d_R_makes_49 rfl ?_
    refine fm_iconst (pq := 53) (v := nI 1) hX d_R_makes_52 (by decide) rfl ?_
    refine fm_iadd (pq := 54) (v := nI (md + 1)) hX d_R_makes_53 (nI_add _ _) rfl ?_
    refine fm_puti (pq := 57) hX fR_170 pR_22 rfl rfl rfl rfl d_R_makes_54 rfl ?_
    refine fm_iconst (pq := 58) (v := nI 5) hX d_R_makes_57 (by decide) rfl ?_
    refine fm_aload_n (pq := 59) hX d_R_makes_58 rfl rfl rfl ?_
    refine fm_geti (pq := 62) (v := nI (md + 1)) hX fR_170 rfl rfl (by first | exact fm_up_s | simp [fm_up, fm_fz]) d_R_makes_59 rfl ?_
    refine fm_imul (pq := 63) (v := nI (5 * (md + 1))) hX d_R_makes_62 (pk_mul _ _) rfl ?_
    refine fm_istore (pq := 65) (ls1 := [some (.inr 0), some (.inl (nI x)), some (.inl (nI 0)), some (.inl (nI (4 * (r - 1)))), some (.inl (nI (5 * (md + 1))))]) hX d_R_makes_63 (by decide) rfl rfl ?_
    refine fm_mem (fm_fz_0 _ 19 (5 * (md + 1)) (nI 0)).symm ?_
    exact L65 0 (by omega)
  · exact absurd h10 (by decide)
abbrev Y_R_call : fm_Y := ("EscapeMillModel", b_R_call, 4, none, 2)
set_option maxRecDepth 100000 in
set_option maxHeartbeats 4000000 in
theorem k_R_call {P : pr_T} {m i : Nat} (hm : m < 5) (hi : i < P.1 m) (M : fm_M) (hP : rP M P) (hw : pr_wf P) {r : Nat} (hr : M 0 14 = nI r) (h1 : 1 ≤ r) (h8 : r ≤ 8) {k : Nat} (hk : k < 5) (hn : (P.2.2 m i).2.2.2.2 = nI k) : fm_ct SR y_R_call b_R_call 4 none 2 [.inr 0, .inl (nI (24 * m + i))] M (fm_vv (rm_call P M r k (P.2.2 m i))) := by
  refine fm_of (ls := [some (.inr 0), some (.inl (nI (24 * m + i))), none, none]) (by decide) wsA_good (Nat.le_of_ble_eq_true rfl) rfl (fun X hX => ?_)
  obtain ⟨wl, wi, wI⟩ := hw m hm
  obtain ⟨w1, w2, w3, w4, w5, w6⟩ := wI i hi
  clear w6
  have hk1 := (hw k hk).1
  have hk2 := (hw k hk).2.1
  show fm_G SR Y_R_call X M (fm_vv (rm_call P M r k (P.2.2 m i))) 0 [some (.inr 0), some (.inl (nI (24 * m + i))), none, none] [] M
  refine fm_aload_n (pq := 1) hX d_R_call_0 rfl rfl rfl ?_
  refine fm_getr (pq := 4) (q := 7) hX fR_28 rfl rfl d_R_call_1 rfl ?_
  refine fm_iload_n (pq := 5) hX d_R_call_4 rfl rfl rfl ?_
  refine fm_iald (pq := 6) (v := nI k) hX rfl rfl rfl (by omega) (by decide) (((hP m (by omega)).2.2 i (by omega)).2.2.2.2.trans hn) d_R_call_5 rfl ?_
  refine fm_istore_n (pq := 7) (ls1 := [some (.inr 0), some (.inl (nI (24 * m + i))), some (.inl (nI k)), none]) hX d_R_call_6 rfl (by decide) rfl rfl ?_
  refine fm_iconst (pq := 8) (v := nI 4) hX d_R_call_7 (by decide) rfl ?_
  refine fm_aload_n (pq := 9) hX d_R_call_8 rfl rfl rfl ?_
  refine fm_geti (pq := 12) (v := nI r) hX fR_157 rfl rfl (by first | exact hr | exact fm_up_s | simp [fm_up, hr] | simp [fm_up, fm_fz, rm_z, hr]) d_R_call_9 rfl ?_
  refine fm_iconst (pq := 13) (v := nI 1) hX d_R_call_12 (by decide) rfl ?_
  refine fm_isub (pq := 14) (v := nI (r - 1)) hX d_R_call_13 (pk_sub (by omega)) rfl ?_
  refine fm_imul (pq := 15) (v := nI (4 * (r - 1))) hX d_R_call_14 (pk_mul _ _) rfl ?_
  refine fm_istore_n (pq := 16) (ls1 := [some (.inr 0), some (.inl (nI (24 * m + i))), some (.inl (nI k)), some (.inl (nI (4 * (r - 1))))]) hX d_R_call_15 rfl (by decide) rfl rfl ?_
  refine fm_aload_n (pq := 17) hX d_R_call_16 rfl rfl rfl ?_
  refine fm_getr (pq := 20) (q := 2) hX fR_13 rfl rfl d_R_call_17 rfl ?_
  refine fm_iload_n (pq := 21) hX d_R_call_20 rfl rfl rfl ?_
  refine fm_iald (pq := 22) (v := nI (P.1 k)) hX rfl rfl rfl (by omega) (by decide) (hP k (by omega)).1 d_R_call_21 rfl ?_
  refine fm_z_eq (tgt := 34) (pq := 25) hX d_R_call_22 rfl rfl (by omega) (fun h22 => ?_) (fun h22 => ?_)
  · show fm_G SR Y_R_call X M (fm_vv (rm_call P M r k (P.2.2 m i))) 34 [some (.inr 0), some (.inl (nI (24 * m + i))), some (.inl (nI k)), some (.inl (nI (4 * (r - 1))))] [] M
    refine fm_aload_n (pq := 35) hX d_R_call_34 rfl rfl rfl ?_
    refine fm_iconst (pq := 36) (v := nI 3) hX d_R_call_35 (by decide) rfl ?_
    refine fm_puti (pq := 39) hX fR_160 pR_24 rfl rfl rfl rfl d_R_call_36 rfl ?_
    refine fm_vret hX rfl d_R_call_39 ?_
    first | exact ⟨rfl, (if_pos (Or.inl h22)).symm⟩ | exact ⟨rfl, (if_pos (Or.inr h31)).symm⟩ | exact ⟨rfl, (if_neg (by omega)).symm⟩
  · show fm_G SR Y_R_call X M (fm_vv (rm_call P M r k (P.2.2 m i))) 25 [some (.inr 0), some (.inl (nI (24 * m + i))), some (.inl (nI k)), some (.inl (nI (4 * (r - 1))))] [] M
    refine fm_aload_n (pq := 26) hX d_R_call_25 rfl rfl rfl ?_
    refine fm_geti (pq := 29) (v := nI r) hX fR_157 rfl rfl (by first | exact hr | exact fm_up_s | simp [fm_up, hr] | simp [fm_up, fm_fz, rm_z, hr]) d_R_call_26 rfl ?_
    refine fm_bipush (pq := 31) (v := nI 8) hX d_R_call_29 (by decide) rfl ?_
    refine fm_n_ne (tgt := 40) (pq := 34) hX d_R_call_31 rfl rfl (by omega) (by omega) (fun h31 => ?_) (fun h31 => ?_)
    · show fm_G SR Y_R_call X M (fm_vv (rm_call P M r k (P.2.2 m i))) 40 [some (.inr 0), some (.inl (nI (24 * m + i))), some (.inl (nI k)), some (.inl (nI (4 * (r - 1))))] [] M
      refine fm_aload_n (pq := 41) hX d_R_call_40 rfl rfl rfl ?_
      refine fm_iload_n (pq := 42) hX d_R_call_41 rfl rfl rfl ?_
      refine fm_aload_n (pq := 43) hX d_R_call_42 rfl rfl rfl ?_
      refine fm_getr (pq := 46) (q := 4) hX fR_19 rfl rfl d_R_call_43 rfl ?_
      refine fm_iload_n (pq := 47) hX d_R_call_46 rfl rfl rfl ?_
      refine fm_iald (pq := 48) (v := nI ((P.2.2 m i).2.1)) hX rfl rfl rfl (by omega) (by decide) ((hP m (by omega)).2.2 i (by omega)).2.1 d_R_call_47 rfl ?_
      refine fm_aload_n (pq := 49) hX d_R_call_48 rfl rfl rfl ?_
      refine fm_getr (pq := 52) (q := 16) hX fR_56 rfl rfl d_R_call_49 rfl ?_
      refine fm_iload_n (pq := 53) hX d_R_call_52 rfl rfl rfl ?_
      refine fm_aload_n (pq := 54) hX d_R_call_53 rfl rfl rfl ?_
      refine fm_getr (pq := 57) (q := 5) hX fR_22 rfl rfl d_R_call_54 rfl ?_
      refine fm_iload_n (pq := 58) hX d_R_call_57 rfl rfl rfl ?_
      refine fm_iald (pq := 59) (v := nI ((P.2.2 m i).2.2.1)) hX rfl rfl rfl (by omega) (by decide) ((hP m (by omega)).2.2 i (by omega)).2.2.1 d_R_call_58 rfl ?_
      refine fm_iadd (pq := 60) (v := nI (4 * (r - 1) + ((P.2.2 m i).2.2.1))) hX d_R_call_59 (nI_add _ _) rfl ?_
      refine fm_iald (pq := 61) (v := M 16 (4 * (r - 1) + ((P.2.2 m i).2.2.1))) hX rfl rfl rfl (by omega) (by decide) rfl d_R_call_60 rfl ?_
      refine fm_aload_n (pq := 62) hX d_R_call_61 rfl rfl rfl ?_
      refine fm_getr (pq := 65) (q := 16) hX fR_56 rfl rfl d_R_call_62 rfl ?_
      refine fm_iload_n (pq := 66) hX d_R_call_65 rfl rfl rfl ?_
      refine fm_aload_n (pq := 67) hX d_R_call_66 rfl rfl rfl ?_
      refine fm_getr (pq := 70) (q := 6) hX fR_25 rfl rfl d_R_call_67 rfl ?_
      refine fm_iload_n (pq := 71) hX d_R_call_70 rfl rfl rfl ?_
      refine fm_iald (pq := 72) (v := nI ((P.2.2 m i).2.2.2.1)) hX rfl rfl rfl (by omega) (by decide) ((hP m (by omega)).2.2 i (by omega)).2.2.2.1 d_R_call_71 rfl ?_
      refine fm_iadd (pq := 73) (v := nI (4 * (r - 1) + ((P.2.2 m i).2.2.2.1))) hX d_R_call_72 (nI_add _ _) rfl ?_
      refine fm_iald (pq := 74) (v := M 16 (4 * (r - 1) + ((P.2.2 m i).2.2.2.1))) hX rfl rfl rfl (by omega) (by decide) rfl d_R_call_73 rfl ?_
      refine fm_callV_v (as := [.inl (nI k), .inl (nI ((P.2.2 m i).2.1)), .inl (M 16 (4 * (r - 1) + ((P.2.2 m i).2.2.1))), .inl (M 16 (4 * (r - 1) + ((P.2.2 m i).2.2.2.1)))]) (st := []) (pq := 77) hX rfl rfl cR_173 rfl im_R_enter se_R_enter (k_R_enter M hP hw hr (by omega) (m := k) (t := (P.2.2 m i).2.1) (by omega) (by omega) (M 16 (4 * (r - 1) + ((P.2.2 m i).2.2.1))) (M 16 (4 * (r - 1) + ((P.2.2 m i).2.2.2.1)))) rfl rfl (Nat.le_of_ble_eq_true rfl) (Nat.le_of_ble_eq_true rfl) d_R_call_74 rfl ?_
      refine fm_vret hX rfl d_R_call_77 ?_
      first | exact ⟨rfl, (if_pos (Or.inl h22)).symm⟩ | exact ⟨rfl, (if_pos (Or.inr h31)).symm⟩ | exact ⟨rfl, (if_neg (by omega)).symm⟩
    · show fm_G SR Y_R_call X M (fm_vv (rm_call P M r k (P.2.2 m i))) 34 [some (.inr 0), some (.inl (nI (24 * m + i))), some (.inl (nI k)), some (.inl (nI (4 * (r - 1))))] [] M
      refine fm_aload_n (pq := 35) hX d_R_call_34 rfl rfl rfl ?_
      refine fm_iconst (pq := 36) (v := nI 3) hX d_R_call_35 (by decide) rfl ?_
      refine fm_puti (pq := 39) hX fR_160 pR_24 rfl rfl rfl rfl d_R_call_36 rfl ?_
      refine fm_vret hX rfl d_R_call_39 ?_
      first | exact ⟨rfl, (if_pos (Or.inl h22)).symm⟩ | exact ⟨rfl, (if_pos (Or.inr h31)).symm⟩ | exact ⟨rfl, (if_neg (by omega)).symm⟩
abbrev Y_R_moves : fm_Y := ("EscapeMillModel", b_R_moves, 5, none, 2)
set_option maxRecDepth 100000 in
set_option maxHeartbeats 4000000 in
theorem k_R_moves {P : pr_T} {m i : Nat} (hm : m < 5) (hi : i < P.1 m) (M : fm_M) (hP : rP M P) (hw : pr_wf P) {r : Nat} (hr : M 0 14 = nI r) (h1 : 1 ≤ r) (h8 : r ≤ 8) {sh t : Nat} (hsh : M 0 25 = nI sh) (hs4 : sh < 1000) (ht : t < 4) (ht0 : 2 ≤ r → M 15 (r - 1) = nI t) : fm_ct SR y_R_moves b_R_moves 5 none 2 [.inr 0, .inl (nI (24 * m + i))] M (fm_vv (rm_move M r sh t (P.2.2 m i))) := by
  refine fm_of (ls := [some (.inr 0), some (.inl (nI (24 * m + i))), none, none, none]) (by decide) wsA_good (Nat.le_of_ble_eq_true rfl) rfl (fun X hX => ?_)
  obtain ⟨wl, wi, wI⟩ := hw m hm
  obtain ⟨w1, w2, w3, w4, w5, w6⟩ := wI i hi
  clear w6
  show fm_G SR Y_R_moves X M (fm_vv (rm_move M r sh t (P.2.2 m i))) 0 [some (.inr 0), some (.inl (nI (24 * m + i))), none, none, none] [] M
  refine fm_iconst (pq := 1) (v := nI 4) hX d_R_moves_0 (by decide) rfl ?_
  refine fm_aload_n (pq := 2) hX d_R_moves_1 rfl rfl rfl ?_
  refine fm_geti (pq := 5) (v := nI r) hX fR_157 rfl rfl (by first | exact hr | exact fm_up_s | simp [fm_up, hr] | simp [fm_up, fm_fz, rm_z, hr]) d_R_moves_2 rfl ?_
  refine fm_iconst (pq := 6) (v := nI 1) hX d_R_moves_5 (by decide) rfl ?_
  refine fm_isub (pq := 7) (v := nI (r - 1)) hX d_R_moves_6 (pk_sub (by omega)) rfl ?_
  refine fm_imul (pq := 8) (v := nI (4 * (r - 1))) hX d_R_moves_7 (pk_mul _ _) rfl ?_
  refine fm_istore_n (pq := 9) (ls1 := [some (.inr 0), some (.inl (nI (24 * m + i))), some (.inl (nI (4 * (r - 1)))), none, none]) hX d_R_moves_8 rfl (by decide) rfl rfl ?_
  refine fm_iload_n (pq := 10) hX d_R_moves_9 rfl rfl rfl ?_
  refine fm_aload_n (pq := 11) hX d_R_moves_10 rfl rfl rfl ?_
  refine fm_getr (pq := 14) (q := 4) hX fR_19 rfl rfl d_R_moves_11 rfl ?_
  refine fm_iload_n (pq := 15) hX d_R_moves_14 rfl rfl rfl ?_
  refine fm_iald (pq := 16) (v := nI ((P.2.2 m i).2.1)) hX rfl rfl rfl (by omega) (by decide) ((hP m (by omega)).2.2 i (by omega)).2.1 d_R_moves_15 rfl ?_
  refine fm_iadd (pq := 17) (v := nI (4 * (r - 1) + ((P.2.2 m i).2.1))) hX d_R_moves_16 (nI_add _ _) rfl ?_
  refine fm_istore_n (pq := 18) (ls1 := [some (.inr 0), some (.inl (nI (24 * m + i))), some (.inl (nI (4 * (r - 1)))), some (.inl (nI (4 * (r - 1) + ((P.2.2 m i).2.1)))), none]) hX d_R_moves_17 rfl (by decide) rfl rfl ?_
  refine fm_iload_n (pq := 19) hX d_R_moves_18 rfl rfl rfl ?_
  refine fm_aload_n (pq := 20) hX d_R_moves_19 rfl rfl rfl ?_
  refine fm_getr (pq := 23) (q := 5) hX fR_22 rfl rfl d_R_moves_20 rfl ?_
  refine fm_iload_n (pq := 24) hX d_R_moves_23 rfl rfl rfl ?_
  refine fm_iald (pq := 25) (v := nI ((P.2.2 m i).2.2.1)) hX rfl rfl rfl (by omega) (by decide) ((hP m (by omega)).2.2 i (by omega)).2.2.1 d_R_moves_24 rfl ?_
  refine fm_iadd (pq := 26) (v := nI (4 * (r - 1) + ((P.2.2 m i).2.2.1))) hX d_R_moves_25 (nI_add _ _) rfl ?_
  refine fm_istore (pq := 28) (ls1 := [some (.inr 0), some (.inl (nI (24 * m + i))), some (.inl (nI (4 * (r - 1)))), some (.inl (nI (4 * (r - 1) + ((P.2.2 m i).2.1)))), some (.inl (nI (4 * (r - 1) + ((P.2.2 m i).2.2.1))))]) hX d_R_moves_26 (by decide) rfl rfl ?_
  refine fm_aload_n (pq := 29) hX d_R_moves_28 rfl rfl rfl ?_
  refine fm_getr (pq := 32) (q := 3) hX fR_16 rfl rfl d_R_moves_29 rfl ?_
  refine fm_iload_n (pq := 33) hX d_R_moves_32 rfl rfl rfl ?_
  refine fm_iald (pq := 34) (v := nI ((P.2.2 m i).1)) hX rfl rfl rfl (by omega) (by decide) ((hP m (by omega)).2.2 i (by omega)).1 d_R_moves_33 rfl ?_
  rcases (by omega : ((P.2.2 m i).1 = 0 ∨ (P.2.2 m i).1 = 3 ∨ (P.2.2 m i).1 = 4 ∨ (P.2.2 m i).1 = 5 ∨ (P.2.2 m i).1 = 6 ∨ (P.2.2 m i).1 = 9 ∨ (P.2.2 m i).1 = 10 ∨ (P.2.2 m i).1 = 11 ∨ (P.2.2 m i).1 = 16 ∨ (P.2.2 m i).1 = 18) ∨ ((P.2.2 m i).1 = 1) ∨ ((P.2.2 m i).1 = 2) ∨ ((P.2.2 m i).1 = 7) ∨ ((P.2.2 m i).1 = 8) ∨ ((P.2.2 m i).1 = 12) ∨ ((P.2.2 m i).1 = 13) ∨ ((P.2.2 m i).1 = 14) ∨ ((P.2.2 m i).1 = 15) ∨ ((P.2.2 m i).1 = 17)) with h34 | h34 | h34 | h34 | h34 | h34 | h34 | h34 | h34 | h34
  · refine fm_table (tgt := 303) (off := 269) hX d_R_moves_34 (by decide) (by rcases h34 with e | e | e | e | e | e | e | e | e | e <;> rw [e] <;> decide) (by decide) ?_
    refine fm_aload_n (pq := 304) hX d_R_moves_303 rfl rfl rfl ?_
    refine fm_geti (pq := 307) (v := nI sh) hX fR_179 rfl rfl (by first | exact hsh | simp [fm_up, hsh]) d_R_moves_304 rfl ?_
    refine fm_bipush (pq := 309) (v := nI 32) hX d_R_moves_307 (by decide) rfl ?_
    refine fm_n_ge (tgt := 327) (pq := 312) hX d_R_moves_309 rfl rfl (by omega) (by omega) (fun h309 => ?_) (fun h309 => ?_)
    · show fm_G SR Y_R_moves X M (fm_vv (rm_move M r sh t (P.2.2 m i))) 327 [some (.inr 0), some (.inl (nI (24 * m + i))), some (.inl (nI (4 * (r - 1)))), some (.inl (nI (4 * (r - 1) + ((P.2.2 m i).2.1)))), some (.inl (nI (4 * (r - 1) + ((P.2.2 m i).2.2.1))))] [] M
      refine fm_aload_n (pq := 328) hX d_R_moves_327 rfl rfl rfl ?_
      refine fm_dup (pq := 329) hX d_R_moves_328 rfl ?_
      refine fm_geti (pq := 332) (v := nI sh) hX fR_179 rfl rfl (by first | exact hsh | simp [fm_up, hsh]) d_R_moves_329 rfl ?_
      refine fm_iconst (pq := 333) (v := nI 1) hX d_R_moves_332 (by decide) rfl ?_
      refine fm_iadd (pq := 334) (v := nI (sh + 1)) hX d_R_moves_333 (nI_add _ _) rfl ?_
      refine fm_puti (pq := 337) hX fR_179 pR_25 rfl rfl rfl rfl d_R_moves_334 rfl ?_
      refine fm_vret hX rfl d_R_moves_337 ?_
      first
      | exact ⟨rfl, (rm_move_1 h34).symm⟩
      | exact ⟨rfl, (rm_move_2 h34).symm⟩
      | exact ⟨rfl, (rm_move_7 h34).symm⟩
      | exact ⟨rfl, (rm_move_8 h34).symm⟩
      | exact ⟨rfl, (rm_move_12 h34).symm⟩
      | exact ⟨rfl, (rm_move_13 h34).symm⟩
      | exact ⟨rfl, (rm_move_14 h34).symm⟩
      | exact ⟨rfl, (rm_move_17 h34).symm⟩
      | exact ⟨rfl, by rw [rm_move_15 h34, if_pos h263]⟩
      | exact ⟨rfl, by rw [rm_move_15 h34, if_neg h263]⟩
      | exact ⟨rfl, by rw [rm_move_s (by omega), rm_show, if_pos (by omega)]⟩
      | exact ⟨rfl, by rw [rm_move_s (by omega), rm_show, if_neg (by omega)]⟩
    · show fm_G SR Y_R_moves X M (fm_vv (rm_move M r sh t (P.2.2 m i))) 312 [some (.inr 0), some (.inl (nI (24 * m + i))), some (.inl (nI (4 * (r - 1)))), some (.inl (nI (4 * (r - 1) + ((P.2.2 m i).2.1)))), some (.inl (nI (4 * (r - 1) + ((P.2.2 m i).2.2.1))))] [] M
      refine fm_aload_n (pq := 313) hX d_R_moves_312 rfl rfl rfl ?_
      refine fm_getr (pq := 316) (q := 21) hX fR_71 rfl rfl d_R_moves_313 rfl ?_
      refine fm_aload_n (pq := 317) hX d_R_moves_316 rfl rfl rfl ?_
      refine fm_geti (pq := 320) (v := nI sh) hX fR_179 rfl rfl (by first | exact hsh | simp [fm_up, hsh]) d_R_moves_317 rfl ?_
      refine fm_aload_n (pq := 321) hX d_R_moves_320 rfl rfl rfl ?_
      refine fm_getr (pq := 324) (q := 17) hX fR_59 rfl rfl d_R_moves_321 rfl ?_
      refine fm_iload_n (pq := 325) hX d_R_moves_324 rfl rfl rfl ?_
      refine fm_iald (pq := 326) (v := M 17 (4 * (r - 1) + ((P.2.2 m i).2.1))) hX rfl rfl rfl (by omega) (by decide) rfl d_R_moves_325 rfl ?_
      refine fm_iast (pq := 327) hX rfl rfl rfl (by omega) (by decide) d_R_moves_326 rfl ?_
      refine fm_aload_n (pq := 328) hX d_R_moves_327 rfl rfl rfl ?_
      refine fm_dup (pq := 329) hX d_R_moves_328 rfl ?_
      refine fm_geti (pq := 332) (v := nI sh) hX fR_179 rfl rfl (by first | exact hsh | simp [fm_up, hsh]) d_R_moves_329 rfl ?_
      refine fm_iconst (pq := 333) (v := nI 1) hX d_R_moves_332 (by decide) rfl ?_
      refine fm_iadd (pq := 334) (v := nI (sh + 1)) hX d_R_moves_333 (nI_add _ _) rfl ?_
      refine fm_puti (pq := 337) hX fR_179 pR_25 rfl rfl rfl rfl d_R_moves_334 rfl ?_
      refine fm_vret hX rfl d_R_moves_337 ?_
      first
      | exact ⟨rfl, (rm_move_1 h34).symm⟩
      | exact ⟨rfl, (rm_move_2 h34).symm⟩
      | exact ⟨rfl, (rm_move_7 h34).symm⟩
      | exact ⟨rfl, (rm_move_8 h34).symm⟩
      | exact ⟨rfl, (rm_move_12 h34).symm⟩
      | exact ⟨rfl, (rm_move_13 h34).symm⟩
      | exact ⟨rfl, (rm_move_14 h34).symm⟩
      | exact ⟨rfl, (rm_move_17 h34).symm⟩
      | exact ⟨rfl, by rw [rm_move_15 h34, if_pos h263]⟩
      | exact ⟨rfl, by rw [rm_move_15 h34, if_neg h263]⟩
      | exact ⟨rfl, by rw [rm_move_s (by omega), rm_show, if_pos (by omega)]⟩
      | exact ⟨rfl, by rw [rm_move_s (by omega), rm_show, if_neg (by omega)]⟩
  · refine fm_table (tgt := 116) (off := 82) hX d_R_moves_34 (by decide) (by rw [h34]; decide) (by decide) ?_
    refine fm_aload_n (pq := 117) hX d_R_moves_116 rfl rfl rfl ?_
    refine fm_getr (pq := 120) (q := 16) hX fR_56 rfl rfl d_R_moves_117 rfl ?_
    refine fm_iload_n (pq := 121) hX d_R_moves_120 rfl rfl rfl ?_
    refine fm_aload_n (pq := 122) hX d_R_moves_121 rfl rfl rfl ?_
    refine fm_getr (pq := 125) (q := 16) hX fR_56 rfl rfl d_R_moves_122 rfl ?_
    refine fm_iload (pq := 127) hX d_R_moves_125 rfl rfl ?_
    refine fm_iald (pq := 128) (v := M 16 (4 * (r - 1) + ((P.2.2 m i).2.2.1))) hX rfl rfl rfl (by omega) (by decide) rfl d_R_moves_127 rfl ?_
    refine fm_iast (pq := 129) hX rfl rfl rfl (by omega) (by decide) d_R_moves_128 rfl ?_
    refine fm_goto (tgt := 337) hX d_R_moves_129 rfl ?_
    refine fm_vret hX rfl d_R_moves_337 ?_
    first
    | exact ⟨rfl, (rm_move_1 h34).symm⟩
    | exact ⟨rfl, (rm_move_2 h34).symm⟩
    | exact ⟨rfl, (rm_move_7 h34).symm⟩
    | exact ⟨rfl, (rm_move_8 h34).symm⟩
    | exact ⟨rfl, (rm_move_12 h34).symm⟩
    | exact ⟨rfl, (rm_move_13 h34).symm⟩
    | exact ⟨rfl, (rm_move_14 h34).symm⟩
    | exact ⟨rfl, (rm_move_17 h34).symm⟩
    | exact ⟨rfl, by rw [rm_move_15 h34, if_pos h263]⟩
    | exact ⟨rfl, by rw [rm_move_15 h34, if_neg h263]⟩
    | exact ⟨rfl, by rw [rm_move_s (by omega), rm_show, if_pos (by omega)]⟩
    | exact ⟨rfl, by rw [rm_move_s (by omega), rm_show, if_neg (by omega)]⟩
  · refine fm_table (tgt := 132) (off := 98) hX d_R_moves_34 (by decide) (by rw [h34]; decide) (by decide) ?_
    refine fm_aload_n (pq := 133) hX d_R_moves_132 rfl rfl rfl ?_
    refine fm_getr (pq := 136) (q := 16) hX fR_56 rfl rfl d_R_moves_133 rfl ?_
    refine fm_iload_n (pq := 137) hX d_R_moves_136 rfl rfl rfl ?_
    refine fm_iconst (pq := 138) (v := nI 0) hX d_R_moves_137 (by decide) rfl ?_
    refine fm_iast (pq := 139) hX rfl rfl rfl (by omega) (by decide) d_R_moves_138 rfl ?_
    refine fm_goto (tgt := 337) hX d_R_moves_139 rfl ?_
    refine fm_vret hX rfl d_R_moves_337 ?_
    first
    | exact ⟨rfl, (rm_move_1 h34).symm⟩
    | exact ⟨rfl, (rm_move_2 h34).symm⟩
    | exact ⟨rfl, (rm_move_7 h34).symm⟩
    | exact ⟨rfl, (rm_move_8 h34).symm⟩
    | exact ⟨rfl, (rm_move_12 h34).symm⟩
    | exact ⟨rfl, (rm_move_13 h34).symm⟩
    | exact ⟨rfl, (rm_move_14 h34).symm⟩
    | exact ⟨rfl, (rm_move_17 h34).symm⟩
    | exact ⟨rfl, by rw [rm_move_15 h34, if_pos h263]⟩
    | exact ⟨rfl, by rw [rm_move_15 h34, if_neg h263]⟩
    | exact ⟨rfl, by rw [rm_move_s (by omega), rm_show, if_pos (by omega)]⟩
    | exact ⟨rfl, by rw [rm_move_s (by omega), rm_show, if_neg (by omega)]⟩
  · refine fm_table (tgt := 142) (off := 108) hX d_R_moves_34 (by decide) (by rw [h34]; decide) (by decide) ?_
    refine fm_aload_n (pq := 143) hX d_R_moves_142 rfl rfl rfl ?_
    refine fm_getr (pq := 146) (q := 17) hX fR_59 rfl rfl d_R_moves_143 rfl ?_
    refine fm_iload_n (pq := 147) hX d_R_moves_146 rfl rfl rfl ?_
    refine fm_aload_n (pq := 148) hX d_R_moves_147 rfl rfl rfl ?_
    refine fm_getr (pq := 151) (q := 7) hX fR_28 rfl rfl d_R_moves_148 rfl ?_
    refine fm_iload_n (pq := 152) hX d_R_moves_151 rfl rfl rfl ?_
    refine fm_iald (pq := 153) (v := (P.2.2 m i).2.2.2.2) hX rfl rfl rfl (by omega) (by decide) ((hP m (by omega)).2.2 i (by omega)).2.2.2.2 d_R_moves_152 rfl ?_
    refine fm_iast (pq := 154) hX rfl rfl rfl (by omega) (by decide) d_R_moves_153 rfl ?_
    refine fm_goto (tgt := 337) hX d_R_moves_154 rfl ?_
    refine fm_vret hX rfl d_R_moves_337 ?_
    first
    | exact ⟨rfl, (rm_move_1 h34).symm⟩
    | exact ⟨rfl, (rm_move_2 h34).symm⟩
    | exact ⟨rfl, (rm_move_7 h34).symm⟩
    | exact ⟨rfl, (rm_move_8 h34).symm⟩
    | exact ⟨rfl, (rm_move_12 h34).symm⟩
    | exact ⟨rfl, (rm_move_13 h34).symm⟩
    | exact ⟨rfl, (rm_move_14 h34).symm⟩
    | exact ⟨rfl, (rm_move_17 h34).symm⟩
    | exact ⟨rfl, by rw [rm_move_15 h34, if_pos h263]⟩
    | exact ⟨rfl, by rw [rm_move_15 h34, if_neg h263]⟩
    | exact ⟨rfl, by rw [rm_move_s (by omega), rm_show, if_pos (by omega)]⟩
    | exact ⟨rfl, by rw [rm_move_s (by omega), rm_show, if_neg (by omega)]⟩
  · refine fm_table (tgt := 157) (off := 123) hX d_R_moves_34 (by decide) (by rw [h34]; decide) (by decide) ?_
    refine fm_aload_n (pq := 158) hX d_R_moves_157 rfl rfl rfl ?_
    refine fm_getr (pq := 161) (q := 17) hX fR_59 rfl rfl d_R_moves_158 rfl ?_
    refine fm_iload_n (pq := 162) hX d_R_moves_161 rfl rfl rfl ?_
    refine fm_aload_n (pq := 163) hX d_R_moves_162 rfl rfl rfl ?_
    refine fm_getr (pq := 166) (q := 17) hX fR_59 rfl rfl d_R_moves_163 rfl ?_
    refine fm_iload (pq := 168) hX d_R_moves_166 rfl rfl ?_
    refine fm_iald (pq := 169) (v := M 17 (4 * (r - 1) + ((P.2.2 m i).2.2.1))) hX rfl rfl rfl (by omega) (by decide) rfl d_R_moves_168 rfl ?_
    refine fm_aload_n (pq := 170) hX d_R_moves_169 rfl rfl rfl ?_
    refine fm_getr (pq := 173) (q := 17) hX fR_59 rfl rfl d_R_moves_170 rfl ?_
    refine fm_iload_n (pq := 174) hX d_R_moves_173 rfl rfl rfl ?_
    refine fm_aload_n (pq := 175) hX d_R_moves_174 rfl rfl rfl ?_
    refine fm_getr (pq := 178) (q := 6) hX fR_25 rfl rfl d_R_moves_175 rfl ?_
    refine fm_iload_n (pq := 179) hX d_R_moves_178 rfl rfl rfl ?_
    refine fm_iald (pq := 180) (v := nI ((P.2.2 m i).2.2.2.1)) hX rfl rfl rfl (by omega) (by decide) ((hP m (by omega)).2.2 i (by omega)).2.2.2.1 d_R_moves_179 rfl ?_
    refine fm_iadd (pq := 181) (v := nI (4 * (r - 1) + ((P.2.2 m i).2.2.2.1))) hX d_R_moves_180 (nI_add _ _) rfl ?_
    refine fm_iald (pq := 182) (v := M 17 (4 * (r - 1) + ((P.2.2 m i).2.2.2.1))) hX rfl rfl rfl (by omega) (by decide) rfl d_R_moves_181 rfl ?_
    refine fm_iadd (pq := 183) (v := (M 17 (4 * (r - 1) + ((P.2.2 m i).2.2.1))) + (M 17 (4 * (r - 1) + ((P.2.2 m i).2.2.2.1)))) hX d_R_moves_182 rfl rfl ?_
    refine fm_iast (pq := 184) hX rfl rfl rfl (by omega) (by decide) d_R_moves_183 rfl ?_
    refine fm_goto (tgt := 337) hX d_R_moves_184 rfl ?_
    refine fm_vret hX rfl d_R_moves_337 ?_
    first
    | exact ⟨rfl, (rm_move_1 h34).symm⟩
    | exact ⟨rfl, (rm_move_2 h34).symm⟩
    | exact ⟨rfl, (rm_move_7 h34).symm⟩
    | exact ⟨rfl, (rm_move_8 h34).symm⟩
    | exact ⟨rfl, (rm_move_12 h34).symm⟩
    | exact ⟨rfl, (rm_move_13 h34).symm⟩
    | exact ⟨rfl, (rm_move_14 h34).symm⟩
    | exact ⟨rfl, (rm_move_17 h34).symm⟩
    | exact ⟨rfl, by rw [rm_move_15 h34, if_pos h263]⟩
    | exact ⟨rfl, by rw [rm_move_15 h34, if_neg h263]⟩
    | exact ⟨rfl, by rw [rm_move_s (by omega), rm_show, if_pos (by omega)]⟩
    | exact ⟨rfl, by rw [rm_move_s (by omega), rm_show, if_neg (by omega)]⟩
  · refine fm_table (tgt := 187) (off := 153) hX d_R_moves_34 (by decide) (by rw [h34]; decide) (by decide) ?_
    refine fm_aload_n (pq := 188) hX d_R_moves_187 rfl rfl rfl ?_
    refine fm_getr (pq := 191) (q := 20) hX fR_68 rfl rfl d_R_moves_188 rfl ?_
    refine fm_aload_n (pq := 192) hX d_R_moves_191 rfl rfl rfl ?_
    refine fm_getr (pq := 195) (q := 5) hX fR_22 rfl rfl d_R_moves_192 rfl ?_
    refine fm_iload_n (pq := 196) hX d_R_moves_195 rfl rfl rfl ?_
    refine fm_iald (pq := 197) (v := nI ((P.2.2 m i).2.2.1)) hX rfl rfl rfl (by omega) (by decide) ((hP m (by omega)).2.2 i (by omega)).2.2.1 d_R_moves_196 rfl ?_
    refine fm_aload_n (pq := 198) hX d_R_moves_197 rfl rfl rfl ?_
    refine fm_getr (pq := 201) (q := 16) hX fR_56 rfl rfl d_R_moves_198 rfl ?_
    refine fm_iload_n (pq := 202) hX d_R_moves_201 rfl rfl rfl ?_
    refine fm_iald (pq := 203) (v := M 16 (4 * (r - 1) + ((P.2.2 m i).2.1))) hX rfl rfl rfl (by omega) (by decide) rfl d_R_moves_202 rfl ?_
    refine fm_iast (pq := 204) hX rfl rfl rfl (by omega) (by decide) d_R_moves_203 rfl ?_
    refine fm_goto (tgt := 337) hX d_R_moves_204 rfl ?_
    refine fm_vret hX rfl d_R_moves_337 ?_
    first
    | exact ⟨rfl, (rm_move_1 h34).symm⟩
    | exact ⟨rfl, (rm_move_2 h34).symm⟩
    | exact ⟨rfl, (rm_move_7 h34).symm⟩
    | exact ⟨rfl, (rm_move_8 h34).symm⟩
    | exact ⟨rfl, (rm_move_12 h34).symm⟩
    | exact ⟨rfl, (rm_move_13 h34).symm⟩
    | exact ⟨rfl, (rm_move_14 h34).symm⟩
    | exact ⟨rfl, (rm_move_17 h34).symm⟩
    | exact ⟨rfl, by rw [rm_move_15 h34, if_pos h263]⟩
    | exact ⟨rfl, by rw [rm_move_15 h34, if_neg h263]⟩
    | exact ⟨rfl, by rw [rm_move_s (by omega), rm_show, if_pos (by omega)]⟩
    | exact ⟨rfl, by rw [rm_move_s (by omega), rm_show, if_neg (by omega)]⟩
  · refine fm_table (tgt := 207) (off := 173) hX d_R_moves_34 (by decide) (by rw [h34]; decide) (by decide) ?_
    refine fm_aload_n (pq := 208) hX d_R_moves_207 rfl rfl rfl ?_
    refine fm_getr (pq := 211) (q := 16) hX fR_56 rfl rfl d_R_moves_208 rfl ?_
    refine fm_iload_n (pq := 212) hX d_R_moves_211 rfl rfl rfl ?_
    refine fm_aload_n (pq := 213) hX d_R_moves_212 rfl rfl rfl ?_
    refine fm_getr (pq := 216) (q := 20) hX fR_68 rfl rfl d_R_moves_213 rfl ?_
    refine fm_aload_n (pq := 217) hX d_R_moves_216 rfl rfl rfl ?_
    refine fm_getr (pq := 220) (q := 5) hX fR_22 rfl rfl d_R_moves_217 rfl ?_
    refine fm_iload_n (pq := 221) hX d_R_moves_220 rfl rfl rfl ?_
    refine fm_iald (pq := 222) (v := nI ((P.2.2 m i).2.2.1)) hX rfl rfl rfl (by omega) (by decide) ((hP m (by omega)).2.2 i (by omega)).2.2.1 d_R_moves_221 rfl ?_
    refine fm_iald (pq := 223) (v := M 20 ((P.2.2 m i).2.2.1)) hX rfl rfl rfl (by omega) (by decide) rfl d_R_moves_222 rfl ?_
    refine fm_iast (pq := 224) hX rfl rfl rfl (by omega) (by decide) d_R_moves_223 rfl ?_
    refine fm_goto (tgt := 337) hX d_R_moves_224 rfl ?_
    refine fm_vret hX rfl d_R_moves_337 ?_
    first
    | exact ⟨rfl, (rm_move_1 h34).symm⟩
    | exact ⟨rfl, (rm_move_2 h34).symm⟩
    | exact ⟨rfl, (rm_move_7 h34).symm⟩
    | exact ⟨rfl, (rm_move_8 h34).symm⟩
    | exact ⟨rfl, (rm_move_12 h34).symm⟩
    | exact ⟨rfl, (rm_move_13 h34).symm⟩
    | exact ⟨rfl, (rm_move_14 h34).symm⟩
    | exact ⟨rfl, (rm_move_17 h34).symm⟩
    | exact ⟨rfl, by rw [rm_move_15 h34, if_pos h263]⟩
    | exact ⟨rfl, by rw [rm_move_15 h34, if_neg h263]⟩
    | exact ⟨rfl, by rw [rm_move_s (by omega), rm_show, if_pos (by omega)]⟩
    | exact ⟨rfl, by rw [rm_move_s (by omega), rm_show, if_neg (by omega)]⟩
  · refine fm_table (tgt := 227) (off := 193) hX d_R_moves_34 (by decide) (by rw [h34]; decide) (by decide) ?_
    refine fm_aload_n (pq := 228) hX d_R_moves_227 rfl rfl rfl ?_
    refine fm_getr (pq := 231) (q := 14) hX fR_50 rfl rfl d_R_moves_228 rfl ?_
    refine fm_aload_n (pq := 232) hX d_R_moves_231 rfl rfl rfl ?_
    refine fm_geti (pq := 235) (v := nI r) hX fR_157 rfl rfl (by first | exact hr | exact fm_up_s | simp [fm_up, hr] | simp [fm_up, fm_fz, rm_z, hr]) d_R_moves_232 rfl ?_
    refine fm_iconst (pq := 236) (v := nI 1) hX d_R_moves_235 (by decide) rfl ?_
    refine fm_isub (pq := 237) (v := nI (r - 1)) hX d_R_moves_236 (pk_sub (by omega)) rfl ?_
    refine fm_aload_n (pq := 238) hX d_R_moves_237 rfl rfl rfl ?_
    refine fm_getr (pq := 241) (q := 7) hX fR_28 rfl rfl d_R_moves_238 rfl ?_
    refine fm_iload_n (pq := 242) hX d_R_moves_241 rfl rfl rfl ?_
    refine fm_iald (pq := 243) (v := (P.2.2 m i).2.2.2.2) hX rfl rfl rfl (by omega) (by decide) ((hP m (by omega)).2.2 i (by omega)).2.2.2.2 d_R_moves_242 rfl ?_
    refine fm_iast (pq := 244) hX rfl rfl rfl (by omega) (by decide) d_R_moves_243 rfl ?_
    refine fm_goto (tgt := 337) hX d_R_moves_244 rfl ?_
    refine fm_vret hX rfl d_R_moves_337 ?_
    first
    | exact ⟨rfl, (rm_move_1 h34).symm⟩
    | exact ⟨rfl, (rm_move_2 h34).symm⟩
    | exact ⟨rfl, (rm_move_7 h34).symm⟩
    | exact ⟨rfl, (rm_move_8 h34).symm⟩
    | exact ⟨rfl, (rm_move_12 h34).symm⟩
    | exact ⟨rfl, (rm_move_13 h34).symm⟩
    | exact ⟨rfl, (rm_move_14 h34).symm⟩
    | exact ⟨rfl, (rm_move_17 h34).symm⟩
    | exact ⟨rfl, by rw [rm_move_15 h34, if_pos h263]⟩
    | exact ⟨rfl, by rw [rm_move_15 h34, if_neg h263]⟩
    | exact ⟨rfl, by rw [rm_move_s (by omega), rm_show, if_pos (by omega)]⟩
    | exact ⟨rfl, by rw [rm_move_s (by omega), rm_show, if_neg (by omega)]⟩
  · refine fm_table (tgt := 247) (off := 213) hX d_R_moves_34 (by decide) (by rw [h34]; decide) (by decide) ?_
    refine fm_aload_n (pq := 248) hX d_R_moves_247 rfl rfl rfl ?_
    refine fm_getr (pq := 251) (q := 14) hX fR_50 rfl rfl d_R_moves_248 rfl ?_
    refine fm_aload_n (pq := 252) hX d_R_moves_251 rfl rfl rfl ?_
    refine fm_geti (pq := 255) (v := nI r) hX fR_157 rfl rfl (by first | exact hr | exact fm_up_s | simp [fm_up, hr] | simp [fm_up, fm_fz, rm_z, hr]) d_R_moves_252 rfl ?_
    refine fm_iconst (pq := 256) (v := nI 1) hX d_R_moves_255 (by decide) rfl ?_
    refine fm_isub (pq := 257) (v := nI (r - 1)) hX d_R_moves_256 (pk_sub (by omega)) rfl ?_
    refine fm_aload_n (pq := 258) hX d_R_moves_257 rfl rfl rfl ?_
    refine fm_getr (pq := 261) (q := 17) hX fR_59 rfl rfl d_R_moves_258 rfl ?_
    refine fm_iload_n (pq := 262) hX d_R_moves_261 rfl rfl rfl ?_
    refine fm_iald (pq := 263) (v := M 17 (4 * (r - 1) + ((P.2.2 m i).2.1))) hX rfl rfl rfl (by omega) (by decide) rfl d_R_moves_262 rfl ?_
    refine fm_if_ne (tgt := 275) (pq := 266) hX d_R_moves_263 rfl rfl (fun h263 => ?_) (fun h263 => ?_)
    · show fm_G SR Y_R_moves X M (fm_vv (rm_move M r sh t (P.2.2 m i))) 275 [some (.inr 0), some (.inl (nI (24 * m + i))), some (.inl (nI (4 * (r - 1)))), some (.inl (nI (4 * (r - 1) + ((P.2.2 m i).2.1)))), some (.inl (nI (4 * (r - 1) + ((P.2.2 m i).2.2.1))))] [.inl (nI (r - 1)), .inr 14] M
      refine fm_aload_n (pq := 276) hX d_R_moves_275 rfl rfl rfl ?_
      refine fm_getr (pq := 279) (q := 14) hX fR_50 rfl rfl d_R_moves_276 rfl ?_
      refine fm_aload_n (pq := 280) hX d_R_moves_279 rfl rfl rfl ?_
      refine fm_geti (pq := 283) (v := nI r) hX fR_157 rfl rfl (by first | exact hr | exact fm_up_s | simp [fm_up, hr] | simp [fm_up, fm_fz, rm_z, hr]) d_R_moves_280 rfl ?_
      refine fm_iconst (pq := 284) (v := nI 1) hX d_R_moves_283 (by decide) rfl ?_
      refine fm_isub (pq := 285) (v := nI (r - 1)) hX d_R_moves_284 (pk_sub (by omega)) rfl ?_
      refine fm_iald (pq := 286) (v := M 14 (r - 1)) hX rfl rfl rfl (by omega) (by decide) rfl d_R_moves_285 rfl ?_
      refine fm_iast (pq := 287) hX rfl rfl rfl (by omega) (by decide) d_R_moves_286 rfl ?_
      refine fm_goto (tgt := 337) hX d_R_moves_287 rfl ?_
      refine fm_vret hX rfl d_R_moves_337 ?_
      first
      | exact ⟨rfl, (rm_move_1 h34).symm⟩
      | exact ⟨rfl, (rm_move_2 h34).symm⟩
      | exact ⟨rfl, (rm_move_7 h34).symm⟩
      | exact ⟨rfl, (rm_move_8 h34).symm⟩
      | exact ⟨rfl, (rm_move_12 h34).symm⟩
      | exact ⟨rfl, (rm_move_13 h34).symm⟩
      | exact ⟨rfl, (rm_move_14 h34).symm⟩
      | exact ⟨rfl, (rm_move_17 h34).symm⟩
      | exact ⟨rfl, by rw [rm_move_15 h34, if_pos h263]⟩
      | exact ⟨rfl, by rw [rm_move_15 h34, if_neg h263]⟩
      | exact ⟨rfl, by rw [rm_move_s (by omega), rm_show, if_pos (by omega)]⟩
      | exact ⟨rfl, by rw [rm_move_s (by omega), rm_show, if_neg (by omega)]⟩
    · show fm_G SR Y_R_moves X M (fm_vv (rm_move M r sh t (P.2.2 m i))) 266 [some (.inr 0), some (.inl (nI (24 * m + i))), some (.inl (nI (4 * (r - 1)))), some (.inl (nI (4 * (r - 1) + ((P.2.2 m i).2.1)))), some (.inl (nI (4 * (r - 1) + ((P.2.2 m i).2.2.1))))] [.inl (nI (r - 1)), .inr 14] M
      refine fm_aload_n (pq := 267) hX d_R_moves_266 rfl rfl rfl ?_
      refine fm_getr (pq := 270) (q := 7) hX fR_28 rfl rfl d_R_moves_267 rfl ?_
      refine fm_iload_n (pq := 271) hX d_R_moves_270 rfl rfl rfl ?_
      refine fm_iald (pq := 272) (v := (P.2.2 m i).2.2.2.2) hX rfl rfl rfl (by omega) (by decide) ((hP m (by omega)).2.2 i (by omega)).2.2.2.2 d_R_moves_271 rfl ?_
      refine fm_goto (tgt := 286) hX d_R_moves_272 rfl ?_
      refine fm_iast (pq := 287) hX rfl rfl rfl (by omega) (by decide) d_R_moves_286 rfl ?_
      refine fm_goto (tgt := 337) hX d_R_moves_287 rfl ?_
      refine fm_vret hX rfl d_R_moves_337 ?_
      first
      | exact ⟨rfl, (rm_move_1 h34).symm⟩
      | exact ⟨rfl, (rm_move_2 h34).symm⟩
      | exact ⟨rfl, (rm_move_7 h34).symm⟩
      | exact ⟨rfl, (rm_move_8 h34).symm⟩
      | exact ⟨rfl, (rm_move_12 h34).symm⟩
      | exact ⟨rfl, (rm_move_13 h34).symm⟩
      | exact ⟨rfl, (rm_move_14 h34).symm⟩
      | exact ⟨rfl, (rm_move_17 h34).symm⟩
      | exact ⟨rfl, by rw [rm_move_15 h34, if_pos h263]⟩
      | exact ⟨rfl, by rw [rm_move_15 h34, if_neg h263]⟩
      | exact ⟨rfl, by rw [rm_move_s (by omega), rm_show, if_pos (by omega)]⟩
      | exact ⟨rfl, by rw [rm_move_s (by omega), rm_show, if_neg (by omega)]⟩
  · refine fm_table (tgt := 290) (off := 256) hX d_R_moves_34 (by decide) (by rw [h34]; decide) (by decide) ?_
    refine fm_aload_n (pq := 291) hX d_R_moves_290 rfl rfl rfl ?_
    refine fm_aload_n (pq := 292) hX d_R_moves_291 rfl rfl rfl ?_
    refine fm_getr (pq := 295) (q := 16) hX fR_56 rfl rfl d_R_moves_292 rfl ?_
    refine fm_iload_n (pq := 296) hX d_R_moves_295 rfl rfl rfl ?_
    refine fm_iald (pq := 297) (v := M 16 (4 * (r - 1) + ((P.2.2 m i).2.1))) hX rfl rfl rfl (by omega) (by decide) rfl d_R_moves_296 rfl ?_
    refine fm_callV_v (as := [.inl (M 16 (4 * (r - 1) + ((P.2.2 m i).2.1)))]) (st := []) (pq := 300) hX rfl rfl cR_176 rfl im_R_leave se_R_leave (k_R_leave M hr (by omega) (by omega) (t := t) ht ht0 (M 16 (4 * (r - 1) + ((P.2.2 m i).2.1)))) rfl rfl (Nat.le_of_ble_eq_true rfl) (Nat.le_of_ble_eq_true rfl) d_R_moves_297 rfl ?_
    refine fm_goto (tgt := 337) hX d_R_moves_300 rfl ?_
    refine fm_vret hX rfl d_R_moves_337 ?_
    first
    | exact ⟨rfl, (rm_move_1 h34).symm⟩
    | exact ⟨rfl, (rm_move_2 h34).symm⟩
    | exact ⟨rfl, (rm_move_7 h34).symm⟩
    | exact ⟨rfl, (rm_move_8 h34).symm⟩
    | exact ⟨rfl, (rm_move_12 h34).symm⟩
    | exact ⟨rfl, (rm_move_13 h34).symm⟩
    | exact ⟨rfl, (rm_move_14 h34).symm⟩
    | exact ⟨rfl, (rm_move_17 h34).symm⟩
    | exact ⟨rfl, by rw [rm_move_15 h34, if_pos h263]⟩
    | exact ⟨rfl, by rw [rm_move_15 h34, if_neg h263]⟩
    | exact ⟨rfl, by rw [rm_move_s (by omega), rm_show, if_pos (by omega)]⟩
    | exact ⟨rfl, by rw [rm_move_s (by omega), rm_show, if_neg (by omega)]⟩
abbrev Y_R_does : fm_Y := ("EscapeMillModel", b_R_does, 6, none, 3)
set_option maxRecDepth 100000 in
set_option maxHeartbeats 4000000 in
theorem k_R_does {P : pr_T} {m i : Nat} (hm : m < 5) (hi : i < P.1 m) (M : fm_M) (hP : rP M P) (hw : pr_wf P) {r : Nat} (hr : M 0 14 = nI r) (h1 : 1 ≤ r) (h8 : r ≤ 8) {md sh t ob f : Nat} (hmd : M 0 22 = nI md) (hm4 : md < 400) (hsh : M 0 25 = nI sh) (hs4 : sh < 1000) (ht : t < 4) (ht0 : 2 ≤ r → M 15 (r - 1) = nI t) (hpl : M 14 (r - 1) = nI i) (hf : f ≤ 2) (hob : ¬ f = 1 → M 16 (4 * (r - 1) + rm_RR (P.2.2 m i)) = nI ob) (ho4 : ob ≤ 400) : fm_ct SR y_R_does b_R_does 6 none 3 [.inr 0, .inl (nI (24 * m + i)), .inl (nI f)] M (fm_vv (rm_do P (fm_up M 14 (r - 1) (nI (i + 1))) r sh t md (P.2.2 m i).2.2.2.2.toNatClampNeg ob (P.2.2 m i) f)) := by
  refine fm_of (ls := [some (.inr 0), some (.inl (nI (24 * m + i))), some (.inl (nI f)), none, none, none]) (by decide) wsA_good (Nat.le_of_ble_eq_true rfl) rfl (fun X hX => ?_)
  obtain ⟨wl, wi, wI⟩ := hw m hm
  obtain ⟨w1, w2, w3, w4, w5, w6⟩ := wI i hi
  have hw6 := w6
  clear w6
  show fm_G SR Y_R_does X M (fm_vv (rm_do P (fm_up M 14 (r - 1) (nI (i + 1))) r sh t md (P.2.2 m i).2.2.2.2.toNatClampNeg ob (P.2.2 m i) f)) 0 [some (.inr 0), some (.inl (nI (24 * m + i))), some (.inl (nI f)), none, none, none] [] M
  refine fm_aload_n (pq := 1) hX d_R_does_0 rfl rfl rfl ?_
  refine fm_getr (pq := 4) (q := 3) hX fR_16 rfl rfl d_R_does_1 rfl ?_
  refine fm_iload_n (pq := 5) hX d_R_does_4 rfl rfl rfl ?_
  refine fm_iald (pq := 6) (v := nI ((P.2.2 m i).1)) hX rfl rfl rfl (by omega) (by decide) ((hP m (by omega)).2.2 i (by omega)).1 d_R_does_5 rfl ?_
  refine fm_istore_n (pq := 7) (ls1 := [some (.inr 0), some (.inl (nI (24 * m + i))), some (.inl (nI f)), some (.inl (nI ((P.2.2 m i).1))), none, none]) hX d_R_does_6 rfl (by decide) rfl rfl ?_
  refine fm_aload_n (pq := 8) hX d_R_does_7 rfl rfl rfl ?_
  refine fm_getr (pq := 11) (q := 14) hX fR_50 rfl rfl d_R_does_8 rfl ?_
  refine fm_aload_n (pq := 12) hX d_R_does_11 rfl rfl rfl ?_
  refine fm_geti (pq := 15) (v := nI r) hX fR_157 rfl rfl (by first | exact hr | exact fm_up_s | simp [fm_up, hr] | simp [fm_up, fm_fz, rm_z, hr]) d_R_does_12 rfl ?_
  refine fm_iconst (pq := 16) (v := nI 1) hX d_R_does_15 (by decide) rfl ?_
  refine fm_isub (pq := 17) (v := nI (r - 1)) hX d_R_does_16 (pk_sub (by omega)) rfl ?_
  refine fm_dup2 (pq := 18) hX d_R_does_17 rfl ?_
  refine fm_iald (pq := 19) (v := nI i) hX rfl rfl rfl (by omega) (by decide) hpl d_R_does_18 rfl ?_
  refine fm_iconst (pq := 20) (v := nI 1) hX d_R_does_19 (by decide) rfl ?_
  refine fm_iadd (pq := 21) (v := nI (i + 1)) hX d_R_does_20 (nI_add _ _) rfl ?_
  refine fm_iast (pq := 22) hX rfl rfl rfl (by omega) (by decide) d_R_does_21 rfl ?_
  generalize hM1 : fm_up M 14 (r - 1) (nI (i + 1)) = M1
  have hP1 : rP M1 P := by rw [← hM1]; exact rP_cg hP (fun a j h1 h2 => fm_up_a (by omega))
  have hr0 := hr
  have hr : M1 0 14 = nI r := by rw [← hM1, fm_up_a (by decide)]; exact hr0
  have hmd : M1 0 22 = nI md := by rw [← hM1, fm_up_a (by decide)]; exact hmd
  have hsh : M1 0 25 = nI sh := by rw [← hM1, fm_up_a (by decide)]; exact hsh
  have ht0 : 2 ≤ r → M1 15 (r - 1) = nI t := fun z => by rw [← hM1, fm_up_a (by decide)]; exact ht0 z
  have hob : ¬ f = 1 → M1 16 (4 * (r - 1) + rm_RR (P.2.2 m i)) = nI ob := fun z => by rw [← hM1, fm_up_a (by decide)]; exact hob z
  have hR4 : rm_RR (P.2.2 m i) < 4 := by unfold rm_RR; split <;> omega
  refine fm_iload_n (pq := 23) hX d_R_does_22 rfl rfl rfl ?_
  refine fm_z_ne (tgt := 49) (pq := 26) hX d_R_does_23 rfl rfl (by omega) (fun h23 => ?_) (fun h23 => ?_)
  · show fm_G SR Y_R_does X M (fm_vv (rm_do P M1 r sh t md (P.2.2 m i).2.2.2.2.toNatClampNeg ob (P.2.2 m i) f)) 49 [some (.inr 0), some (.inl (nI (24 * m + i))), some (.inl (nI f)), some (.inl (nI ((P.2.2 m i).1))), none, none] [] M1
    refine fm_iload_n (pq := 50) hX d_R_does_49 rfl rfl rfl ?_
    refine fm_bipush (pq := 52) (v := nI 9) hX d_R_does_50 (by decide) rfl ?_
    refine fm_n_ne (tgt := 158) (pq := 55) hX d_R_does_52 rfl rfl (by omega) (by omega) (fun h52 => ?_) (fun h52 => ?_)
    · show fm_G SR Y_R_does X M (fm_vv (rm_do P M1 r sh t md (P.2.2 m i).2.2.2.2.toNatClampNeg ob (P.2.2 m i) f)) 158 [some (.inr 0), some (.inl (nI (24 * m + i))), some (.inl (nI f)), some (.inl (nI ((P.2.2 m i).1))), none, none] [] M1
      refine fm_iload_n (pq := 159) hX d_R_does_158 rfl rfl rfl ?_
      refine fm_iconst (pq := 160) (v := nI 3) hX d_R_does_159 (by decide) rfl ?_
      refine fm_n_lt (tgt := 169) (pq := 163) hX d_R_does_160 rfl rfl (by omega) (by omega) (fun h160 => ?_) (fun h160 => ?_)
      · show fm_G SR Y_R_does X M (fm_vv (rm_do P M1 r sh t md (P.2.2 m i).2.2.2.2.toNatClampNeg ob (P.2.2 m i) f)) 169 [some (.inr 0), some (.inl (nI (24 * m + i))), some (.inl (nI f)), some (.inl (nI ((P.2.2 m i).1))), none, none] [] M1
        refine fm_iload_n (pq := 170) hX d_R_does_169 rfl rfl rfl ?_
        refine fm_bipush (pq := 172) (v := nI 10) hX d_R_does_170 (by decide) rfl ?_
        refine fm_n_eq (tgt := 181) (pq := 175) hX d_R_does_172 rfl rfl (by omega) (by omega) (fun h172 => ?_) (fun h172 => ?_)
        · show fm_G SR Y_R_does X M (fm_vv (rm_do P M1 r sh t md (P.2.2 m i).2.2.2.2.toNatClampNeg ob (P.2.2 m i) f)) 181 [some (.inr 0), some (.inl (nI (24 * m + i))), some (.inl (nI f)), some (.inl (nI ((P.2.2 m i).1))), none, none] [] M1
          refine fm_iload_n (pq := 182) hX d_R_does_181 rfl rfl rfl ?_
          refine fm_iconst (pq := 183) (v := nI 2) hX d_R_does_182 (by decide) rfl ?_
          refine fm_n_ge (tgt := 204) (pq := 186) hX d_R_does_183 rfl rfl (by omega) (by omega) (fun h183 => ?_) (fun h183 => ?_)
          · show fm_G SR Y_R_does X M (fm_vv (rm_do P M1 r sh t md (P.2.2 m i).2.2.2.2.toNatClampNeg ob (P.2.2 m i) f)) 204 [some (.inr 0), some (.inl (nI (24 * m + i))), some (.inl (nI f)), some (.inl (nI ((P.2.2 m i).1))), none, none] [] M1
            refine fm_iload_n (pq := 205) hX d_R_does_204 rfl rfl rfl ?_
            refine fm_bipush (pq := 207) (v := nI 16) hX d_R_does_205 (by decide) rfl ?_
            refine fm_n_ne (tgt := 218) (pq := 210) hX d_R_does_207 rfl rfl (by omega) (by omega) (fun h207 => ?_) (fun h207 => ?_)
            · show fm_G SR Y_R_does X M (fm_vv (rm_do P M1 r sh t md (P.2.2 m i).2.2.2.2.toNatClampNeg ob (P.2.2 m i) f)) 218 [some (.inr 0), some (.inl (nI (24 * m + i))), some (.inl (nI f)), some (.inl (nI ((P.2.2 m i).1))), none, none] [] M1
              refine fm_iload_n (pq := 219) hX d_R_does_218 rfl rfl rfl ?_
              refine fm_iconst (pq := 220) (v := nI 2) hX d_R_does_219 (by decide) rfl ?_
              refine fm_n_ge (tgt := 228) (pq := 223) hX d_R_does_220 rfl rfl (by omega) (by omega) (fun h220 => ?_) (fun h220 => ?_)
              · show fm_G SR Y_R_does X M (fm_vv (rm_do P M1 r sh t md (P.2.2 m i).2.2.2.2.toNatClampNeg ob (P.2.2 m i) f)) 228 [some (.inr 0), some (.inl (nI (24 * m + i))), some (.inl (nI f)), some (.inl (nI ((P.2.2 m i).1))), none, none] [] M1
                refine fm_vret hX rfl d_R_does_228 ?_
                refine ⟨rfl, ?_⟩
                clear hw6
                first
                | (exfalso; omega)
                | exact (rm_do_n1 h23 h35).symm
                | exact (rm_do_n0 h23 h35).symm
                | (rw [rm_do_s1 h52 h67, decide_eq_true h82]; rfl)
                | (rw [rm_do_s1 h52 h67, decide_eq_false h82]; rfl)
                | (rw [rm_do_s0 h52 h67, decide_eq_true h121]; rfl)
                | (rw [rm_do_s0 h52 h67, decide_eq_false h121]; rfl)
                | exact (rm_do_f1 (by omega) h190).symm
                | exact (rm_do_f0 (by omega) h190).symm
                | (rw [rm_do_c h207, hn, nI_clamp (by omega)]; done)
                | exact (rm_do_m (by omega) (by omega)).symm
                | exact (rm_do_0 (by omega) (by omega)).symm
              · show fm_G SR Y_R_does X M (fm_vv (rm_do P M1 r sh t md (P.2.2 m i).2.2.2.2.toNatClampNeg ob (P.2.2 m i) f)) 223 [some (.inr 0), some (.inl (nI (24 * m + i))), some (.inl (nI f)), some (.inl (nI ((P.2.2 m i).1))), none, none] [] M1
                refine fm_aload_n (pq := 224) hX d_R_does_223 rfl rfl rfl ?_
                refine fm_iload_n (pq := 225) hX d_R_does_224 rfl rfl rfl ?_
                refine fm_callV_v (as := [.inl (nI (24 * m + i))]) (st := []) (pq := 228) hX rfl rfl cR_192 rfl im_R_moves se_R_moves (k_R_moves hm hi M1 hP1 hw hr (by omega) (by omega) hsh (by omega) ht ht0) rfl rfl (Nat.le_of_ble_eq_true rfl) (Nat.le_of_ble_eq_true rfl) d_R_does_225 rfl ?_
                refine fm_vret hX rfl d_R_does_228 ?_
                refine ⟨rfl, ?_⟩
                clear hw6
                first
                | (exfalso; omega)
                | exact (rm_do_n1 h23 h35).symm
                | exact (rm_do_n0 h23 h35).symm
                | (rw [rm_do_s1 h52 h67, decide_eq_true h82]; rfl)
                | (rw [rm_do_s1 h52 h67, decide_eq_false h82]; rfl)
                | (rw [rm_do_s0 h52 h67, decide_eq_true h121]; rfl)
                | (rw [rm_do_s0 h52 h67, decide_eq_false h121]; rfl)
                | exact (rm_do_f1 (by omega) h190).symm
                | exact (rm_do_f0 (by omega) h190).symm
                | (rw [rm_do_c h207, hn, nI_clamp (by omega)]; done)
                | exact (rm_do_m (by omega) (by omega)).symm
                | exact (rm_do_0 (by omega) (by omega)).symm
            · show fm_G SR Y_R_does X M (fm_vv (rm_do P M1 r sh t md (P.2.2 m i).2.2.2.2.toNatClampNeg ob (P.2.2 m i) f)) 210 [some (.inr 0), some (.inl (nI (24 * m + i))), some (.inl (nI f)), some (.inl (nI ((P.2.2 m i).1))), none, none] [] M1
              obtain ⟨k, hk, hn⟩ := hw6 h207
              refine fm_aload_n (pq := 211) hX d_R_does_210 rfl rfl rfl ?_
              refine fm_iload_n (pq := 212) hX d_R_does_211 rfl rfl rfl ?_
              refine fm_callV_v (as := [.inl (nI (24 * m + i))]) (st := []) (pq := 215) hX rfl rfl cR_189 rfl im_R_call se_R_call (k_R_call hm hi M1 hP1 hw hr (by omega) (by omega) hk hn) rfl rfl (Nat.le_of_ble_eq_true rfl) (Nat.le_of_ble_eq_true rfl) d_R_does_212 rfl ?_
              refine fm_goto (tgt := 228) hX d_R_does_215 rfl ?_
              refine fm_vret hX rfl d_R_does_228 ?_
              refine ⟨rfl, ?_⟩
              clear hw6
              first
              | (exfalso; omega)
              | exact (rm_do_n1 h23 h35).symm
              | exact (rm_do_n0 h23 h35).symm
              | (rw [rm_do_s1 h52 h67, decide_eq_true h82]; rfl)
              | (rw [rm_do_s1 h52 h67, decide_eq_false h82]; rfl)
              | (rw [rm_do_s0 h52 h67, decide_eq_true h121]; rfl)
              | (rw [rm_do_s0 h52 h67, decide_eq_false h121]; rfl)
              | exact (rm_do_f1 (by omega) h190).symm
              | exact (rm_do_f0 (by omega) h190).symm
              | (rw [rm_do_c h207, hn, nI_clamp (by omega)]; done)
              | exact (rm_do_m (by omega) (by omega)).symm
              | exact (rm_do_0 (by omega) (by omega)).symm
          · show fm_G SR Y_R_does X M (fm_vv (rm_do P M1 r sh t md (P.2.2 m i).2.2.2.2.toNatClampNeg ob (P.2.2 m i) f)) 186 [some (.inr 0), some (.inl (nI (24 * m + i))), some (.inl (nI f)), some (.inl (nI ((P.2.2 m i).1))), none, none] [] M1
            refine fm_aload_n (pq := 187) hX d_R_does_186 rfl rfl rfl ?_
            refine fm_iload_n (pq := 188) hX d_R_does_187 rfl rfl rfl ?_
            refine fm_iload_n (pq := 189) hX d_R_does_188 rfl rfl rfl ?_
            refine fm_iconst (pq := 190) (v := nI 1) hX d_R_does_189 (by decide) rfl ?_
            refine fm_n_ne (tgt := 197) (pq := 193) hX d_R_does_190 rfl rfl (by omega) (by omega) (fun h190 => ?_) (fun h190 => ?_)
            · show fm_G SR Y_R_does X M (fm_vv (rm_do P M1 r sh t md (P.2.2 m i).2.2.2.2.toNatClampNeg ob (P.2.2 m i) f)) 197 [some (.inr 0), some (.inl (nI (24 * m + i))), some (.inl (nI f)), some (.inl (nI ((P.2.2 m i).1))), none, none] [.inl (nI (24 * m + i)), .inr 0] M1
              refine fm_iconst (pq := 198) (v := nI 0) hX d_R_does_197 (by decide) rfl ?_
              refine fm_callV_v (as := [.inl (nI (24 * m + i)), .inl (nI 0)]) (st := []) (pq := 201) hX rfl rfl cR_186 rfl im_R_fields se_R_fields (k_R_fields0 hm hi M1 hP1 hw hr (by omega) (by omega) (by omega) (ob := ob) (hob h190) (by omega)) rfl rfl (Nat.le_of_ble_eq_true rfl) (Nat.le_of_ble_eq_true rfl) d_R_does_198 rfl ?_
              refine fm_goto (tgt := 228) hX d_R_does_201 rfl ?_
              refine fm_vret hX rfl d_R_does_228 ?_
              refine ⟨rfl, ?_⟩
              clear hw6
              first
              | (exfalso; omega)
              | exact (rm_do_n1 h23 h35).symm
              | exact (rm_do_n0 h23 h35).symm
              | (rw [rm_do_s1 h52 h67, decide_eq_true h82]; rfl)
              | (rw [rm_do_s1 h52 h67, decide_eq_false h82]; rfl)
              | (rw [rm_do_s0 h52 h67, decide_eq_true h121]; rfl)
              | (rw [rm_do_s0 h52 h67, decide_eq_false h121]; rfl)
              | exact (rm_do_f1 (by omega) h190).symm
              | exact (rm_do_f0 (by omega) h190).symm
              | (rw [rm_do_c h207, hn, nI_clamp (by omega)]; done)
              | exact (rm_do_m (by omega) (by omega)).symm
              | exact (rm_do_0 (by omega) (by omega)).symm
            · show fm_G SR Y_R_does X M (fm_vv (rm_do P M1 r sh t md (P.2.2 m i).2.2.2.2.toNatClampNeg ob (P.2.2 m i) f)) 193 [some (.inr 0), some (.inl (nI (24 * m + i))), some (.inl (nI f)), some (.inl (nI ((P.2.2 m i).1))), none, none] [.inl (nI (24 * m + i)), .inr 0] M1
              refine fm_iconst (pq := 194) (v := nI 1) hX d_R_does_193 (by decide) rfl ?_
              refine fm_goto (tgt := 198) hX d_R_does_194 rfl ?_
              refine fm_callV_v (as := [.inl (nI (24 * m + i)), .inl (nI 1)]) (st := []) (pq := 201) hX rfl rfl cR_186 rfl im_R_fields se_R_fields (k_R_fields1 hm hi M1 hP1 hw hr (by omega) (by omega) (by omega)) rfl rfl (Nat.le_of_ble_eq_true rfl) (Nat.le_of_ble_eq_true rfl) d_R_does_198 rfl ?_
              refine fm_goto (tgt := 228) hX d_R_does_201 rfl ?_
              refine fm_vret hX rfl d_R_does_228 ?_
              refine ⟨rfl, ?_⟩
              clear hw6
              first
              | (exfalso; omega)
              | exact (rm_do_n1 h23 h35).symm
              | exact (rm_do_n0 h23 h35).symm
              | (rw [rm_do_s1 h52 h67, decide_eq_true h82]; rfl)
              | (rw [rm_do_s1 h52 h67, decide_eq_false h82]; rfl)
              | (rw [rm_do_s0 h52 h67, decide_eq_true h121]; rfl)
              | (rw [rm_do_s0 h52 h67, decide_eq_false h121]; rfl)
              | exact (rm_do_f1 (by omega) h190).symm
              | exact (rm_do_f0 (by omega) h190).symm
              | (rw [rm_do_c h207, hn, nI_clamp (by omega)]; done)
              | exact (rm_do_m (by omega) (by omega)).symm
              | exact (rm_do_0 (by omega) (by omega)).symm
        · show fm_G SR Y_R_does X M (fm_vv (rm_do P M1 r sh t md (P.2.2 m i).2.2.2.2.toNatClampNeg ob (P.2.2 m i) f)) 175 [some (.inr 0), some (.inl (nI (24 * m + i))), some (.inl (nI f)), some (.inl (nI ((P.2.2 m i).1))), none, none] [] M1
          refine fm_iload_n (pq := 176) hX d_R_does_175 rfl rfl rfl ?_
          refine fm_bipush (pq := 178) (v := nI 11) hX d_R_does_176 (by decide) rfl ?_
          refine fm_n_ne (tgt := 204) (pq := 181) hX d_R_does_178 rfl rfl (by omega) (by omega) (fun h178 => ?_) (fun h178 => ?_)
          · show fm_G SR Y_R_does X M (fm_vv (rm_do P M1 r sh t md (P.2.2 m i).2.2.2.2.toNatClampNeg ob (P.2.2 m i) f)) 204 [some (.inr 0), some (.inl (nI (24 * m + i))), some (.inl (nI f)), some (.inl (nI ((P.2.2 m i).1))), none, none] [] M1
            refine fm_iload_n (pq := 205) hX d_R_does_204 rfl rfl rfl ?_
            refine fm_bipush (pq := 207) (v := nI 16) hX d_R_does_205 (by decide) rfl ?_
            refine fm_n_ne (tgt := 218) (pq := 210) hX d_R_does_207 rfl rfl (by omega) (by omega) (fun h207 => ?_) (fun h207 => ?_)
            · show fm_G SR Y_R_does X M (fm_vv (rm_do P M1 r sh t md (P.2.2 m i).2.2.2.2.toNatClampNeg ob (P.2.2 m i) f)) 218 [some (.inr 0), some (.inl (nI (24 * m + i))), some (.inl (nI f)), some (.inl (nI ((P.2.2 m i).1))), none, none] [] M1
              refine fm_iload_n (pq := 219) hX d_R_does_218 rfl rfl rfl ?_
              refine fm_iconst (pq := 220) (v := nI 2) hX d_R_does_219 (by decide) rfl ?_
              refine fm_n_ge (tgt := 228) (pq := 223) hX d_R_does_220 rfl rfl (by omega) (by omega) (fun h220 => ?_) (fun h220 => ?_)
              · show fm_G SR Y_R_does X M (fm_vv (rm_do P M1 r sh t md (P.2.2 m i).2.2.2.2.toNatClampNeg ob (P.2.2 m i) f)) 228 [some (.inr 0), some (.inl (nI (24 * m + i))), some (.inl (nI f)), some (.inl (nI ((P.2.2 m i).1))), none, none] [] M1
                refine fm_vret hX rfl d_R_does_228 ?_
                refine ⟨rfl, ?_⟩
                clear hw6
                first
                | (exfalso; omega)
                | exact (rm_do_n1 h23 h35).symm
                | exact (rm_do_n0 h23 h35).symm
                | (rw [rm_do_s1 h52 h67, decide_eq_true h82]; rfl)
                | (rw [rm_do_s1 h52 h67, decide_eq_false h82]; rfl)
                | (rw [rm_do_s0 h52 h67, decide_eq_true h121]; rfl)
                | (rw [rm_do_s0 h52 h67, decide_eq_false h121]; rfl)
                | exact (rm_do_f1 (by omega) h190).symm
                | exact (rm_do_f0 (by omega) h190).symm
                | (rw [rm_do_c h207, hn, nI_clamp (by omega)]; done)
                | exact (rm_do_m (by omega) (by omega)).symm
                | exact (rm_do_0 (by omega) (by omega)).symm
              · show fm_G SR Y_R_does X M (fm_vv (rm_do P M1 r sh t md (P.2.2 m i).2.2.2.2.toNatClampNeg ob (P.2.2 m i) f)) 223 [some (.inr 0), some (.inl (nI (24 * m + i))), some (.inl (nI f)), some (.inl (nI ((P.2.2 m i).1))), none, none] [] M1
                refine fm_aload_n (pq := 224) hX d_R_does_223 rfl rfl rfl ?_
                refine fm_iload_n (pq := 225) hX d_R_does_224 rfl rfl rfl ?_
                refine fm_callV_v (as := [.inl (nI (24 * m + i))]) (st := []) (pq := 228) hX rfl rfl cR_192 rfl im_R_moves se_R_moves (k_R_moves hm hi M1 hP1 hw hr (by omega) (by omega) hsh (by omega) ht ht0) rfl rfl (Nat.le_of_ble_eq_true rfl) (Nat.le_of_ble_eq_true rfl) d_R_does_225 rfl ?_
                refine fm_vret hX rfl d_R_does_228 ?_
                refine ⟨rfl, ?_⟩
                clear hw6
                first
                | (exfalso; omega)
                | exact (rm_do_n1 h23 h35).symm
                | exact (rm_do_n0 h23 h35).symm
                | (rw [rm_do_s1 h52 h67, decide_eq_true h82]; rfl)
                | (rw [rm_do_s1 h52 h67, decide_eq_false h82]; rfl)
                | (rw [rm_do_s0 h52 h67, decide_eq_true h121]; rfl)
                | (rw [rm_do_s0 h52 h67, decide_eq_false h121]; rfl)
                | exact (rm_do_f1 (by omega) h190).symm
                | exact (rm_do_f0 (by omega) h190).symm
                | (rw [rm_do_c h207, hn, nI_clamp (by omega)]; done)
                | exact (rm_do_m (by omega) (by omega)).symm
                | exact (rm_do_0 (by omega) (by omega)).symm
            · show fm_G SR Y_R_does X M (fm_vv (rm_do P M1 r sh t md (P.2.2 m i).2.2.2.2.toNatClampNeg ob (P.2.2 m i) f)) 210 [some (.inr 0), some (.inl (nI (24 * m + i))), some (.inl (nI f)), some (.inl (nI ((P.2.2 m i).1))), none, none] [] M1
              obtain ⟨k, hk, hn⟩ := hw6 h207
              refine fm_aload_n (pq := 211) hX d_R_does_210 rfl rfl rfl ?_
              refine fm_iload_n (pq := 212) hX d_R_does_211 rfl rfl rfl ?_
              refine fm_callV_v (as := [.inl (nI (24 * m + i))]) (st := []) (pq := 215) hX rfl rfl cR_189 rfl im_R_call se_R_call (k_R_call hm hi M1 hP1 hw hr (by omega) (by omega) hk hn) rfl rfl (Nat.le_of_ble_eq_true rfl) (Nat.le_of_ble_eq_true rfl) d_R_does_212 rfl ?_
              refine fm_goto (tgt := 228) hX d_R_does_215 rfl ?_
              refine fm_vret hX rfl d_R_does_228 ?_
              refine ⟨rfl, ?_⟩
              clear hw6
              first
              | (exfalso; omega)
              | exact (rm_do_n1 h23 h35).symm
              | exact (rm_do_n0 h23 h35).symm
              | (rw [rm_do_s1 h52 h67, decide_eq_true h82]; rfl)
              | (rw [rm_do_s1 h52 h67, decide_eq_false h82]; rfl)
              | (rw [rm_do_s0 h52 h67, decide_eq_true h121]; rfl)
              | (rw [rm_do_s0 h52 h67, decide_eq_false h121]; rfl)
              | exact (rm_do_f1 (by omega) h190).symm
              | exact (rm_do_f0 (by omega) h190).symm
              | (rw [rm_do_c h207, hn, nI_clamp (by omega)]; done)
              | exact (rm_do_m (by omega) (by omega)).symm
              | exact (rm_do_0 (by omega) (by omega)).symm
          · show fm_G SR Y_R_does X M (fm_vv (rm_do P M1 r sh t md (P.2.2 m i).2.2.2.2.toNatClampNeg ob (P.2.2 m i) f)) 181 [some (.inr 0), some (.inl (nI (24 * m + i))), some (.inl (nI f)), some (.inl (nI ((P.2.2 m i).1))), none, none] [] M1
            refine fm_iload_n (pq := 182) hX d_R_does_181 rfl rfl rfl ?_
            refine fm_iconst (pq := 183) (v := nI 2) hX d_R_does_182 (by decide) rfl ?_
            refine fm_n_ge (tgt := 204) (pq := 186) hX d_R_does_183 rfl rfl (by omega) (by omega) (fun h183 => ?_) (fun h183 => ?_)
            · show fm_G SR Y_R_does X M (fm_vv (rm_do P M1 r sh t md (P.2.2 m i).2.2.2.2.toNatClampNeg ob (P.2.2 m i) f)) 204 [some (.inr 0), some (.inl (nI (24 * m + i))), some (.inl (nI f)), some (.inl (nI ((P.2.2 m i).1))), none, none] [] M1
              refine fm_iload_n (pq := 205) hX d_R_does_204 rfl rfl rfl ?_
              refine fm_bipush (pq := 207) (v := nI 16) hX d_R_does_205 (by decide) rfl ?_
              refine fm_n_ne (tgt := 218) (pq := 210) hX d_R_does_207 rfl rfl (by omega) (by omega) (fun h207 => ?_) (fun h207 => ?_)
              · show fm_G SR Y_R_does X M (fm_vv (rm_do P M1 r sh t md (P.2.2 m i).2.2.2.2.toNatClampNeg ob (P.2.2 m i) f)) 218 [some (.inr 0), some (.inl (nI (24 * m + i))), some (.inl (nI f)), some (.inl (nI ((P.2.2 m i).1))), none, none] [] M1
                refine fm_iload_n (pq := 219) hX d_R_does_218 rfl rfl rfl ?_
                refine fm_iconst (pq := 220) (v := nI 2) hX d_R_does_219 (by decide) rfl ?_
                refine fm_n_ge (tgt := 228) (pq := 223) hX d_R_does_220 rfl rfl (by omega) (by omega) (fun h220 => ?_) (fun h220 => ?_)
                · show fm_G SR Y_R_does X M (fm_vv (rm_do P M1 r sh t md (P.2.2 m i).2.2.2.2.toNatClampNeg ob (P.2.2 m i) f)) 228 [some (.inr 0), some (.inl (nI (24 * m + i))), some (.inl (nI f)), some (.inl (nI ((P.2.2 m i).1))), none, none] [] M1
                  refine fm_vret hX rfl d_R_does_228 ?_
                  refine ⟨rfl, ?_⟩
                  clear hw6
                  first
                  | (exfalso; omega)
                  | exact (rm_do_n1 h23 h35).symm
                  | exact (rm_do_n0 h23 h35).symm
                  | (rw [rm_do_s1 h52 h67, decide_eq_true h82]; rfl)
                  | (rw [rm_do_s1 h52 h67, decide_eq_false h82]; rfl)
                  | (rw [rm_do_s0 h52 h67, decide_eq_true h121]; rfl)
                  | (rw [rm_do_s0 h52 h67, decide_eq_false h121]; rfl)
                  | exact (rm_do_f1 (by omega) h190).symm
                  | exact (rm_do_f0 (by omega) h190).symm
                  | (rw [rm_do_c h207, hn, nI_clamp (by omega)]; done)
                  | exact (rm_do_m (by omega) (by omega)).symm
                  | exact (rm_do_0 (by omega) (by omega)).symm
                · show fm_G SR Y_R_does X M (fm_vv (rm_do P M1 r sh t md (P.2.2 m i).2.2.2.2.toNatClampNeg ob (P.2.2 m i) f)) 223 [some (.inr 0), some (.inl (nI (24 * m + i))), some (.inl (nI f)), some (.inl (nI ((P.2.2 m i).1))), none, none] [] M1
                  refine fm_aload_n (pq := 224) hX d_R_does_223 rfl rfl rfl ?_
                  refine fm_iload_n (pq := 225) hX d_R_does_224 rfl rfl rfl ?_
                  refine fm_callV_v (as := [.inl (nI (24 * m + i))]) (st := []) (pq := 228) hX rfl rfl cR_192 rfl im_R_moves se_R_moves (k_R_moves hm hi M1 hP1 hw hr (by omega) (by omega) hsh (by omega) ht ht0) rfl rfl (Nat.le_of_ble_eq_true rfl) (Nat.le_of_ble_eq_true rfl) d_R_does_225 rfl ?_
                  refine fm_vret hX rfl d_R_does_228 ?_
                  refine ⟨rfl, ?_⟩
                  clear hw6
                  first
                  | (exfalso; omega)
                  | exact (rm_do_n1 h23 h35).symm
                  | exact (rm_do_n0 h23 h35).symm
                  | (rw [rm_do_s1 h52 h67, decide_eq_true h82]; rfl)
                  | (rw [rm_do_s1 h52 h67, decide_eq_false h82]; rfl)
                  | (rw [rm_do_s0 h52 h67, decide_eq_true h121]; rfl)
                  | (rw [rm_do_s0 h52 h67, decide_eq_false h121]; rfl)
                  | exact (rm_do_f1 (by omega) h190).symm
                  | exact (rm_do_f0 (by omega) h190).symm
                  | (rw [rm_do_c h207, hn, nI_clamp (by omega)]; done)
                  | exact (rm_do_m (by omega) (by omega)).symm
                  | exact (rm_do_0 (by omega) (by omega)).symm
              · show fm_G SR Y_R_does X M (fm_vv (rm_do P M1 r sh t md (P.2.2 m i).2.2.2.2.toNatClampNeg ob (P.2.2 m i) f)) 210 [some (.inr 0), some (.inl (nI (24 * m + i))), some (.inl (nI f)), some (.inl (nI ((P.2.2 m i).1))), none, none] [] M1
                obtain ⟨k, hk, hn⟩ := hw6 h207
                refine fm_aload_n (pq := 211) hX d_R_does_210 rfl rfl rfl ?_
                refine fm_iload_n (pq := 212) hX d_R_does_211 rfl rfl rfl ?_
                refine fm_callV_v (as := [.inl (nI (24 * m + i))]) (st := []) (pq := 215) hX rfl rfl cR_189 rfl im_R_call se_R_call (k_R_call hm hi M1 hP1 hw hr (by omega) (by omega) hk hn) rfl rfl (Nat.le_of_ble_eq_true rfl) (Nat.le_of_ble_eq_true rfl) d_R_does_212 rfl ?_
                refine fm_goto (tgt := 228) hX d_R_does_215 rfl ?_
                refine fm_vret hX rfl d_R_does_228 ?_
                refine ⟨rfl, ?_⟩
                clear hw6
                first
                | (exfalso; omega)
                | exact (rm_do_n1 h23 h35).symm
                | exact (rm_do_n0 h23 h35).symm
                | (rw [rm_do_s1 h52 h67, decide_eq_true h82]; rfl)
                | (rw [rm_do_s1 h52 h67, decide_eq_false h82]; rfl)
                | (rw [rm_do_s0 h52 h67, decide_eq_true h121]; rfl)
                | (rw [rm_do_s0 h52 h67, decide_eq_false h121]; rfl)
                | exact (rm_do_f1 (by omega) h190).symm
                | exact (rm_do_f0 (by omega) h190).symm
                | (rw [rm_do_c h207, hn, nI_clamp (by omega)]; done)
                | exact (rm_do_m (by omega) (by omega)).symm
                | exact (rm_do_0 (by omega) (by omega)).symm
            · show fm_G SR Y_R_does X M (fm_vv (rm_do P M1 r sh t md (P.2.2 m i).2.2.2.2.toNatClampNeg ob (P.2.2 m i) f)) 186 [some (.inr 0), some (.inl (nI (24 * m + i))), some (.inl (nI f)), some (.inl (nI ((P.2.2 m i).1))), none, none] [] M1
              refine fm_aload_n (pq := 187) hX d_R_does_186 rfl rfl rfl ?_
              refine fm_iload_n (pq := 188) hX d_R_does_187 rfl rfl rfl ?_
              refine fm_iload_n (pq := 189) hX d_R_does_188 rfl rfl rfl ?_
              refine fm_iconst (pq := 190) (v := nI 1) hX d_R_does_189 (by decide) rfl ?_
              refine fm_n_ne (tgt := 197) (pq := 193) hX d_R_does_190 rfl rfl (by omega) (by omega) (fun h190 => ?_) (fun h190 => ?_)
              · show fm_G SR Y_R_does X M (fm_vv (rm_do P M1 r sh t md (P.2.2 m i).2.2.2.2.toNatClampNeg ob (P.2.2 m i) f)) 197 [some (.inr 0), some (.inl (nI (24 * m + i))), some (.inl (nI f)), some (.inl (nI ((P.2.2 m i).1))), none, none] [.inl (nI (24 * m + i)), .inr 0] M1
                refine fm_iconst (pq := 198) (v := nI 0) hX d_R_does_197 (by decide) rfl ?_
                refine fm_callV_v (as := [.inl (nI (24 * m + i)), .inl (nI 0)]) (st := []) (pq := 201) hX rfl rfl cR_186 rfl im_R_fields se_R_fields (k_R_fields0 hm hi M1 hP1 hw hr (by omega) (by omega) (by omega) (ob := ob) (hob h190) (by omega)) rfl rfl (Nat.le_of_ble_eq_true rfl) (Nat.le_of_ble_eq_true rfl) d_R_does_198 rfl ?_
                refine fm_goto (tgt := 228) hX d_R_does_201 rfl ?_
                refine fm_vret hX rfl d_R_does_228 ?_
                refine ⟨rfl, ?_⟩
                clear hw6
                first
                | (exfalso; omega)
                | exact (rm_do_n1 h23 h35).symm
                | exact (rm_do_n0 h23 h35).symm
                | (rw [rm_do_s1 h52 h67, decide_eq_true h82]; rfl)
                | (rw [rm_do_s1 h52 h67, decide_eq_false h82]; rfl)
                | (rw [rm_do_s0 h52 h67, decide_eq_true h121]; rfl)
                | (rw [rm_do_s0 h52 h67, decide_eq_false h121]; rfl)
                | exact (rm_do_f1 (by omega) h190).symm
                | exact (rm_do_f0 (by omega) h190).symm
                | (rw [rm_do_c h207, hn, nI_clamp (by omega)]; done)
                | exact (rm_do_m (by omega) (by omega)).symm
                | exact (rm_do_0 (by omega) (by omega)).symm
              · show fm_G SR Y_R_does X M (fm_vv (rm_do P M1 r sh t md (P.2.2 m i).2.2.2.2.toNatClampNeg ob (P.2.2 m i) f)) 193 [some (.inr 0), some (.inl (nI (24 * m + i))), some (.inl (nI f)), some (.inl (nI ((P.2.2 m i).1))), none, none] [.inl (nI (24 * m + i)), .inr 0] M1
                refine fm_iconst (pq := 194) (v := nI 1) hX d_R_does_193 (by decide) rfl ?_
                refine fm_goto (tgt := 198) hX d_R_does_194 rfl ?_
                refine fm_callV_v (as := [.inl (nI (24 * m + i)), .inl (nI 1)]) (st := []) (pq := 201) hX rfl rfl cR_186 rfl im_R_fields se_R_fields (k_R_fields1 hm hi M1 hP1 hw hr (by omega) (by omega) (by omega)) rfl rfl (Nat.le_of_ble_eq_true rfl) (Nat.le_of_ble_eq_true rfl) d_R_does_198 rfl ?_
                refine fm_goto (tgt := 228) hX d_R_does_201 rfl ?_
                refine fm_vret hX rfl d_R_does_228 ?_
                refine ⟨rfl, ?_⟩
                clear hw6
                first
                | (exfalso; omega)
                | exact (rm_do_n1 h23 h35).symm
                | exact (rm_do_n0 h23 h35).symm
                | (rw [rm_do_s1 h52 h67, decide_eq_true h82]; rfl)
                | (rw [rm_do_s1 h52 h67, decide_eq_false h82]; rfl)
                | (rw [rm_do_s0 h52 h67, decide_eq_true h121]; rfl)
                | (rw [rm_do_s0 h52 h67, decide_eq_false h121]; rfl)
                | exact (rm_do_f1 (by omega) h190).symm
                | exact (rm_do_f0 (by omega) h190).symm
                | (rw [rm_do_c h207, hn, nI_clamp (by omega)]; done)
                | exact (rm_do_m (by omega) (by omega)).symm
                | exact (rm_do_0 (by omega) (by omega)).symm
      · show fm_G SR Y_R_does X M (fm_vv (rm_do P M1 r sh t md (P.2.2 m i).2.2.2.2.toNatClampNeg ob (P.2.2 m i) f)) 163 [some (.inr 0), some (.inl (nI (24 * m + i))), some (.inl (nI f)), some (.inl (nI ((P.2.2 m i).1))), none, none] [] M1
        refine fm_iload_n (pq := 164) hX d_R_does_163 rfl rfl rfl ?_
        refine fm_bipush (pq := 166) (v := nI 6) hX d_R_does_164 (by decide) rfl ?_
        refine fm_n_le (tgt := 186) (pq := 169) hX d_R_does_166 rfl rfl (by omega) (by omega) (fun h166 => ?_) (fun h166 => ?_)
        · show fm_G SR Y_R_does X M (fm_vv (rm_do P M1 r sh t md (P.2.2 m i).2.2.2.2.toNatClampNeg ob (P.2.2 m i) f)) 186 [some (.inr 0), some (.inl (nI (24 * m + i))), some (.inl (nI f)), some (.inl (nI ((P.2.2 m i).1))), none, none] [] M1
          refine fm_aload_n (pq := 187) hX d_R_does_186 rfl rfl rfl ?_
          refine fm_iload_n (pq := 188) hX d_R_does_187 rfl rfl rfl ?_
          refine fm_iload_n (pq := 189) hX d_R_does_188 rfl rfl rfl ?_
          refine fm_iconst (pq := 190) (v := nI 1) hX d_R_does_189 (by decide) rfl ?_
          refine fm_n_ne (tgt := 197) (pq := 193) hX d_R_does_190 rfl rfl (by omega) (by omega) (fun h190 => ?_) (fun h190 => ?_)
          · show fm_G SR Y_R_does X M (fm_vv (rm_do P M1 r sh t md (P.2.2 m i).2.2.2.2.toNatClampNeg ob (P.2.2 m i) f)) 197 [some (.inr 0), some (.inl (nI (24 * m + i))), some (.inl (nI f)), some (.inl (nI ((P.2.2 m i).1))), none, none] [.inl (nI (24 * m + i)), .inr 0] M1
            refine fm_iconst (pq := 198) (v := nI 0) hX d_R_does_197 (by decide) rfl ?_
            refine fm_callV_v (as := [.inl (nI (24 * m + i)), .inl (nI 0)]) (st := []) (pq := 201) hX rfl rfl cR_186 rfl im_R_fields se_R_fields (k_R_fields0 hm hi M1 hP1 hw hr (by omega) (by omega) (by omega) (ob := ob) (hob h190) (by omega)) rfl rfl (Nat.le_of_ble_eq_true rfl) (Nat.le_of_ble_eq_true rfl) d_R_does_198 rfl ?_
            refine fm_goto (tgt := 228) hX d_R_does_201 rfl ?_
            refine fm_vret hX rfl d_R_does_228 ?_
            refine ⟨rfl, ?_⟩
            clear hw6
            first
            | (exfalso; omega)
            | exact (rm_do_n1 h23 h35).symm
            | exact (rm_do_n0 h23 h35).symm
            | (rw [rm_do_s1 h52 h67, decide_eq_true h82]; rfl)
            | (rw [rm_do_s1 h52 h67, decide_eq_false h82]; rfl)
            | (rw [rm_do_s0 h52 h67, decide_eq_true h121]; rfl)
            | (rw [rm_do_s0 h52 h67, decide_eq_false h121]; rfl)
            | exact (rm_do_f1 (by omega) h190).symm
            | exact (rm_do_f0 (by omega) h190).symm
            | (rw [rm_do_c h207, hn, nI_clamp (by omega)]; done)
            | exact (rm_do_m (by omega) (by omega)).symm
            | exact (rm_do_0 (by omega) (by omega)).symm
          · show fm_G SR Y_R_does X M (fm_vv (rm_do P M1 r sh t md (P.2.2 m i).2.2.2.2.toNatClampNeg ob (P.2.2 m i) f)) 193 [some (.inr 0), some (.inl (nI (24 * m + i))), some (.inl (nI f)), some (.inl (nI ((P.2.2 m i).1))), none, none] [.inl (nI (24 * m + i)), .inr 0] M1
            refine fm_iconst (pq := 194) (v := nI 1) hX d_R_does_193 (by decide) rfl ?_
            refine fm_goto (tgt := 198) hX d_R_does_194 rfl ?_
            refine fm_callV_v (as := [.inl (nI (24 * m + i)), .inl (nI 1)]) (st := []) (pq := 201) hX rfl rfl cR_186 rfl im_R_fields se_R_fields (k_R_fields1 hm hi M1 hP1 hw hr (by omega) (by omega) (by omega)) rfl rfl (Nat.le_of_ble_eq_true rfl) (Nat.le_of_ble_eq_true rfl) d_R_does_198 rfl ?_
            refine fm_goto (tgt := 228) hX d_R_does_201 rfl ?_
            refine fm_vret hX rfl d_R_does_228 ?_
            refine ⟨rfl, ?_⟩
            clear hw6
            first
            | (exfalso; omega)
            | exact (rm_do_n1 h23 h35).symm
            | exact (rm_do_n0 h23 h35).symm
            | (rw [rm_do_s1 h52 h67, decide_eq_true h82]; rfl)
            | (rw [rm_do_s1 h52 h67, decide_eq_false h82]; rfl)
            | (rw [rm_do_s0 h52 h67, decide_eq_true h121]; rfl)
            | (rw [rm_do_s0 h52 h67, decide_eq_false h121]; rfl)
            | exact (rm_do_f1 (by omega) h190).symm
            | exact (rm_do_f0 (by omega) h190).symm
            | (rw [rm_do_c h207, hn, nI_clamp (by omega)]; done)
            | exact (rm_do_m (by omega) (by omega)).symm
            | exact (rm_do_0 (by omega) (by omega)).symm
        · show fm_G SR Y_R_does X M (fm_vv (rm_do P M1 r sh t md (P.2.2 m i).2.2.2.2.toNatClampNeg ob (P.2.2 m i) f)) 169 [some (.inr 0), some (.inl (nI (24 * m + i))), some (.inl (nI f)), some (.inl (nI ((P.2.2 m i).1))), none, none] [] M1
          refine fm_iload_n (pq := 170) hX d_R_does_169 rfl rfl rfl ?_
          refine fm_bipush (pq := 172) (v := nI 10) hX d_R_does_170 (by decide) rfl ?_
          refine fm_n_eq (tgt := 181) (pq := 175) hX d_R_does_172 rfl rfl (by omega) (by omega) (fun h172 => ?_) (fun h172 => ?_)
          · show fm_G SR Y_R_does X M (fm_vv (rm_do P M1 r sh t md (P.2.2 m i).2.2.2.2.toNatClampNeg ob (P.2.2 m i) f)) 181 [some (.inr 0), some (.inl (nI (24 * m + i))), some (.inl (nI f)), some (.inl (nI ((P.2.2 m i).1))), none, none] [] M1
            refine fm_iload_n (pq := 182) hX d_R_does_181 rfl rfl rfl ?_
            refine fm_iconst (pq := 183) (v := nI 2) hX d_R_does_182 (by decide) rfl ?_
            refine fm_n_ge (tgt := 204) (pq := 186) hX d_R_does_183 rfl rfl (by omega) (by omega) (fun h183 => ?_) (fun h183 => ?_)
            · show fm_G SR Y_R_does X M (fm_vv (rm_do P M1 r sh t md (P.2.2 m i).2.2.2.2.toNatClampNeg ob (P.2.2 m i) f)) 204 [some (.inr 0), some (.inl (nI (24 * m + i))), some (.inl (nI f)), some (.inl (nI ((P.2.2 m i).1))), none, none] [] M1
              refine fm_iload_n (pq := 205) hX d_R_does_204 rfl rfl rfl ?_
              refine fm_bipush (pq := 207) (v := nI 16) hX d_R_does_205 (by decide) rfl ?_
              refine fm_n_ne (tgt := 218) (pq := 210) hX d_R_does_207 rfl rfl (by omega) (by omega) (fun h207 => ?_) (fun h207 => ?_)
              · show fm_G SR Y_R_does X M (fm_vv (rm_do P M1 r sh t md (P.2.2 m i).2.2.2.2.toNatClampNeg ob (P.2.2 m i) f)) 218 [some (.inr 0), some (.inl (nI (24 * m + i))), some (.inl (nI f)), some (.inl (nI ((P.2.2 m i).1))), none, none] [] M1
                refine fm_iload_n (pq := 219) hX d_R_does_218 rfl rfl rfl ?_
                refine fm_iconst (pq := 220) (v := nI 2) hX d_R_does_219 (by decide) rfl ?_
                refine fm_n_ge (tgt := 228) (pq := 223) hX d_R_does_220 rfl rfl (by omega) (by omega) (fun h220 => ?_) (fun h220 => ?_)
                · show fm_G SR Y_R_does X M (fm_vv (rm_do P M1 r sh t md (P.2.2 m i).2.2.2.2.toNatClampNeg ob (P.2.2 m i) f)) 228 [some (.inr 0), some (.inl (nI (24 * m + i))), some (.inl (nI f)), some (.inl (nI ((P.2.2 m i).1))), none, none] [] M1
                  refine fm_vret hX rfl d_R_does_228 ?_
                  refine ⟨rfl, ?_⟩
                  clear hw6
                  first
                  | (exfalso; omega)
                  | exact (rm_do_n1 h23 h35).symm
                  | exact (rm_do_n0 h23 h35).symm
                  | (rw [rm_do_s1 h52 h67, decide_eq_true h82]; rfl)
                  | (rw [rm_do_s1 h52 h67, decide_eq_false h82]; rfl)
                  | (rw [rm_do_s0 h52 h67, decide_eq_true h121]; rfl)
                  | (rw [rm_do_s0 h52 h67, decide_eq_false h121]; rfl)
                  | exact (rm_do_f1 (by omega) h190).symm
                  | exact (rm_do_f0 (by omega) h190).symm
                  | (rw [rm_do_c h207, hn, nI_clamp (by omega)]; done)
                  | exact (rm_do_m (by omega) (by omega)).symm
                  | exact (rm_do_0 (by omega) (by omega)).symm
                · show fm_G SR Y_R_does X M (fm_vv (rm_do P M1 r sh t md (P.2.2 m i).2.2.2.2.toNatClampNeg ob (P.2.2 m i) f)) 223 [some (.inr 0), some (.inl (nI (24 * m + i))), some (.inl (nI f)), some (.inl (nI ((P.2.2 m i).1))), none, none] [] M1
                  refine fm_aload_n (pq := 224) hX d_R_does_223 rfl rfl rfl ?_
                  refine fm_iload_n (pq := 225) hX d_R_does_224 rfl rfl rfl ?_
                  refine fm_callV_v (as := [.inl (nI (24 * m + i))]) (st := []) (pq := 228) hX rfl rfl cR_192 rfl im_R_moves se_R_moves (k_R_moves hm hi M1 hP1 hw hr (by omega) (by omega) hsh (by omega) ht ht0) rfl rfl (Nat.le_of_ble_eq_true rfl) (Nat.le_of_ble_eq_true rfl) d_R_does_225 rfl ?_
                  refine fm_vret hX rfl d_R_does_228 ?_
                  refine ⟨rfl, ?_⟩
                  clear hw6
                  first
                  | (exfalso; omega)
                  | exact (rm_do_n1 h23 h35).symm
                  | exact (rm_do_n0 h23 h35).symm
                  | (rw [rm_do_s1 h52 h67, decide_eq_true h82]; rfl)
                  | (rw [rm_do_s1 h52 h67, decide_eq_false h82]; rfl)
                  | (rw [rm_do_s0 h52 h67, decide_eq_true h121]; rfl)
                  | (rw [rm_do_s0 h52 h67, decide_eq_false h121]; rfl)
                  | exact (rm_do_f1 (by omega) h190).symm
                  | exact (rm_do_f0 (by omega) h190).symm
                  | (rw [rm_do_c h207, hn, nI_clamp (by omega)]; done)
                  | exact (rm_do_m (by omega) (by omega)).symm
                  | exact (rm_do_0 (by omega) (by omega)).symm
              · show fm_G SR Y_R_does X M (fm_vv (rm_do P M1 r sh t md (P.2.2 m i).2.2.2.2.toNatClampNeg ob (P.2.2 m i) f)) 210 [some (.inr 0), some (.inl (nI (24 * m + i))), some (.inl (nI f)), some (.inl (nI ((P.2.2 m i).1))), none, none] [] M1
                obtain ⟨k, hk, hn⟩ := hw6 h207
                refine fm_aload_n (pq := 211) hX d_R_does_210 rfl rfl rfl ?_
                refine fm_iload_n (pq := 212) hX d_R_does_211 rfl rfl rfl ?_
                refine fm_callV_v (as := [.inl (nI (24 * m + i))]) (st := []) (pq := 215) hX rfl rfl cR_189 rfl im_R_call se_R_call (k_R_call hm hi M1 hP1 hw hr (by omega) (by omega) hk hn) rfl rfl (Nat.le_of_ble_eq_true rfl) (Nat.le_of_ble_eq_true rfl) d_R_does_212 rfl ?_
                refine fm_goto (tgt := 228) hX d_R_does_215 rfl ?_
                refine fm_vret hX rfl d_R_does_228 ?_
                refine ⟨rfl, ?_⟩
                clear hw6
                first
                | (exfalso; omega)
                | exact (rm_do_n1 h23 h35).symm
                | exact (rm_do_n0 h23 h35).symm
                | (rw [rm_do_s1 h52 h67, decide_eq_true h82]; rfl)
                | (rw [rm_do_s1 h52 h67, decide_eq_false h82]; rfl)
                | (rw [rm_do_s0 h52 h67, decide_eq_true h121]; rfl)
                | (rw [rm_do_s0 h52 h67, decide_eq_false h121]; rfl)
                | exact (rm_do_f1 (by omega) h190).symm
                | exact (rm_do_f0 (by omega) h190).symm
                | (rw [rm_do_c h207, hn, nI_clamp (by omega)]; done)
                | exact (rm_do_m (by omega) (by omega)).symm
                | exact (rm_do_0 (by omega) (by omega)).symm
            · show fm_G SR Y_R_does X M (fm_vv (rm_do P M1 r sh t md (P.2.2 m i).2.2.2.2.toNatClampNeg ob (P.2.2 m i) f)) 186 [some (.inr 0), some (.inl (nI (24 * m + i))), some (.inl (nI f)), some (.inl (nI ((P.2.2 m i).1))), none, none] [] M1
              refine fm_aload_n (pq := 187) hX d_R_does_186 rfl rfl rfl ?_
              refine fm_iload_n (pq := 188) hX d_R_does_187 rfl rfl rfl ?_
              refine fm_iload_n (pq := 189) hX d_R_does_188 rfl rfl rfl ?_
              refine fm_iconst (pq := 190) (v := nI 1) hX d_R_does_189 (by decide) rfl ?_
              refine fm_n_ne (tgt := 197) (pq := 193) hX d_R_does_190 rfl rfl (by omega) (by omega) (fun h190 => ?_) (fun h190 => ?_)
              · show fm_G SR Y_R_does X M (fm_vv (rm_do P M1 r sh t md (P.2.2 m i).2.2.2.2.toNatClampNeg ob (P.2.2 m i) f)) 197 [some (.inr 0), some (.inl (nI (24 * m + i))), some (.inl (nI f)), some (.inl (nI ((P.2.2 m i).1))), none, none] [.inl (nI (24 * m + i)), .inr 0] M1
                refine fm_iconst (pq := 198) (v := nI 0) hX d_R_does_197 (by decide) rfl ?_
                refine fm_callV_v (as := [.inl (nI (24 * m + i)), .inl (nI 0)]) (st := []) (pq := 201) hX rfl rfl cR_186 rfl im_R_fields se_R_fields (k_R_fields0 hm hi M1 hP1 hw hr (by omega) (by omega) (by omega) (ob := ob) (hob h190) (by omega)) rfl rfl (Nat.le_of_ble_eq_true rfl) (Nat.le_of_ble_eq_true rfl) d_R_does_198 rfl ?_
                refine fm_goto (tgt := 228) hX d_R_does_201 rfl ?_
                refine fm_vret hX rfl d_R_does_228 ?_
                refine ⟨rfl, ?_⟩
                clear hw6
                first
                | (exfalso; omega)
                | exact (rm_do_n1 h23 h35).symm
                | exact (rm_do_n0 h23 h35).symm
                | (rw [rm_do_s1 h52 h67, decide_eq_true h82]; rfl)
                | (rw [rm_do_s1 h52 h67, decide_eq_false h82]; rfl)
                | (rw [rm_do_s0 h52 h67, decide_eq_true h121]; rfl)
                | (rw [rm_do_s0 h52 h67, decide_eq_false h121]; rfl)
                | exact (rm_do_f1 (by omega) h190).symm
                | exact (rm_do_f0 (by omega) h190).symm
                | (rw [rm_do_c h207, hn, nI_clamp (by omega)]; done)
                | exact (rm_do_m (by omega) (by omega)).symm
                | exact (rm_do_0 (by omega) (by omega)).symm
              · show fm_G SR Y_R_does X M (fm_vv (rm_do P M1 r sh t md (P.2.2 m i).2.2.2.2.toNatClampNeg ob (P.2.2 m i) f)) 193 [some (.inr 0), some (.inl (nI (24 * m + i))), some (.inl (nI f)), some (.inl (nI ((P.2.2 m i).1))), none, none] [.inl (nI (24 * m + i)), .inr 0] M1
                refine fm_iconst (pq := 194) (v := nI 1) hX d_R_does_193 (by decide) rfl ?_
                refine fm_goto (tgt := 198) hX d_R_does_194 rfl ?_
                refine fm_callV_v (as := [.inl (nI (24 * m + i)), .inl (nI 1)]) (st := []) (pq := 201) hX rfl rfl cR_186 rfl im_R_fields se_R_fields (k_R_fields1 hm hi M1 hP1 hw hr (by omega) (by omega) (by omega)) rfl rfl (Nat.le_of_ble_eq_true rfl) (Nat.le_of_ble_eq_true rfl) d_R_does_198 rfl ?_
                refine fm_goto (tgt := 228) hX d_R_does_201 rfl ?_
                refine fm_vret hX rfl d_R_does_228 ?_
                refine ⟨rfl, ?_⟩
                clear hw6
                first
                | (exfalso; omega)
                | exact (rm_do_n1 h23 h35).symm
                | exact (rm_do_n0 h23 h35).symm
                | (rw [rm_do_s1 h52 h67, decide_eq_true h82]; rfl)
                | (rw [rm_do_s1 h52 h67, decide_eq_false h82]; rfl)
                | (rw [rm_do_s0 h52 h67, decide_eq_true h121]; rfl)
                | (rw [rm_do_s0 h52 h67, decide_eq_false h121]; rfl)
                | exact (rm_do_f1 (by omega) h190).symm
                | exact (rm_do_f0 (by omega) h190).symm
                | (rw [rm_do_c h207, hn, nI_clamp (by omega)]; done)
                | exact (rm_do_m (by omega) (by omega)).symm
                | exact (rm_do_0 (by omega) (by omega)).symm
          · show fm_G SR Y_R_does X M (fm_vv (rm_do P M1 r sh t md (P.2.2 m i).2.2.2.2.toNatClampNeg ob (P.2.2 m i) f)) 175 [some (.inr 0), some (.inl (nI (24 * m + i))), some (.inl (nI f)), some (.inl (nI ((P.2.2 m i).1))), none, none] [] M1
            refine fm_iload_n (pq := 176) hX d_R_does_175 rfl rfl rfl ?_
            refine fm_bipush (pq := 178) (v := nI 11) hX d_R_does_176 (by decide) rfl ?_
            refine fm_n_ne (tgt := 204) (pq := 181) hX d_R_does_178 rfl rfl (by omega) (by omega) (fun h178 => ?_) (fun h178 => ?_)
            · show fm_G SR Y_R_does X M (fm_vv (rm_do P M1 r sh t md (P.2.2 m i).2.2.2.2.toNatClampNeg ob (P.2.2 m i) f)) 204 [some (.inr 0), some (.inl (nI (24 * m + i))), some (.inl (nI f)), some (.inl (nI ((P.2.2 m i).1))), none, none] [] M1
              refine fm_iload_n (pq := 205) hX d_R_does_204 rfl rfl rfl ?_
              refine fm_bipush (pq := 207) (v := nI 16) hX d_R_does_205 (by decide) rfl ?_
              refine fm_n_ne (tgt := 218) (pq := 210) hX d_R_does_207 rfl rfl (by omega) (by omega) (fun h207 => ?_) (fun h207 => ?_)
              · show fm_G SR Y_R_does X M (fm_vv (rm_do P M1 r sh t md (P.2.2 m i).2.2.2.2.toNatClampNeg ob (P.2.2 m i) f)) 218 [some (.inr 0), some (.inl (nI (24 * m + i))), some (.inl (nI f)), some (.inl (nI ((P.2.2 m i).1))), none, none] [] M1
                refine fm_iload_n (pq := 219) hX d_R_does_218 rfl rfl rfl ?_
                refine fm_iconst (pq := 220) (v := nI 2) hX d_R_does_219 (by decide) rfl ?_
                refine fm_n_ge (tgt := 228) (pq := 223) hX d_R_does_220 rfl rfl (by omega) (by omega) (fun h220 => ?_) (fun h220 => ?_)
                · show fm_G SR Y_R_does X M (fm_vv (rm_do P M1 r sh t md (P.2.2 m i).2.2.2.2.toNatClampNeg ob (P.2.2 m i) f)) 228 [some (.inr 0), some (.inl (nI (24 * m + i))), some (.inl (nI f)), some (.inl (nI ((P.2.2 m i).1))), none, none] [] M1
                  refine fm_vret hX rfl d_R_does_228 ?_
                  refine ⟨rfl, ?_⟩
                  clear hw6
                  first
                  | (exfalso; omega)
                  | exact (rm_do_n1 h23 h35).symm
                  | exact (rm_do_n0 h23 h35).symm
                  | (rw [rm_do_s1 h52 h67, decide_eq_true h82]; rfl)
                  | (rw [rm_do_s1 h52 h67, decide_eq_false h82]; rfl)
                  | (rw [rm_do_s0 h52 h67, decide_eq_true h121]; rfl)
                  | (rw [rm_do_s0 h52 h67, decide_eq_false h121]; rfl)
                  | exact (rm_do_f1 (by omega) h190).symm
                  | exact (rm_do_f0 (by omega) h190).symm
                  | (rw [rm_do_c h207, hn, nI_clamp (by omega)]; done)
                  | exact (rm_do_m (by omega) (by omega)).symm
                  | exact (rm_do_0 (by omega) (by omega)).symm
                · show fm_G SR Y_R_does X M (fm_vv (rm_do P M1 r sh t md (P.2.2 m i).2.2.2.2.toNatClampNeg ob (P.2.2 m i) f)) 223 [some (.inr 0), some (.inl (nI (24 * m + i))), some (.inl (nI f)), some (.inl (nI ((P.2.2 m i).1))), none, none] [] M1
                  refine fm_aload_n (pq := 224) hX d_R_does_223 rfl rfl rfl ?_
                  refine fm_iload_n (pq := 225) hX d_R_does_224 rfl rfl rfl ?_
                  refine fm_callV_v (as := [.inl (nI (24 * m + i))]) (st := []) (pq := 228) hX rfl rfl cR_192 rfl im_R_moves se_R_moves (k_R_moves hm hi M1 hP1 hw hr (by omega) (by omega) hsh (by omega) ht ht0) rfl rfl (Nat.le_of_ble_eq_true rfl) (Nat.le_of_ble_eq_true rfl) d_R_does_225 rfl ?_
                  refine fm_vret hX rfl d_R_does_228 ?_
                  refine ⟨rfl, ?_⟩
                  clear hw6
                  first
                  | (exfalso; omega)
                  | exact (rm_do_n1 h23 h35).symm
                  | exact (rm_do_n0 h23 h35).symm
                  | (rw [rm_do_s1 h52 h67, decide_eq_true h82]; rfl)
                  | (rw [rm_do_s1 h52 h67, decide_eq_false h82]; rfl)
                  | (rw [rm_do_s0 h52 h67, decide_eq_true h121]; rfl)
                  | (rw [rm_do_s0 h52 h67, decide_eq_false h121]; rfl)
                  | exact (rm_do_f1 (by omega) h190).symm
                  | exact (rm_do_f0 (by omega) h190).symm
                  | (rw [rm_do_c h207, hn, nI_clamp (by omega)]; done)
                  | exact (rm_do_m (by omega) (by omega)).symm
                  | exact (rm_do_0 (by omega) (by omega)).symm
              · show fm_G SR Y_R_does X M (fm_vv (rm_do P M1 r sh t md (P.2.2 m i).2.2.2.2.toNatClampNeg ob (P.2.2 m i) f)) 210 [some (.inr 0), some (.inl (nI (24 * m + i))), some (.inl (nI f)), some (.inl (nI ((P.2.2 m i).1))), none, none] [] M1
                obtain ⟨k, hk, hn⟩ := hw6 h207
                refine fm_aload_n (pq := 211) hX d_R_does_210 rfl rfl rfl ?_
                refine fm_iload_n (pq := 212) hX d_R_does_211 rfl rfl rfl ?_
                refine fm_callV_v (as := [.inl (nI (24 * m + i))]) (st := []) (pq := 215) hX rfl rfl cR_189 rfl im_R_call se_R_call (k_R_call hm hi M1 hP1 hw hr (by omega) (by omega) hk hn) rfl rfl (Nat.le_of_ble_eq_true rfl) (Nat.le_of_ble_eq_true rfl) d_R_does_212 rfl ?_
                refine fm_goto (tgt := 228) hX d_R_does_215 rfl ?_
                refine fm_vret hX rfl d_R_does_228 ?_
                refine ⟨rfl, ?_⟩
                clear hw6
                first
                | (exfalso; omega)
                | exact (rm_do_n1 h23 h35).symm
                | exact (rm_do_n0 h23 h35).symm
                | (rw [rm_do_s1 h52 h67, decide_eq_true h82]; rfl)
                | (rw [rm_do_s1 h52 h67, decide_eq_false h82]; rfl)
                | (rw [rm_do_s0 h52 h67, decide_eq_true h121]; rfl)
                | (rw [rm_do_s0 h52 h67, decide_eq_false h121]; rfl)
                | exact (rm_do_f1 (by omega) h190).symm
                | exact (rm_do_f0 (by omega) h190).symm
                | (rw [rm_do_c h207, hn, nI_clamp (by omega)]; done)
                | exact (rm_do_m (by omega) (by omega)).symm
                | exact (rm_do_0 (by omega) (by omega)).symm
            · show fm_G SR Y_R_does X M (fm_vv (rm_do P M1 r sh t md (P.2.2 m i).2.2.2.2.toNatClampNeg ob (P.2.2 m i) f)) 181 [some (.inr 0), some (.inl (nI (24 * m + i))), some (.inl (nI f)), some (.inl (nI ((P.2.2 m i).1))), none, none] [] M1
              refine fm_iload_n (pq := 182) hX d_R_does_181 rfl rfl rfl ?_
              refine fm_iconst (pq := 183) (v := nI 2) hX d_R_does_182 (by decide) rfl ?_
              refine fm_n_ge (tgt := 204) (pq := 186) hX d_R_does_183 rfl rfl (by omega) (by omega) (fun h183 => ?_) (fun h183 => ?_)
              · show fm_G SR Y_R_does X M (fm_vv (rm_do P M1 r sh t md (P.2.2 m i).2.2.2.2.toNatClampNeg ob (P.2.2 m i) f)) 204 [some (.inr 0), some (.inl (nI (24 * m + i))), some (.inl (nI f)), some (.inl (nI ((P.2.2 m i).1))), none, none] [] M1
                refine fm_iload_n (pq := 205) hX d_R_does_204 rfl rfl rfl ?_
                refine fm_bipush (pq := 207) (v := nI 16) hX d_R_does_205 (by decide) rfl ?_
                refine fm_n_ne (tgt := 218) (pq := 210) hX d_R_does_207 rfl rfl (by omega) (by omega) (fun h207 => ?_) (fun h207 => ?_)
                · show fm_G SR Y_R_does X M (fm_vv (rm_do P M1 r sh t md (P.2.2 m i).2.2.2.2.toNatClampNeg ob (P.2.2 m i) f)) 218 [some (.inr 0), some (.inl (nI (24 * m + i))), some (.inl (nI f)), some (.inl (nI ((P.2.2 m i).1))), none, none] [] M1
                  refine fm_iload_n (pq := 219) hX d_R_does_218 rfl rfl rfl ?_
                  refine fm_iconst (pq := 220) (v := nI 2) hX d_R_does_219 (by decide) rfl ?_
                  refine fm_n_ge (tgt := 228) (pq := 223) hX d_R_does_220 rfl rfl (by omega) (by omega) (fun h220 => ?_) (fun h220 => ?_)
                  · show fm_G SR Y_R_does X M (fm_vv (rm_do P M1 r sh t md (P.2.2 m i).2.2.2.2.toNatClampNeg ob (P.2.2 m i) f)) 228 [some (.inr 0), some (.inl (nI (24 * m + i))), some (.inl (nI f)), some (.inl (nI ((P.2.2 m i).1))), none, none] [] M1
                    refine fm_vret hX rfl d_R_does_228 ?_
                    refine ⟨rfl, ?_⟩
                    clear hw6
                    first
                    | (exfalso; omega)
                    | exact (rm_do_n1 h23 h35).symm
                    | exact (rm_do_n0 h23 h35).symm
                    | (rw [rm_do_s1 h52 h67, decide_eq_true h82]; rfl)
                    | (rw [rm_do_s1 h52 h67, decide_eq_false h82]; rfl)
                    | (rw [rm_do_s0 h52 h67, decide_eq_true h121]; rfl)
                    | (rw [rm_do_s0 h52 h67, decide_eq_false h121]; rfl)
                    | exact (rm_do_f1 (by omega) h190).symm
                    | exact (rm_do_f0 (by omega) h190).symm
                    | (rw [rm_do_c h207, hn, nI_clamp (by omega)]; done)
                    | exact (rm_do_m (by omega) (by omega)).symm
                    | exact (rm_do_0 (by omega) (by omega)).symm
                  · show fm_G SR Y_R_does X M (fm_vv (rm_do P M1 r sh t md (P.2.2 m i).2.2.2.2.toNatClampNeg ob (P.2.2 m i) f)) 223 [some (.inr 0), some (.inl (nI (24 * m + i))), some (.inl (nI f)), some (.inl (nI ((P.2.2 m i).1))), none, none] [] M1
                    refine fm_aload_n (pq := 224) hX d_R_does_223 rfl rfl rfl ?_
                    refine fm_iload_n (pq := 225) hX d_R_does_224 rfl rfl rfl ?_
                    refine fm_callV_v (as := [.inl (nI (24 * m + i))]) (st := []) (pq := 228) hX rfl rfl cR_192 rfl im_R_moves se_R_moves (k_R_moves hm hi M1 hP1 hw hr (by omega) (by omega) hsh (by omega) ht ht0) rfl rfl (Nat.le_of_ble_eq_true rfl) (Nat.le_of_ble_eq_true rfl) d_R_does_225 rfl ?_
                    refine fm_vret hX rfl d_R_does_228 ?_
                    refine ⟨rfl, ?_⟩
                    clear hw6
                    first
                    | (exfalso; omega)
                    | exact (rm_do_n1 h23 h35).symm
                    | exact (rm_do_n0 h23 h35).symm
                    | (rw [rm_do_s1 h52 h67, decide_eq_true h82]; rfl)
                    | (rw [rm_do_s1 h52 h67, decide_eq_false h82]; rfl)
                    | (rw [rm_do_s0 h52 h67, decide_eq_true h121]; rfl)
                    | (rw [rm_do_s0 h52 h67, decide_eq_false h121]; rfl)
                    | exact (rm_do_f1 (by omega) h190).symm
                    | exact (rm_do_f0 (by omega) h190).symm
                    | (rw [rm_do_c h207, hn, nI_clamp (by omega)]; done)
                    | exact (rm_do_m (by omega) (by omega)).symm
                    | exact (rm_do_0 (by omega) (by omega)).symm
                · show fm_G SR Y_R_does X M (fm_vv (rm_do P M1 r sh t md (P.2.2 m i).2.2.2.2.toNatClampNeg ob (P.2.2 m i) f)) 210 [some (.inr 0), some (.inl (nI (24 * m + i))), some (.inl (nI f)), some (.inl (nI ((P.2.2 m i).1))), none, none] [] M1
                  obtain ⟨k, hk, hn⟩ := hw6 h207
                  refine fm_aload_n (pq := 211) hX d_R_does_210 rfl rfl rfl ?_
                  refine fm_iload_n (pq := 212) hX d_R_does_211 rfl rfl rfl ?_
                  refine fm_callV_v (as := [.inl (nI (24 * m + i))]) (st := []) (pq := 215) hX rfl rfl cR_189 rfl im_R_call se_R_call (k_R_call hm hi M1 hP1 hw hr (by omega) (by omega) hk hn) rfl rfl (Nat.le_of_ble_eq_true rfl) (Nat.le_of_ble_eq_true rfl) d_R_does_212 rfl ?_
                  refine fm_goto (tgt := 228) hX d_R_does_215 rfl ?_
                  refine fm_vret hX rfl d_R_does_228 ?_
                  refine ⟨rfl, ?_⟩
                  clear hw6
                  first
                  | (exfalso; omega)
                  | exact (rm_do_n1 h23 h35).symm
                  | exact (rm_do_n0 h23 h35).symm
                  | (rw [rm_do_s1 h52 h67, decide_eq_true h82]; rfl)
                  | (rw [rm_do_s1 h52 h67, decide_eq_false h82]; rfl)
                  | (rw [rm_do_s0 h52 h67, decide_eq_true h121]; rfl)
                  | (rw [rm_do_s0 h52 h67, decide_eq_false h121]; rfl)
                  | exact (rm_do_f1 (by omega) h190).symm
                  | exact (rm_do_f0 (by omega) h190).symm
                  | (rw [rm_do_c h207, hn, nI_clamp (by omega)]; done)
                  | exact (rm_do_m (by omega) (by omega)).symm
                  | exact (rm_do_0 (by omega) (by omega)).symm
              · show fm_G SR Y_R_does X M (fm_vv (rm_do P M1 r sh t md (P.2.2 m i).2.2.2.2.toNatClampNeg ob (P.2.2 m i) f)) 186 [some (.inr 0), some (.inl (nI (24 * m + i))), some (.inl (nI f)), some (.inl (nI ((P.2.2 m i).1))), none, none] [] M1
                refine fm_aload_n (pq := 187) hX d_R_does_186 rfl rfl rfl ?_
                refine fm_iload_n (pq := 188) hX d_R_does_187 rfl rfl rfl ?_
                refine fm_iload_n (pq := 189) hX d_R_does_188 rfl rfl rfl ?_
                refine fm_iconst (pq := 190) (v := nI 1) hX d_R_does_189 (by decide) rfl ?_
                refine fm_n_ne (tgt := 197) (pq := 193) hX d_R_does_190 rfl rfl (by omega) (by omega) (fun h190 => ?_) (fun h190 => ?_)
                · show fm_G SR Y_R_does X M (fm_vv (rm_do P M1 r sh t md (P.2.2 m i).2.2.2.2.toNatClampNeg ob (P.2.2 m i) f)) 197 [some (.inr 0), some (.inl (nI (24 * m + i))), some (.inl (nI f)), some (.inl (nI ((P.2.2 m i).1))), none, none] [.inl (nI (24 * m + i)), .inr 0] M1
                  refine fm_iconst (pq := 198) (v := nI 0) hX d_R_does_197 (by decide) rfl ?_
                  refine fm_callV_v (as := [.inl (nI (24 * m + i)), .inl (nI 0)]) (st := []) (pq := 201) hX rfl rfl cR_186 rfl im_R_fields se_R_fields (k_R_fields0 hm hi M1 hP1 hw hr (by omega) (by omega) (by omega) (ob := ob) (hob h190) (by omega)) rfl rfl (Nat.le_of_ble_eq_true rfl) (Nat.le_of_ble_eq_true rfl) d_R_does_198 rfl ?_
                  refine fm_goto (tgt := 228) hX d_R_does_201 rfl ?_
                  refine fm_vret hX rfl d_R_does_228 ?_
                  refine ⟨rfl, ?_⟩
                  clear hw6
                  first
                  | (exfalso; omega)
                  | exact (rm_do_n1 h23 h35).symm
                  | exact (rm_do_n0 h23 h35).symm
                  | (rw [rm_do_s1 h52 h67, decide_eq_true h82]; rfl)
                  | (rw [rm_do_s1 h52 h67, decide_eq_false h82]; rfl)
                  | (rw [rm_do_s0 h52 h67, decide_eq_true h121]; rfl)
                  | (rw [rm_do_s0 h52 h67, decide_eq_false h121]; rfl)
                  | exact (rm_do_f1 (by omega) h190).symm
                  | exact (rm_do_f0 (by omega) h190).symm
                  | (rw [rm_do_c h207, hn, nI_clamp (by omega)]; done)
                  | exact (rm_do_m (by omega) (by omega)).symm
                  | exact (rm_do_0 (by omega) (by omega)).symm
                · show fm_G SR Y_R_does X M (fm_vv (rm_do P M1 r sh t md (P.2.2 m i).2.2.2.2.toNatClampNeg ob (P.2.2 m i) f)) 193 [some (.inr 0), some (.inl (nI (24 * m + i))), some (.inl (nI f)), some (.inl (nI ((P.2.2 m i).1))), none, none] [.inl (nI (24 * m + i)), .inr 0] M1
                  refine fm_iconst (pq := 194) (v := nI 1) hX d_R_does_193 (by decide) rfl ?_
                  refine fm_goto (tgt := 198) hX d_R_does_194 rfl ?_
                  refine fm_callV_v (as := [.inl (nI (24 * m + i)), .inl (nI 1)]) (st := []) (pq := 201) hX rfl rfl cR_186 rfl im_R_fields se_R_fields (k_R_fields1 hm hi M1 hP1 hw hr (by omega) (by omega) (by omega)) rfl rfl (Nat.le_of_ble_eq_true rfl) (Nat.le_of_ble_eq_true rfl) d_R_does_198 rfl ?_
                  refine fm_goto (tgt := 228) hX d_R_does_201 rfl ?_
                  refine fm_vret hX rfl d_R_does_228 ?_
                  refine ⟨rfl, ?_⟩
                  clear hw6
                  first
                  | (exfalso; omega)
                  | exact (rm_do_n1 h23 h35).symm
                  | exact (rm_do_n0 h23 h35).symm
                  | (rw [rm_do_s1 h52 h67, decide_eq_true h82]; rfl)
                  | (rw [rm_do_s1 h52 h67, decide_eq_false h82]; rfl)
                  | (rw [rm_do_s0 h52 h67, decide_eq_true h121]; rfl)
                  | (rw [rm_do_s0 h52 h67, decide_eq_false h121]; rfl)
                  | exact (rm_do_f1 (by omega) h190).symm
                  | exact (rm_do_f0 (by omega) h190).symm
                  | (rw [rm_do_c h207, hn, nI_clamp (by omega)]; done)
                  | exact (rm_do_m (by omega) (by omega)).symm
                  | exact (rm_do_0 (by omega) (by omega)).symm
    · show fm_G SR Y_R_does X M (fm_vv (rm_do P M1 r sh t md (P.2.2 m i).2.2.2.2.toNatClampNeg ob (P.2.2 m i) f)) 55 [some (.inr 0), some (.inl (nI (24 * m + i))), some (.inl (nI f)), some (.inl (nI ((P.2.2 m i).1))), none, none] [] M1
      refine fm_iconst (pq := 56) (v := nI 4) hX d_R_does_55 (by decide) rfl ?_
      refine fm_aload_n (pq := 57) hX d_R_does_56 rfl rfl rfl ?_
      refine fm_geti (pq := 60) (v := nI r) hX fR_157 rfl rfl (by first | exact hr | exact fm_up_s | simp [fm_up, hr] | simp [fm_up, fm_fz, rm_z, hr]) d_R_does_57 rfl ?_
      refine fm_iconst (pq := 61) (v := nI 1) hX d_R_does_60 (by decide) rfl ?_
      refine fm_isub (pq := 62) (v := nI (r - 1)) hX d_R_does_61 (pk_sub (by omega)) rfl ?_
      refine fm_imul (pq := 63) (v := nI (4 * (r - 1))) hX d_R_does_62 (pk_mul _ _) rfl ?_
      refine fm_istore (pq := 65) (ls1 := [some (.inr 0), some (.inl (nI (24 * m + i))), some (.inl (nI f)), some (.inl (nI ((P.2.2 m i).1))), some (.inl (nI (4 * (r - 1)))), none]) hX d_R_does_63 (by decide) rfl rfl ?_
      refine fm_iload_n (pq := 66) hX d_R_does_65 rfl rfl rfl ?_
      refine fm_iconst (pq := 67) (v := nI 1) hX d_R_does_66 (by decide) rfl ?_
      refine fm_n_ne (tgt := 93) (pq := 70) hX d_R_does_67 rfl rfl (by omega) (by omega) (fun h67 => ?_) (fun h67 => ?_)
      · show fm_G SR Y_R_does X M (fm_vv (rm_do P M1 r sh t md (P.2.2 m i).2.2.2.2.toNatClampNeg ob (P.2.2 m i) f)) 93 [some (.inr 0), some (.inl (nI (24 * m + i))), some (.inl (nI f)), some (.inl (nI ((P.2.2 m i).1))), some (.inl (nI (4 * (r - 1)))), none] [] M1
        refine fm_aload_n (pq := 94) hX d_R_does_93 rfl rfl rfl ?_
        refine fm_getr (pq := 97) (q := 16) hX fR_56 rfl rfl d_R_does_94 rfl ?_
        refine fm_iload (pq := 99) hX d_R_does_97 rfl rfl ?_
        refine fm_aload_n (pq := 100) hX d_R_does_99 rfl rfl rfl ?_
        refine fm_getr (pq := 103) (q := 5) hX fR_22 rfl rfl d_R_does_100 rfl ?_
        refine fm_iload_n (pq := 104) hX d_R_does_103 rfl rfl rfl ?_
        refine fm_iald (pq := 105) (v := nI ((P.2.2 m i).2.2.1)) hX rfl rfl rfl (by omega) (by decide) ((hP1 m (by omega)).2.2 i (by omega)).2.2.1 d_R_does_104 rfl ?_
        refine fm_iadd (pq := 106) (v := nI (4 * (r - 1) + ((P.2.2 m i).2.2.1))) hX d_R_does_105 (nI_add _ _) rfl ?_
        refine fm_iald (pq := 107) (v := M1 16 (4 * (r - 1) + ((P.2.2 m i).2.2.1))) hX rfl rfl rfl (by omega) (by decide) rfl d_R_does_106 rfl ?_
        refine fm_aload_n (pq := 108) hX d_R_does_107 rfl rfl rfl ?_
        refine fm_getr (pq := 111) (q := 16) hX fR_56 rfl rfl d_R_does_108 rfl ?_
        refine fm_iload (pq := 113) hX d_R_does_111 rfl rfl ?_
        refine fm_aload_n (pq := 114) hX d_R_does_113 rfl rfl rfl ?_
        refine fm_getr (pq := 117) (q := 6) hX fR_25 rfl rfl d_R_does_114 rfl ?_
        refine fm_iload_n (pq := 118) hX d_R_does_117 rfl rfl rfl ?_
        refine fm_iald (pq := 119) (v := nI ((P.2.2 m i).2.2.2.1)) hX rfl rfl rfl (by omega) (by decide) ((hP1 m (by omega)).2.2 i (by omega)).2.2.2.1 d_R_does_118 rfl ?_
        refine fm_iadd (pq := 120) (v := nI (4 * (r - 1) + ((P.2.2 m i).2.2.2.1))) hX d_R_does_119 (nI_add _ _) rfl ?_
        refine fm_iald (pq := 121) (v := M1 16 (4 * (r - 1) + ((P.2.2 m i).2.2.2.1))) hX rfl rfl rfl (by omega) (by decide) rfl d_R_does_120 rfl ?_
        refine fm_icmp_ne (tgt := 128) (pq := 124) hX d_R_does_121 rfl rfl (fun h121 => ?_) (fun h121 => ?_)
        · show fm_G SR Y_R_does X M (fm_vv (rm_do P M1 r sh t md (P.2.2 m i).2.2.2.2.toNatClampNeg ob (P.2.2 m i) f)) 128 [some (.inr 0), some (.inl (nI (24 * m + i))), some (.inl (nI f)), some (.inl (nI ((P.2.2 m i).1))), some (.inl (nI (4 * (r - 1)))), none] [] M1
          refine fm_iconst (pq := 129) (v := nI 0) hX d_R_does_128 (by decide) rfl ?_
          refine fm_istore (pq := 131) (ls1 := [some (.inr 0), some (.inl (nI (24 * m + i))), some (.inl (nI f)), some (.inl (nI ((P.2.2 m i).1))), some (.inl (nI (4 * (r - 1)))), some (.inl (nI 0))]) hX d_R_does_129 (by decide) rfl rfl ?_
          refine fm_aload_n (pq := 132) hX d_R_does_131 rfl rfl rfl ?_
          refine fm_getr (pq := 135) (q := 17) hX fR_59 rfl rfl d_R_does_132 rfl ?_
          refine fm_iload (pq := 137) hX d_R_does_135 rfl rfl ?_
          refine fm_aload_n (pq := 138) hX d_R_does_137 rfl rfl rfl ?_
          refine fm_getr (pq := 141) (q := 4) hX fR_19 rfl rfl d_R_does_138 rfl ?_
          refine fm_iload_n (pq := 142) hX d_R_does_141 rfl rfl rfl ?_
          refine fm_iald (pq := 143) (v := nI ((P.2.2 m i).2.1)) hX rfl rfl rfl (by omega) (by decide) ((hP1 m (by omega)).2.2 i (by omega)).2.1 d_R_does_142 rfl ?_
          refine fm_iadd (pq := 144) (v := nI (4 * (r - 1) + ((P.2.2 m i).2.1))) hX d_R_does_143 (nI_add _ _) rfl ?_
          refine fm_iload (pq := 146) hX d_R_does_144 rfl rfl ?_
          refine fm_z_eq (tgt := 153) (pq := 149) hX d_R_does_146 rfl rfl (by omega) (fun h146 => ?_) (fun h146 => ?_)
          · show fm_G SR Y_R_does X M (fm_vv (rm_do P M1 r sh t md (P.2.2 m i).2.2.2.2.toNatClampNeg ob (P.2.2 m i) f)) 153 [some (.inr 0), some (.inl (nI (24 * m + i))), some (.inl (nI f)), some (.inl (nI ((P.2.2 m i).1))), some (.inl (nI (4 * (r - 1)))), some (.inl (nI 0))] [.inl (nI (4 * (r - 1) + ((P.2.2 m i).2.1))), .inr 17] M1
            refine fm_iconst (pq := 154) (v := nI 0) hX d_R_does_153 (by decide) rfl ?_
            refine fm_iast (pq := 155) hX rfl rfl rfl (by omega) (by decide) d_R_does_154 rfl ?_
            refine fm_goto (tgt := 228) hX d_R_does_155 rfl ?_
            refine fm_vret hX rfl d_R_does_228 ?_
            refine ⟨rfl, ?_⟩
            clear hw6
            first
            | (exfalso; omega)
            | exact (rm_do_n1 h23 h35).symm
            | exact (rm_do_n0 h23 h35).symm
            | (rw [rm_do_s1 h52 h67, decide_eq_true h82]; rfl)
            | (rw [rm_do_s1 h52 h67, decide_eq_false h82]; rfl)
            | (rw [rm_do_s0 h52 h67, decide_eq_true h121]; rfl)
            | (rw [rm_do_s0 h52 h67, decide_eq_false h121]; rfl)
            | exact (rm_do_f1 (by omega) h190).symm
            | exact (rm_do_f0 (by omega) h190).symm
            | (rw [rm_do_c h207, hn, nI_clamp (by omega)]; done)
            | exact (rm_do_m (by omega) (by omega)).symm
            | exact (rm_do_0 (by omega) (by omega)).symm
          · exact absurd h146 (by decide)
        · show fm_G SR Y_R_does X M (fm_vv (rm_do P M1 r sh t md (P.2.2 m i).2.2.2.2.toNatClampNeg ob (P.2.2 m i) f)) 124 [some (.inr 0), some (.inl (nI (24 * m + i))), some (.inl (nI f)), some (.inl (nI ((P.2.2 m i).1))), some (.inl (nI (4 * (r - 1)))), none] [] M1
          refine fm_iconst (pq := 125) (v := nI 1) hX d_R_does_124 (by decide) rfl ?_
          refine fm_goto (tgt := 129) hX d_R_does_125 rfl ?_
          refine fm_istore (pq := 131) (ls1 := [some (.inr 0), some (.inl (nI (24 * m + i))), some (.inl (nI f)), some (.inl (nI ((P.2.2 m i).1))), some (.inl (nI (4 * (r - 1)))), some (.inl (nI 1))]) hX d_R_does_129 (by decide) rfl rfl ?_
          refine fm_aload_n (pq := 132) hX d_R_does_131 rfl rfl rfl ?_
          refine fm_getr (pq := 135) (q := 17) hX fR_59 rfl rfl d_R_does_132 rfl ?_
          refine fm_iload (pq := 137) hX d_R_does_135 rfl rfl ?_
          refine fm_aload_n (pq := 138) hX d_R_does_137 rfl rfl rfl ?_
          refine fm_getr (pq := 141) (q := 4) hX fR_19 rfl rfl d_R_does_138 rfl ?_
          refine fm_iload_n (pq := 142) hX d_R_does_141 rfl rfl rfl ?_
          refine fm_iald (pq := 143) (v := nI ((P.2.2 m i).2.1)) hX rfl rfl rfl (by omega) (by decide) ((hP1 m (by omega)).2.2 i (by omega)).2.1 d_R_does_142 rfl ?_
          refine fm_iadd (pq := 144) (v := nI (4 * (r - 1) + ((P.2.2 m i).2.1))) hX d_R_does_143 (nI_add _ _) rfl ?_
          refine fm_iload (pq := 146) hX d_R_does_144 rfl rfl ?_
          refine fm_z_eq (tgt := 153) (pq := 149) hX d_R_does_146 rfl rfl (by omega) (fun h146 => ?_) (fun h146 => ?_)
          · exact absurd h146 (by decide)
          · show fm_G SR Y_R_does X M (fm_vv (rm_do P M1 r sh t md (P.2.2 m i).2.2.2.2.toNatClampNeg ob (P.2.2 m i) f)) 149 [some (.inr 0), some (.inl (nI (24 * m + i))), some (.inl (nI f)), some (.inl (nI ((P.2.2 m i).1))), some (.inl (nI (4 * (r - 1)))), some (.inl (nI 1))] [.inl (nI (4 * (r - 1) + ((P.2.2 m i).2.1))), .inr 17] M1
            refine fm_iconst (pq := 150) (v := nI 1) hX d_R_does_149 (by decide) rfl ?_
            refine fm_goto (tgt := 154) hX d_R_does_150 rfl ?_
            refine fm_iast (pq := 155) hX rfl rfl rfl (by omega) (by decide) d_R_does_154 rfl ?_
            refine fm_goto (tgt := 228) hX d_R_does_155 rfl ?_
            refine fm_vret hX rfl d_R_does_228 ?_
            refine ⟨rfl, ?_⟩
            clear hw6
            first
            | (exfalso; omega)
            | exact (rm_do_n1 h23 h35).symm
            | exact (rm_do_n0 h23 h35).symm
            | (rw [rm_do_s1 h52 h67, decide_eq_true h82]; rfl)
            | (rw [rm_do_s1 h52 h67, decide_eq_false h82]; rfl)
            | (rw [rm_do_s0 h52 h67, decide_eq_true h121]; rfl)
            | (rw [rm_do_s0 h52 h67, decide_eq_false h121]; rfl)
            | exact (rm_do_f1 (by omega) h190).symm
            | exact (rm_do_f0 (by omega) h190).symm
            | (rw [rm_do_c h207, hn, nI_clamp (by omega)]; done)
            | exact (rm_do_m (by omega) (by omega)).symm
            | exact (rm_do_0 (by omega) (by omega)).symm
      · show fm_G SR Y_R_does X M (fm_vv (rm_do P M1 r sh t md (P.2.2 m i).2.2.2.2.toNatClampNeg ob (P.2.2 m i) f)) 70 [some (.inr 0), some (.inl (nI (24 * m + i))), some (.inl (nI f)), some (.inl (nI ((P.2.2 m i).1))), some (.inl (nI (4 * (r - 1)))), none] [] M1
        refine fm_aload_n (pq := 71) hX d_R_does_70 rfl rfl rfl ?_
        refine fm_getr (pq := 74) (q := 5) hX fR_22 rfl rfl d_R_does_71 rfl ?_
        refine fm_iload_n (pq := 75) hX d_R_does_74 rfl rfl rfl ?_
        refine fm_iald (pq := 76) (v := nI ((P.2.2 m i).2.2.1)) hX rfl rfl rfl (by omega) (by decide) ((hP1 m (by omega)).2.2 i (by omega)).2.2.1 d_R_does_75 rfl ?_
        refine fm_aload_n (pq := 77) hX d_R_does_76 rfl rfl rfl ?_
        refine fm_getr (pq := 80) (q := 6) hX fR_25 rfl rfl d_R_does_77 rfl ?_
        refine fm_iload_n (pq := 81) hX d_R_does_80 rfl rfl rfl ?_
        refine fm_iald (pq := 82) (v := nI ((P.2.2 m i).2.2.2.1)) hX rfl rfl rfl (by omega) (by decide) ((hP1 m (by omega)).2.2 i (by omega)).2.2.2.1 d_R_does_81 rfl ?_
        refine fm_n_ne (tgt := 89) (pq := 85) hX d_R_does_82 rfl rfl (by omega) (by omega) (fun h82 => ?_) (fun h82 => ?_)
        · show fm_G SR Y_R_does X M (fm_vv (rm_do P M1 r sh t md (P.2.2 m i).2.2.2.2.toNatClampNeg ob (P.2.2 m i) f)) 89 [some (.inr 0), some (.inl (nI (24 * m + i))), some (.inl (nI f)), some (.inl (nI ((P.2.2 m i).1))), some (.inl (nI (4 * (r - 1)))), none] [] M1
          refine fm_iconst (pq := 90) (v := nI 0) hX d_R_does_89 (by decide) rfl ?_
          refine fm_goto (tgt := 129) hX d_R_does_90 rfl ?_
          refine fm_istore (pq := 131) (ls1 := [some (.inr 0), some (.inl (nI (24 * m + i))), some (.inl (nI f)), some (.inl (nI ((P.2.2 m i).1))), some (.inl (nI (4 * (r - 1)))), some (.inl (nI 0))]) hX d_R_does_129 (by decide) rfl rfl ?_
          refine fm_aload_n (pq := 132) hX d_R_does_131 rfl rfl rfl ?_
          refine fm_getr (pq := 135) (q := 17) hX fR_59 rfl rfl d_R_does_132 rfl ?_
          refine fm_iload (pq := 137) hX d_R_does_135 rfl rfl ?_
          refine fm_aload_n (pq := 138) hX d_R_does_137 rfl rfl rfl ?_
          refine fm_getr (pq := 141) (q := 4) hX fR_19 rfl rfl d_R_does_138 rfl ?_
          refine fm_iload_n (pq := 142) hX d_R_does_141 rfl rfl rfl ?_
          refine fm_iald (pq := 143) (v := nI ((P.2.2 m i).2.1)) hX rfl rfl rfl (by omega) (by decide) ((hP1 m (by omega)).2.2 i (by omega)).2.1 d_R_does_142 rfl ?_
          refine fm_iadd (pq := 144) (v := nI (4 * (r - 1) + ((P.2.2 m i).2.1))) hX d_R_does_143 (nI_add _ _) rfl ?_
          refine fm_iload (pq := 146) hX d_R_does_144 rfl rfl ?_
          refine fm_z_eq (tgt := 153) (pq := 149) hX d_R_does_146 rfl rfl (by omega) (fun h146 => ?_) (fun h146 => ?_)
          · show fm_G SR Y_R_does X M (fm_vv (rm_do P M1 r sh t md (P.2.2 m i).2.2.2.2.toNatClampNeg ob (P.2.2 m i) f)) 153 [some (.inr 0), some (.inl (nI (24 * m + i))), some (.inl (nI f)), some (.inl (nI ((P.2.2 m i).1))), some (.inl (nI (4 * (r - 1)))), some (.inl (nI 0))] [.inl (nI (4 * (r - 1) + ((P.2.2 m i).2.1))), .inr 17] M1
            refine fm_iconst (pq := 154) (v := nI 0) hX d_R_does_153 (by decide) rfl ?_
            refine fm_iast (pq := 155) hX rfl rfl rfl (by omega) (by decide) d_R_does_154 rfl ?_
            refine fm_goto (tgt := 228) hX d_R_does_155 rfl ?_
            refine fm_vret hX rfl d_R_does_228 ?_
            refine ⟨rfl, ?_⟩
            clear hw6
            first
            | (exfalso; omega)
            | exact (rm_do_n1 h23 h35).symm
            | exact (rm_do_n0 h23 h35).symm
            | (rw [rm_do_s1 h52 h67, decide_eq_true h82]; rfl)
            | (rw [rm_do_s1 h52 h67, decide_eq_false h82]; rfl)
            | (rw [rm_do_s0 h52 h67, decide_eq_true h121]; rfl)
            | (rw [rm_do_s0 h52 h67, decide_eq_false h121]; rfl)
            | exact (rm_do_f1 (by omega) h190).symm
            | exact (rm_do_f0 (by omega) h190).symm
            | (rw [rm_do_c h207, hn, nI_clamp (by omega)]; done)
            | exact (rm_do_m (by omega) (by omega)).symm
            | exact (rm_do_0 (by omega) (by omega)).symm
          · exact absurd h146 (by decide)
        · show fm_G SR Y_R_does X M (fm_vv (rm_do P M1 r sh t md (P.2.2 m i).2.2.2.2.toNatClampNeg ob (P.2.2 m i) f)) 85 [some (.inr 0), some (.inl (nI (24 * m + i))), some (.inl (nI f)), some (.inl (nI ((P.2.2 m i).1))), some (.inl (nI (4 * (r - 1)))), none] [] M1
          refine fm_iconst (pq := 86) (v := nI 1) hX d_R_does_85 (by decide) rfl ?_
          refine fm_goto (tgt := 129) hX d_R_does_86 rfl ?_
          refine fm_istore (pq := 131) (ls1 := [some (.inr 0), some (.inl (nI (24 * m + i))), some (.inl (nI f)), some (.inl (nI ((P.2.2 m i).1))), some (.inl (nI (4 * (r - 1)))), some (.inl (nI 1))]) hX d_R_does_129 (by decide) rfl rfl ?_
          refine fm_aload_n (pq := 132) hX d_R_does_131 rfl rfl rfl ?_
          refine fm_getr (pq := 135) (q := 17) hX fR_59 rfl rfl d_R_does_132 rfl ?_
          refine fm_iload (pq := 137) hX d_R_does_135 rfl rfl ?_
          refine fm_aload_n (pq := 138) hX d_R_does_137 rfl rfl rfl ?_
          refine fm_getr (pq := 141) (q := 4) hX fR_19 rfl rfl d_R_does_138 rfl ?_
          refine fm_iload_n (pq := 142) hX d_R_does_141 rfl rfl rfl ?_
          refine fm_iald (pq := 143) (v := nI ((P.2.2 m i).2.1)) hX rfl rfl rfl (by omega) (by decide) ((hP1 m (by omega)).2.2 i (by omega)).2.1 d_R_does_142 rfl ?_
          refine fm_iadd (pq := 144) (v := nI (4 * (r - 1) + ((P.2.2 m i).2.1))) hX d_R_does_143 (nI_add _ _) rfl ?_
          refine fm_iload (pq := 146) hX d_R_does_144 rfl rfl ?_
          refine fm_z_eq (tgt := 153) (pq := 149) hX d_R_does_146 rfl rfl (by omega) (fun h146 => ?_) (fun h146 => ?_)
          · exact absurd h146 (by decide)
          · show fm_G SR Y_R_does X M (fm_vv (rm_do P M1 r sh t md (P.2.2 m i).2.2.2.2.toNatClampNeg ob (P.2.2 m i) f)) 149 [some (.inr 0), some (.inl (nI (24 * m + i))), some (.inl (nI f)), some (.inl (nI ((P.2.2 m i).1))), some (.inl (nI (4 * (r - 1)))), some (.inl (nI 1))] [.inl (nI (4 * (r - 1) + ((P.2.2 m i).2.1))), .inr 17] M1
            refine fm_iconst (pq := 150) (v := nI 1) hX d_R_does_149 (by decide) rfl ?_
            refine fm_goto (tgt := 154) hX d_R_does_150 rfl ?_
            refine fm_iast (pq := 155) hX rfl rfl rfl (by omega) (by decide) d_R_does_154 rfl ?_
            refine fm_goto (tgt := 228) hX d_R_does_155 rfl ?_
            refine fm_vret hX rfl d_R_does_228 ?_
            refine ⟨rfl, ?_⟩
            clear hw6
            first
            | (exfalso; omega)
            | exact (rm_do_n1 h23 h35).symm
            | exact (rm_do_n0 h23 h35).symm
            | (rw [rm_do_s1 h52 h67, decide_eq_true h82]; rfl)
            | (rw [rm_do_s1 h52 h67, decide_eq_false h82]; rfl)
            | (rw [rm_do_s0 h52 h67, decide_eq_true h121]; rfl)
            | (rw [rm_do_s0 h52 h67, decide_eq_false h121]; rfl)
            | exact (rm_do_f1 (by omega) h190).symm
            | exact (rm_do_f0 (by omega) h190).symm
            | (rw [rm_do_c h207, hn, nI_clamp (by omega)]; done)
            | exact (rm_do_m (by omega) (by omega)).symm
            | exact (rm_do_0 (by omega) (by omega)).symm
  · show fm_G SR Y_R_does X M (fm_vv (rm_do P M1 r sh t md (P.2.2 m i).2.2.2.2.toNatClampNeg ob (P.2.2 m i) f)) 26 [some (.inr 0), some (.inl (nI (24 * m + i))), some (.inl (nI f)), some (.inl (nI ((P.2.2 m i).1))), none, none] [] M1
    refine fm_aload_n (pq := 27) hX d_R_does_26 rfl rfl rfl ?_
    refine fm_aload_n (pq := 28) hX d_R_does_27 rfl rfl rfl ?_
    refine fm_getr (pq := 31) (q := 4) hX fR_19 rfl rfl d_R_does_28 rfl ?_
    refine fm_iload_n (pq := 32) hX d_R_does_31 rfl rfl rfl ?_
    refine fm_iald (pq := 33) (v := nI ((P.2.2 m i).2.1)) hX rfl rfl rfl (by omega) (by decide) ((hP1 m (by omega)).2.2 i (by omega)).2.1 d_R_does_32 rfl ?_
    refine fm_iload_n (pq := 34) hX d_R_does_33 rfl rfl rfl ?_
    refine fm_iconst (pq := 35) (v := nI 1) hX d_R_does_34 (by decide) rfl ?_
    refine fm_n_ne (tgt := 42) (pq := 38) hX d_R_does_35 rfl rfl (by omega) (by omega) (fun h35 => ?_) (fun h35 => ?_)
    · show fm_G SR Y_R_does X M (fm_vv (rm_do P M1 r sh t md (P.2.2 m i).2.2.2.2.toNatClampNeg ob (P.2.2 m i) f)) 42 [some (.inr 0), some (.inl (nI (24 * m + i))), some (.inl (nI f)), some (.inl (nI ((P.2.2 m i).1))), none, none] [.inl (nI ((P.2.2 m i).2.1)), .inr 0] M1
      refine fm_iconst (pq := 43) (v := nI 0) hX d_R_does_42 (by decide) rfl ?_
      refine fm_callV_v (as := [.inl (nI ((P.2.2 m i).2.1)), .inl (nI 0)]) (st := []) (pq := 46) hX rfl rfl cR_182 rfl im_R_makes se_R_makes (k_R_makes0 M1 hr (by omega) (by omega) (x := (P.2.2 m i).2.1) (by omega) hmd (by omega)) rfl rfl (Nat.le_of_ble_eq_true rfl) (Nat.le_of_ble_eq_true rfl) d_R_does_43 rfl ?_
      refine fm_goto (tgt := 228) hX d_R_does_46 rfl ?_
      refine fm_vret hX rfl d_R_does_228 ?_
      refine ⟨rfl, ?_⟩
      clear hw6
      first
      | (exfalso; omega)
      | exact (rm_do_n1 h23 h35).symm
      | exact (rm_do_n0 h23 h35).symm
      | (rw [rm_do_s1 h52 h67, decide_eq_true h82]; rfl)
      | (rw [rm_do_s1 h52 h67, decide_eq_false h82]; rfl)
      | (rw [rm_do_s0 h52 h67, decide_eq_true h121]; rfl)
      | (rw [rm_do_s0 h52 h67, decide_eq_false h121]; rfl)
      | exact (rm_do_f1 (by omega) h190).symm
      | exact (rm_do_f0 (by omega) h190).symm
      | (rw [rm_do_c h207, hn, nI_clamp (by omega)]; done)
      | exact (rm_do_m (by omega) (by omega)).symm
      | exact (rm_do_0 (by omega) (by omega)).symm
    · show fm_G SR Y_R_does X M (fm_vv (rm_do P M1 r sh t md (P.2.2 m i).2.2.2.2.toNatClampNeg ob (P.2.2 m i) f)) 38 [some (.inr 0), some (.inl (nI (24 * m + i))), some (.inl (nI f)), some (.inl (nI ((P.2.2 m i).1))), none, none] [.inl (nI ((P.2.2 m i).2.1)), .inr 0] M1
      refine fm_iconst (pq := 39) (v := nI 1) hX d_R_does_38 (by decide) rfl ?_
      refine fm_goto (tgt := 43) hX d_R_does_39 rfl ?_
      refine fm_callV_v (as := [.inl (nI ((P.2.2 m i).2.1)), .inl (nI 1)]) (st := []) (pq := 46) hX rfl rfl cR_182 rfl im_R_makes se_R_makes (k_R_makes1 M1 hr (by omega) (by omega) (x := (P.2.2 m i).2.1) (by omega)) rfl rfl (Nat.le_of_ble_eq_true rfl) (Nat.le_of_ble_eq_true rfl) d_R_does_43 rfl ?_
      refine fm_goto (tgt := 228) hX d_R_does_46 rfl ?_
      refine fm_vret hX rfl d_R_does_228 ?_
      refine ⟨rfl, ?_⟩
      clear hw6
      first
      | (exfalso; omega)
      | exact (rm_do_n1 h23 h35).symm
      | exact (rm_do_n0 h23 h35).symm
      | (rw [rm_do_s1 h52 h67, decide_eq_true h82]; rfl)
      | (rw [rm_do_s1 h52 h67, decide_eq_false h82]; rfl)
      | (rw [rm_do_s0 h52 h67, decide_eq_true h121]; rfl)
      | (rw [rm_do_s0 h52 h67, decide_eq_false h121]; rfl)
      | exact (rm_do_f1 (by omega) h190).symm
      | exact (rm_do_f0 (by omega) h190).symm
      | (rw [rm_do_c h207, hn, nI_clamp (by omega)]; done)
      | exact (rm_do_m (by omega) (by omega)).symm
      | exact (rm_do_0 (by omega) (by omega)).symm
