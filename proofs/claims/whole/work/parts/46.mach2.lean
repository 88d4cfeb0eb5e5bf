/-! Machine: call, move, perform, begin (written by program) -/
theorem cm_move_1 {M : fm_M} {r sh : Nat} {I : an_I} (h : I.1 = 1) : cm_move M r sh I = fm_up M 12 ((r - 1) * 4 + I.2.1) (M 12 ((r - 1) * 4 + I.2.2.1)) := by simp [cm_move, h]
theorem cm_move_2 {M : fm_M} {r sh : Nat} {I : an_I} (h : I.1 = 2) : cm_move M r sh I = fm_up M 12 ((r - 1) * 4 + I.2.1) (nI 0) := by simp [cm_move, h]
theorem cm_move_7 {M : fm_M} {r sh : Nat} {I : an_I} (h : I.1 = 7) : cm_move M r sh I = fm_up M 13 ((r - 1) * 4 + I.2.1) I.2.2.2.2 := by simp [cm_move, h]
theorem cm_move_8 {M : fm_M} {r sh : Nat} {I : an_I} (h : I.1 = 8) : cm_move M r sh I = fm_up M 13 ((r - 1) * 4 + I.2.1) (M 13 ((r - 1) * 4 + I.2.2.1) + M 13 ((r - 1) * 4 + I.2.2.2.1)) := by simp [cm_move, h]
theorem cm_move_9 {M : fm_M} {r sh : Nat} {I : an_I} (h : I.1 = 9) : cm_move M r sh I = fm_up M 13 ((r - 1) * 4 + I.2.1) (bI (decide (M 12 ((r - 1) * 4 + I.2.2.1) = M 12 ((r - 1) * 4 + I.2.2.2.1)))) := by simp [cm_move, h]
theorem cm_move_12 {M : fm_M} {r sh : Nat} {I : an_I} (h : I.1 = 12) : cm_move M r sh I = fm_up M 8 I.2.2.1 (M 12 ((r - 1) * 4 + I.2.1)) := by simp [cm_move, h]
theorem cm_move_13 {M : fm_M} {r sh : Nat} {I : an_I} (h : I.1 = 13) : cm_move M r sh I = fm_up M 12 ((r - 1) * 4 + I.2.1) (M 8 I.2.2.1) := by simp [cm_move, h]
theorem cm_move_18 {M : fm_M} {r sh : Nat} {I : an_I} (h : I.1 = 18) : cm_move M r sh I = cm_show M sh (M 13 ((r - 1) * 4 + I.2.1)) := by simp [cm_move, h]
theorem cm_move_0 {M : fm_M} {r sh : Nat} {I : an_I} (h : I.1 ≠ 1 ∧ I.1 ≠ 2 ∧ I.1 ≠ 7 ∧ I.1 ≠ 8 ∧ I.1 ≠ 9 ∧ I.1 ≠ 12 ∧ I.1 ≠ 13 ∧ I.1 ≠ 18) : cm_move M r sh I = M := by simp [cm_move, h]
theorem cm_per_w {P : pr_T} {M : fm_M} {r md sh t k c : Nat} {I : an_I} {ft : Int32} (h : I.1 = 3 ∨ I.1 = 4 ∨ I.1 = 5 ∨ I.1 = 6) : cm_per P M r md sh t k c I ft = cm_wof M r I.1 I.2.1 I.2.2.1 I.2.2.2.1 c := by
  unfold cm_per
  rw [if_pos h]
theorem cm_per_l {P : pr_T} {M : fm_M} {r md sh t k c : Nat} {I : an_I} {ft : Int32} (h : I.1 = 10 ∨ I.1 = 11) : cm_per P M r md sh t k c I ft = (if ft = nI 2 then M else cm_cnt M I.1 c) := by
  unfold cm_per
  rw [if_neg (by omega), if_pos h]
theorem cm_per_16 {P : pr_T} {M : fm_M} {r md sh t k c : Nat} {I : an_I} {ft : Int32} (h : I.1 = 16) : cm_per P M r md sh t k c I ft = cm_call P M r k I := by
  unfold cm_per
  rw [if_neg (by omega), if_neg (by omega), if_pos h]
theorem cm_per_17 {P : pr_T} {M : fm_M} {r md sh t k c : Nat} {I : an_I} {ft : Int32} (h : I.1 = 17) : cm_per P M r md sh t k c I ft = cm_leave M r t (M 12 ((r - 1) * 4 + I.2.1)) := by
  unfold cm_per
  rw [if_neg (by omega), if_neg (by omega), if_neg (by omega), if_pos h]
theorem cm_per_14 {P : pr_T} {M : fm_M} {r md sh t k c : Nat} {I : an_I} {ft : Int32} (h : I.1 = 14) : cm_per P M r md sh t k c I ft = fm_up M 10 (r - 1) I.2.2.2.2 := by
  unfold cm_per
  rw [if_neg (by omega), if_neg (by omega), if_neg (by omega), if_neg (by omega), if_pos h]
theorem cm_per_15 {P : pr_T} {M : fm_M} {r md sh t k c : Nat} {I : an_I} {ft : Int32} (h : I.1 = 15) : cm_per P M r md sh t k c I ft = (if M 13 ((r - 1) * 4 + I.2.1) = 0 then fm_up M 10 (r - 1) I.2.2.2.2 else M) := by
  unfold cm_per
  rw [if_neg (by omega), if_neg (by omega), if_neg (by omega), if_neg (by omega), if_neg (by omega), if_pos h]
theorem cm_per_0 {P : pr_T} {M : fm_M} {r md sh t k c : Nat} {I : an_I} {ft : Int32} (h : I.1 = 0) : cm_per P M r md sh t k c I ft = (if ft = nI 1 then fm_up (cm_emp M (401 + (r - 1) * 4 + I.2.1)) 12 ((r - 1) * 4 + I.2.1) (nI (401 + (r - 1) * 4 + I.2.1)) else fm_up (cm_emp (fm_up M 4 14 (nI (md + 1))) (md + 1)) 12 ((r - 1) * 4 + I.2.1) (nI (md + 1))) := by
  unfold cm_per
  rw [if_neg (by omega), if_neg (by omega), if_neg (by omega), if_neg (by omega), if_neg (by omega), if_neg (by omega), if_pos h]
theorem cm_per_m {P : pr_T} {M : fm_M} {r md sh t k c : Nat} {I : an_I} {ft : Int32} (h : I.1 = 1 ∨ I.1 = 2 ∨ I.1 = 7 ∨ I.1 = 8 ∨ I.1 = 9 ∨ I.1 = 12 ∨ I.1 = 13 ∨ I.1 = 18) : cm_per P M r md sh t k c I ft = cm_move M r sh I := by
  unfold cm_per
  rw [if_neg (by omega), if_neg (by omega), if_neg (by omega), if_neg (by omega), if_neg (by omega), if_neg (by omega), if_neg (by omega)]
theorem k_M_cellOfN (M : fm_M) {r : Nat} (hr : M 4 9 = nI r) (h1 : 1 ≤ r) (h8 : r ≤ 8) {v c : Nat} (hv : v < 4) (hc : M 12 ((r - 1) * 4 + v) = nI c) : fm_ct SC y_M_cellOf b_M_cellOf 2 (some .int) 2 [.inr 4, .inl (nI v)] M (fm_rv (nI c) M) := by
  rw [← hc]
  exact k_M_cellOf M hr h1 h8 hv
abbrev Y_M_call : fm_Y := ("EscapeMill$Machine", b_M_call, 9, none, 3)
set_option maxRecDepth 100000 in
set_option maxHeartbeats 4000000 in
theorem k_M_call {P : pr_T} {m i : Nat} (hm : m < 5) (hi : i < P.1 m) (M : fm_M) (hP : cP M P) (hw : pr_wf P) {r : Nat} (hr : M 4 9 = nI r) (h1 : 1 ≤ r) (h8 : r ≤ 8) {k : Nat} (hk : k < 5) (hn : (P.2.2 m i).2.2.2.2 = nI k) : fm_ct SC y_M_call b_M_call 9 none 3 [.inr 4, .inr 1, .inl (nI m), .inl (nI i)] M (fm_vv (cm_call P M r k (P.2.2 m i))) := by
  refine fm_of (ls := [some (.inr 4), some (.inr 1), some (.inl (nI m)), some (.inl (nI i)), none, none, none, none, none]) (by decide) wsA_good (Nat.le_of_ble_eq_true rfl) rfl (fun X hX => ?_)
  obtain ⟨wl, wi, wI⟩ := hw m hm
  obtain ⟨w1, w2, w3, w4, w5, w6⟩ := wI i hi
  have hk1 := (hw k hk).1
  have hk2 := (hw k hk).2.1
  show fm_G SC Y_M_call X M (fm_vv (cm_call P M r k (P.2.2 m i))) 0 [some (.inr 4), some (.inr 1), some (.inl (nI m)), some (.inl (nI i)), none, none, none, none, none] [] M
  refine fm_aload_n (pq := 1) hX d_M_call_0 rfl rfl rfl ?_
  refine fm_iload_n (pq := 2) hX d_M_call_1 rfl rfl rfl ?_
  refine fm_aald (pq := 3) (q := kC m) hX rfl (by decide) rfl rfl rfl (by omega) (by decide) (r_C (by omega)) d_M_call_2 rfl ?_
  refine fm_astore (pq := 5) (ls1 := [some (.inr 4), some (.inr 1), some (.inl (nI m)), some (.inl (nI i)), some (.inr (kC m)), none, none, none, none]) hX d_M_call_3 (by decide) rfl rfl ?_
  refine fm_aload (pq := 7) hX d_M_call_5 rfl rfl ?_
  refine fm_getr (pq := 10) (q := kCa m 4) hX fM_121 (s_C (by omega)) rfl d_M_call_7 rfl ?_
  refine fm_iload_n (pq := 11) hX d_M_call_10 rfl rfl rfl ?_
  refine fm_iald (pq := 12) (v := nI k) hX (s_Ca4 (by omega)) rfl rfl (by omega) (by decide) (((hP m (by omega)).2.2 i (by omega)).2.2.2.2.trans hn) d_M_call_11 rfl ?_
  refine fm_istore (pq := 14) (ls1 := [some (.inr 4), some (.inr 1), some (.inl (nI m)), some (.inl (nI i)), some (.inr (kC m)), some (.inl (nI k)), none, none, none]) hX d_M_call_12 (by decide) rfl rfl ?_
  refine fm_aload_n (pq := 15) hX d_M_call_14 rfl rfl rfl ?_
  refine fm_iload (pq := 17) hX d_M_call_15 rfl rfl ?_
  refine fm_aald (pq := 18) (q := kC k) hX rfl (by decide) rfl rfl rfl (by omega) (by decide) (r_C (by omega)) d_M_call_17 rfl ?_
  refine fm_geti (pq := 21) (v := nI (P.1 k)) hX fM_144 (s_C (by omega)) rfl (hP k (by omega)).1 d_M_call_18 rfl ?_
  refine fm_z_eq (tgt := 33) (pq := 24) hX d_M_call_21 rfl rfl (by omega) (fun h21 => ?_) (fun h21 => ?_)
  · show fm_G SC Y_M_call X M (fm_vv (cm_call P M r k (P.2.2 m i))) 33 [some (.inr 4), some (.inr 1), some (.inl (nI m)), some (.inl (nI i)), some (.inr (kC m)), some (.inl (nI k)), none, none, none] [] M
    refine fm_aload_n (pq := 34) hX d_M_call_33 rfl rfl rfl ?_
    refine fm_iconst (pq := 35) (v := nI 3) hX d_M_call_34 (by decide) rfl ?_
    refine fm_puti (pq := 38) hX fM_46 pM_11 rfl rfl rfl rfl d_M_call_35 rfl ?_
    refine fm_vret hX rfl d_M_call_38 ?_
    refine ⟨rfl, ?_⟩
    unfold cm_call
    first
    | (exfalso; omega)
    | (rw [if_neg (by omega)]; first | rw [if_pos (by omega), if_pos (by omega)] | rw [if_pos (by omega), if_neg (by omega)] | rw [if_neg (by omega), if_neg (by omega)] | (exfalso; omega))
    | rw [if_pos (by omega)]
  · show fm_G SC Y_M_call X M (fm_vv (cm_call P M r k (P.2.2 m i))) 24 [some (.inr 4), some (.inr 1), some (.inl (nI m)), some (.inl (nI i)), some (.inr (kC m)), some (.inl (nI k)), none, none, none] [] M
    refine fm_aload_n (pq := 25) hX d_M_call_24 rfl rfl rfl ?_
    refine fm_geti (pq := 28) (v := nI r) hX fM_39 rfl rfl (by first | exact hr | simp [fm_up, hr]) d_M_call_25 rfl ?_
    refine fm_bipush (pq := 30) (v := nI 8) hX d_M_call_28 (by decide) rfl ?_
    refine fm_n_lt (tgt := 39) (pq := 33) hX d_M_call_30 rfl rfl (by omega) (by omega) (fun h30 => ?_) (fun h30 => ?_)
    · show fm_G SC Y_M_call X M (fm_vv (cm_call P M r k (P.2.2 m i))) 39 [some (.inr 4), some (.inr 1), some (.inl (nI m)), some (.inl (nI i)), some (.inr (kC m)), some (.inl (nI k)), none, none, none] [] M
      refine fm_aload_n (pq := 40) hX d_M_call_39 rfl rfl rfl ?_
      refine fm_iload (pq := 42) hX d_M_call_40 rfl rfl ?_
      refine fm_aald (pq := 43) (q := kC k) hX rfl (by decide) rfl rfl rfl (by omega) (by decide) (r_C (by omega)) d_M_call_42 rfl ?_
      refine fm_geti (pq := 46) (v := nI (P.2.1 k)) hX fM_147 (s_C (by omega)) rfl (hP k (by omega)).2.1 d_M_call_43 rfl ?_
      refine fm_istore (pq := 48) (ls1 := [some (.inr 4), some (.inr 1), some (.inl (nI m)), some (.inl (nI i)), some (.inr (kC m)), some (.inl (nI k)), some (.inl (nI (P.2.1 k))), none, none]) hX d_M_call_46 (by decide) rfl rfl ?_
      refine fm_iload (pq := 50) hX d_M_call_48 rfl rfl ?_
      refine fm_iconst (pq := 51) (v := nI 1) hX d_M_call_50 (by decide) rfl ?_
      refine fm_n_lt (tgt := 68) (pq := 54) hX d_M_call_51 rfl rfl (by omega) (by omega) (fun h51 => ?_) (fun h51 => ?_)
      · show fm_G SC Y_M_call X M (fm_vv (cm_call P M r k (P.2.2 m i))) 68 [some (.inr 4), some (.inr 1), some (.inl (nI m)), some (.inl (nI i)), some (.inr (kC m)), some (.inl (nI k)), some (.inl (nI (P.2.1 k))), none, none] [] M
        refine fm_iconst (pq := 69) (v := nI 0) hX d_M_call_68 (by decide) rfl ?_
        refine fm_istore (pq := 71) (ls1 := [some (.inr 4), some (.inr 1), some (.inl (nI m)), some (.inl (nI i)), some (.inr (kC m)), some (.inl (nI k)), some (.inl (nI (P.2.1 k))), some (.inl (nI 0)), none]) hX d_M_call_69 (by decide) rfl rfl ?_
        refine fm_iload (pq := 73) hX d_M_call_71 rfl rfl ?_
        refine fm_iconst (pq := 74) (v := nI 2) hX d_M_call_73 (by decide) rfl ?_
        refine fm_n_lt (tgt := 91) (pq := 77) hX d_M_call_74 rfl rfl (by omega) (by omega) (fun h74 => ?_) (fun h74 => ?_)
        · show fm_G SC Y_M_call X M (fm_vv (cm_call P M r k (P.2.2 m i))) 91 [some (.inr 4), some (.inr 1), some (.inl (nI m)), some (.inl (nI i)), some (.inr (kC m)), some (.inl (nI k)), some (.inl (nI (P.2.1 k))), some (.inl (nI 0)), none] [] M
          refine fm_iconst (pq := 92) (v := nI 0) hX d_M_call_91 (by decide) rfl ?_
          refine fm_istore (pq := 94) (ls1 := [some (.inr 4), some (.inr 1), some (.inl (nI m)), some (.inl (nI i)), some (.inr (kC m)), some (.inl (nI k)), some (.inl (nI (P.2.1 k))), some (.inl (nI 0)), some (.inl (nI 0))]) hX d_M_call_92 (by decide) rfl rfl ?_
          refine fm_aload_n (pq := 95) hX d_M_call_94 rfl rfl rfl ?_
          refine fm_iload (pq := 97) hX d_M_call_95 rfl rfl ?_
          refine fm_aload (pq := 99) hX d_M_call_97 rfl rfl ?_
          refine fm_getr (pq := 102) (q := kCa m 1) hX fM_96 (s_C (by omega)) rfl d_M_call_99 rfl ?_
          refine fm_iload_n (pq := 103) hX d_M_call_102 rfl rfl rfl ?_
          refine fm_iald (pq := 104) (v := nI ((P.2.2 m i).2.1)) hX (s_Ca1 (by omega)) rfl rfl (by omega) (by decide) ((hP m (by omega)).2.2 i (by omega)).2.1 d_M_call_103 rfl ?_
          refine fm_iload (pq := 106) hX d_M_call_104 rfl rfl ?_
          refine fm_iload (pq := 108) hX d_M_call_106 rfl rfl ?_
          refine fm_callV_v (as := [.inl (nI k), .inl (nI ((P.2.2 m i).2.1)), .inl (nI 0), .inl (nI 0)]) (st := []) (pq := 111) hX rfl rfl cM_89 rfl im_M_enter se_M_enter (k_M_enter M hr (by omega) (m := k) (t := (P.2.2 m i).2.1) (by omega) (by omega) (nI 0) (nI 0)) rfl rfl (Nat.le_of_ble_eq_true rfl) (Nat.le_of_ble_eq_true rfl) d_M_call_108 rfl ?_
          refine fm_vret hX rfl d_M_call_111 ?_
          refine ⟨rfl, ?_⟩
          unfold cm_call
          first
          | (exfalso; omega)
          | (rw [if_neg (by omega)]; first | rw [if_pos (by omega), if_pos (by omega)] | rw [if_pos (by omega), if_neg (by omega)] | rw [if_neg (by omega), if_neg (by omega)] | (exfalso; omega))
          | rw [if_pos (by omega)]
        · show fm_G SC Y_M_call X M (fm_vv (cm_call P M r k (P.2.2 m i))) 77 [some (.inr 4), some (.inr 1), some (.inl (nI m)), some (.inl (nI i)), some (.inr (kC m)), some (.inl (nI k)), some (.inl (nI (P.2.1 k))), some (.inl (nI 0)), none] [] M
          refine fm_aload_n (pq := 78) hX d_M_call_77 rfl rfl rfl ?_
          refine fm_aload (pq := 80) hX d_M_call_78 rfl rfl ?_
          refine fm_getr (pq := 83) (q := kCa m 3) hX fM_102 (s_C (by omega)) rfl d_M_call_80 rfl ?_
          refine fm_iload_n (pq := 84) hX d_M_call_83 rfl rfl rfl ?_
          refine fm_iald (pq := 85) (v := nI ((P.2.2 m i).2.2.2.1)) hX (s_Ca3 (by omega)) rfl rfl (by omega) (by decide) ((hP m (by omega)).2.2 i (by omega)).2.2.2.1 d_M_call_84 rfl ?_
          refine fm_callV_i (as := [.inl (nI ((P.2.2 m i).2.2.2.1))]) (st := []) (pq := 88) hX rfl rfl cM_105 rfl im_M_cellOf se_M_cellOf (k_M_cellOf M (r := r) hr (by omega) (by omega) (v := (P.2.2 m i).2.2.2.1) (by omega)) rfl rfl (Nat.le_of_ble_eq_true rfl) (Nat.le_of_ble_eq_true rfl) d_M_call_85 rfl ?_
          refine fm_goto (tgt := 92) hX d_M_call_88 rfl ?_
          refine fm_istore (pq := 94) (ls1 := [some (.inr 4), some (.inr 1), some (.inl (nI m)), some (.inl (nI i)), some (.inr (kC m)), some (.inl (nI k)), some (.inl (nI (P.2.1 k))), some (.inl (nI 0)), some (.inl (M 12 ((r - 1) * 4 + ((P.2.2 m i).2.2.2.1))))]) hX d_M_call_92 (by decide) rfl rfl ?_
          refine fm_aload_n (pq := 95) hX d_M_call_94 rfl rfl rfl ?_
          refine fm_iload (pq := 97) hX d_M_call_95 rfl rfl ?_
          refine fm_aload (pq := 99) hX d_M_call_97 rfl rfl ?_
          refine fm_getr (pq := 102) (q := kCa m 1) hX fM_96 (s_C (by omega)) rfl d_M_call_99 rfl ?_
          refine fm_iload_n (pq := 103) hX d_M_call_102 rfl rfl rfl ?_
          refine fm_iald (pq := 104) (v := nI ((P.2.2 m i).2.1)) hX (s_Ca1 (by omega)) rfl rfl (by omega) (by decide) ((hP m (by omega)).2.2 i (by omega)).2.1 d_M_call_103 rfl ?_
          refine fm_iload (pq := 106) hX d_M_call_104 rfl rfl ?_
          refine fm_iload (pq := 108) hX d_M_call_106 rfl rfl ?_
          refine fm_callV_v (as := [.inl (nI k), .inl (nI ((P.2.2 m i).2.1)), .inl (nI 0), .inl (M 12 ((r - 1) * 4 + ((P.2.2 m i).2.2.2.1)))]) (st := []) (pq := 111) hX rfl rfl cM_89 rfl im_M_enter se_M_enter (k_M_enter M hr (by omega) (m := k) (t := (P.2.2 m i).2.1) (by omega) (by omega) (nI 0) (M 12 ((r - 1) * 4 + ((P.2.2 m i).2.2.2.1)))) rfl rfl (Nat.le_of_ble_eq_true rfl) (Nat.le_of_ble_eq_true rfl) d_M_call_108 rfl ?_
          refine fm_vret hX rfl d_M_call_111 ?_
          refine ⟨rfl, ?_⟩
          unfold cm_call
          first
          | (exfalso; omega)
          | (rw [if_neg (by omega)]; first | rw [if_pos (by omega), if_pos (by omega)] | rw [if_pos (by omega), if_neg (by omega)] | rw [if_neg (by omega), if_neg (by omega)] | (exfalso; omega))
          | rw [if_pos (by omega)]
      · show fm_G SC Y_M_call X M (fm_vv (cm_call P M r k (P.2.2 m i))) 54 [some (.inr 4), some (.inr 1), some (.inl (nI m)), some (.inl (nI i)), some (.inr (kC m)), some (.inl (nI k)), some (.inl (nI (P.2.1 k))), none, none] [] M
        refine fm_aload_n (pq := 55) hX d_M_call_54 rfl rfl rfl ?_
        refine fm_aload (pq := 57) hX d_M_call_55 rfl rfl ?_
        refine fm_getr (pq := 60) (q := kCa m 2) hX fM_99 (s_C (by omega)) rfl d_M_call_57 rfl ?_
        refine fm_iload_n (pq := 61) hX d_M_call_60 rfl rfl rfl ?_
        refine fm_iald (pq := 62) (v := nI ((P.2.2 m i).2.2.1)) hX (s_Ca2 (by omega)) rfl rfl (by omega) (by decide) ((hP m (by omega)).2.2 i (by omega)).2.2.1 d_M_call_61 rfl ?_
        refine fm_callV_i (as := [.inl (nI ((P.2.2 m i).2.2.1))]) (st := []) (pq := 65) hX rfl rfl cM_105 rfl im_M_cellOf se_M_cellOf (k_M_cellOf M (r := r) hr (by omega) (by omega) (v := (P.2.2 m i).2.2.1) (by omega)) rfl rfl (Nat.le_of_ble_eq_true rfl) (Nat.le_of_ble_eq_true rfl) d_M_call_62 rfl ?_
        refine fm_goto (tgt := 69) hX d_M_call_65 rfl ?_
        refine fm_istore (pq := 71) (ls1 := [some (.inr 4), some (.inr 1), some (.inl (nI m)), some (.inl (nI i)), some (.inr (kC m)), some (.inl (nI k)), some (.inl (nI (P.2.1 k))), some (.inl (M 12 ((r - 1) * 4 + ((P.2.2 m i).2.2.1)))), none]) hX d_M_call_69 (by decide) rfl rfl ?_
        refine fm_iload (pq := 73) hX d_M_call_71 rfl rfl ?_
        refine fm_iconst (pq := 74) (v := nI 2) hX d_M_call_73 (by decide) rfl ?_
        refine fm_n_lt (tgt := 91) (pq := 77) hX d_M_call_74 rfl rfl (by omega) (by omega) (fun h74 => ?_) (fun h74 => ?_)
        · show fm_G SC Y_M_call X M (fm_vv (cm_call P M r k (P.2.2 m i))) 91 [some (.inr 4), some (.inr 1), some (.inl (nI m)), some (.inl (nI i)), some (.inr (kC m)), some (.inl (nI k)), some (.inl (nI (P.2.1 k))), some (.inl (M 12 ((r - 1) * 4 + ((P.2.2 m i).2.2.1)))), none] [] M
          refine fm_iconst (pq := 92) (v := nI 0) hX d_M_call_91 (by decide) rfl ?_
          refine fm_istore (pq := 94) (ls1 := [some (.inr 4), some (.inr 1), some (.inl (nI m)), some (.inl (nI i)), some (.inr (kC m)), some (.inl (nI k)), some (.inl (nI (P.2.1 k))), some (.inl (M 12 ((r - 1) * 4 + ((P.2.2 m i).2.2.1)))), some (.inl (nI 0))]) hX d_M_call_92 (by decide) rfl rfl ?_
          refine fm_aload_n (pq := 95) hX d_M_call_94 rfl rfl rfl ?_
          refine fm_iload (pq := 97) hX d_M_call_95 rfl rfl ?_
          refine fm_aload (pq := 99) hX d_M_call_97 rfl rfl ?_
          refine fm_getr (pq := 102) (q := kCa m 1) hX fM_96 (s_C (by omega)) rfl d_M_call_99 rfl ?_
          refine fm_iload_n (pq := 103) hX d_M_call_102 rfl rfl rfl ?_
          refine fm_iald (pq := 104) (v := nI ((P.2.2 m i).2.1)) hX (s_Ca1 (by omega)) rfl rfl (by omega) (by decide) ((hP m (by omega)).2.2 i (by omega)).2.1 d_M_call_103 rfl ?_
          refine fm_iload (pq := 106) hX d_M_call_104 rfl rfl ?_
          refine fm_iload (pq := 108) hX d_M_call_106 rfl rfl ?_
          refine fm_callV_v (as := [.inl (nI k), .inl (nI ((P.2.2 m i).2.1)), .inl (M 12 ((r - 1) * 4 + ((P.2.2 m i).2.2.1))), .inl (nI 0)]) (st := []) (pq := 111) hX rfl rfl cM_89 rfl im_M_enter se_M_enter (k_M_enter M hr (by omega) (m := k) (t := (P.2.2 m i).2.1) (by omega) (by omega) (M 12 ((r - 1) * 4 + ((P.2.2 m i).2.2.1))) (nI 0)) rfl rfl (Nat.le_of_ble_eq_true rfl) (Nat.le_of_ble_eq_true rfl) d_M_call_108 rfl ?_
          refine fm_vret hX rfl d_M_call_111 ?_
          refine ⟨rfl, ?_⟩
          unfold cm_call
          first
          | (exfalso; omega)
          | (rw [if_neg (by omega)]; first | rw [if_pos (by omega), if_pos (by omega)] | rw [if_pos (by omega), if_neg (by omega)] | rw [if_neg (by omega), if_neg (by omega)] | (exfalso; omega))
          | rw [if_pos (by omega)]
        · show fm_G SC Y_M_call X M (fm_vv (cm_call P M r k (P.2.2 m i))) 77 [some (.inr 4), some (.inr 1), some (.inl (nI m)), some (.inl (nI i)), some (.inr (kC m)), some (.inl (nI k)), some (.inl (nI (P.2.1 k))), some (.inl (M 12 ((r - 1) * 4 + ((P.2.2 m i).2.2.1)))), none] [] M
          refine fm_aload_n (pq := 78) hX d_M_call_77 rfl rfl rfl ?_
          refine fm_aload (pq := 80) hX d_M_call_78 rfl rfl ?_
          refine fm_getr (pq := 83) (q := kCa m 3) hX fM_102 (s_C (by omega)) rfl d_M_call_80 rfl ?_
          refine fm_iload_n (pq := 84) hX d_M_call_83 rfl rfl rfl ?_
          refine fm_iald (pq := 85) (v := nI ((P.2.2 m i).2.2.2.1)) hX (s_Ca3 (by omega)) rfl rfl (by omega) (by decide) ((hP m (by omega)).2.2 i (by omega)).2.2.2.1 d_M_call_84 rfl ?_
          refine fm_callV_i (as := [.inl (nI ((P.2.2 m i).2.2.2.1))]) (st := []) (pq := 88) hX rfl rfl cM_105 rfl im_M_cellOf se_M_cellOf (k_M_cellOf M (r := r) hr (by omega) (by omega) (v := (P.2.2 m i).2.2.2.1) (by omega)) rfl rfl (Nat.le_of_ble_eq_true rfl) (Nat.le_of_ble_eq_true rfl) d_M_call_85 rfl ?_
          refine fm_goto (tgt := 92) hX d_M_call_88 rfl ?_
          refine fm_istore (pq := 94) (ls1 := [some (.inr 4), some (.inr 1), some (.inl (nI m)), some (.inl (nI i)), some (.inr (kC m)), some (.inl (nI k)), some (.inl (nI (P.2.1 k))), some (.inl (M 12 ((r - 1) * 4 + ((P.2.2 m i).2.2.1)))), some (.inl (M 12 ((r - 1) * 4 + ((P.2.2 m i).2.2.2.1))))]) hX d_M_call_92 (by decide) rfl rfl ?_
          refine fm_aload_n (pq := 95) hX d_M_call_94 rfl rfl rfl ?_
          refine fm_iload (pq := 97) hX d_M_call_95 rfl rfl ?_
          refine fm_aload (pq := 99) hX d_M_call_97 rfl rfl ?_
          refine fm_getr (pq := 102) (q := kCa m 1) hX fM_96 (s_C (by omega)) rfl d_M_call_99 rfl ?_
          refine fm_iload_n (pq := 103) hX d_M_call_102 rfl rfl rfl ?_
          refine fm_iald (pq := 104) (v := nI ((P.2.2 m i).2.1)) hX (s_Ca1 (by omega)) rfl rfl (by omega) (by decide) ((hP m (by omega)).2.2 i (by omega)).2.1 d_M_call_103 rfl ?_
          refine fm_iload (pq := 106) hX d_M_call_104 rfl rfl ?_
          refine fm_iload (pq := 108) hX d_M_call_106 rfl rfl ?_
          refine fm_callV_v (as := [.inl (nI k), .inl (nI ((P.2.2 m i).2.1)), .inl (M 12 ((r - 1) * 4 + ((P.2.2 m i).2.2.1))), .inl (M 12 ((r - 1) * 4 + ((P.2.2 m i).2.2.2.1)))]) (st := []) (pq := 111) hX rfl rfl cM_89 rfl im_M_enter se_M_enter (k_M_enter M hr (by omega) (m := k) (t := (P.2.2 m i).2.1) (by omega) (by omega) (M 12 ((r - 1) * 4 + ((P.2.2 m i).2.2.1))) (M 12 ((r - 1) * 4 + ((P.2.2 m i).2.2.2.1)))) rfl rfl (Nat.le_of_ble_eq_true rfl) (Nat.le_of_ble_eq_true rfl) d_M_call_108 rfl ?_
          refine fm_vret hX rfl d_M_call_111 ?_
          refine ⟨rfl, ?_⟩
          unfold cm_call
          first
          | (exfalso; omega)
          | (rw [if_neg (by omega)]; first | rw [if_pos (by omega), if_pos (by omega)] | rw [if_pos (by omega), if_neg (by omega)] | rw [if_neg (by omega), if_neg (by omega)] | (exfalso; omega))
          | rw [if_pos (by omega)]
    · show fm_G SC Y_M_call X M (fm_vv (cm_call P M r k (P.2.2 m i))) 33 [some (.inr 4), some (.inr 1), some (.inl (nI m)), some (.inl (nI i)), some (.inr (kC m)), some (.inl (nI k)), none, none, none] [] M
      refine fm_aload_n (pq := 34) hX d_M_call_33 rfl rfl rfl ?_
      refine fm_iconst (pq := 35) (v := nI 3) hX d_M_call_34 (by decide) rfl ?_
      refine fm_puti (pq := 38) hX fM_46 pM_11 rfl rfl rfl rfl d_M_call_35 rfl ?_
      refine fm_vret hX rfl d_M_call_38 ?_
      refine ⟨rfl, ?_⟩
      unfold cm_call
      first
      | (exfalso; omega)
      | (rw [if_neg (by omega)]; first | rw [if_pos (by omega), if_pos (by omega)] | rw [if_pos (by omega), if_neg (by omega)] | rw [if_neg (by omega), if_neg (by omega)] | (exfalso; omega))
      | rw [if_pos (by omega)]
abbrev Y_M_move : fm_Y := ("EscapeMill$Machine", b_M_move, 7, none, 2)
set_option maxRecDepth 100000 in
set_option maxHeartbeats 4000000 in
theorem k_M_move {P : pr_T} {m i : Nat} (hm : m < 5) (hi : i < P.1 m) (M : fm_M) (hP : cP M P) (hw : pr_wf P) {r : Nat} (hr : M 4 9 = nI r) (h1 : 1 ≤ r) (h8 : r ≤ 8) {sh : Nat} (hsh : M 4 12 = nI sh) (hs4 : sh < 1000) : fm_ct SC y_M_move b_M_move 7 none 2 [.inr 4, .inr (kC m), .inl (nI i)] M (fm_vv (cm_move M r sh (P.2.2 m i))) := by
  refine fm_of (ls := [some (.inr 4), some (.inr (kC m)), some (.inl (nI i)), none, none, none, none]) (by decide) wsA_good (Nat.le_of_ble_eq_true rfl) rfl (fun X hX => ?_)
  obtain ⟨wl, wi, wI⟩ := hw m hm
  obtain ⟨w1, w2, w3, w4, w5, w6⟩ := wI i hi
  show fm_G SC Y_M_move X M (fm_vv (cm_move M r sh (P.2.2 m i))) 0 [some (.inr 4), some (.inr (kC m)), some (.inl (nI i)), none, none, none, none] [] M
  refine fm_aload_n (pq := 1) hX d_M_move_0 rfl rfl rfl ?_
  refine fm_callV_i (as := []) (st := []) (pq := 4) hX rfl rfl cM_124 rfl im_M_base se_M_base (k_M_base M (r := r) hr (by omega) (by omega)) rfl rfl (Nat.le_of_ble_eq_true rfl) (Nat.le_of_ble_eq_true rfl) d_M_move_1 rfl ?_
  refine fm_istore_n (pq := 5) (ls1 := [some (.inr 4), some (.inr (kC m)), some (.inl (nI i)), some (.inl (nI ((r - 1) * 4))), none, none, none]) hX d_M_move_4 rfl (by decide) rfl rfl ?_
  refine fm_aload_n (pq := 6) hX d_M_move_5 rfl rfl rfl ?_
  refine fm_getr (pq := 9) (q := kCa m 1) hX fM_96 (s_C (by omega)) rfl d_M_move_6 rfl ?_
  refine fm_iload_n (pq := 10) hX d_M_move_9 rfl rfl rfl ?_
  refine fm_iald (pq := 11) (v := nI ((P.2.2 m i).2.1)) hX (s_Ca1 (by omega)) rfl rfl (by omega) (by decide) ((hP m (by omega)).2.2 i (by omega)).2.1 d_M_move_10 rfl ?_
  refine fm_istore (pq := 13) (ls1 := [some (.inr 4), some (.inr (kC m)), some (.inl (nI i)), some (.inl (nI ((r - 1) * 4))), some (.inl (nI ((P.2.2 m i).2.1))), none, none]) hX d_M_move_11 (by decide) rfl rfl ?_
  refine fm_aload_n (pq := 14) hX d_M_move_13 rfl rfl rfl ?_
  refine fm_getr (pq := 17) (q := kCa m 2) hX fM_99 (s_C (by omega)) rfl d_M_move_14 rfl ?_
  refine fm_iload_n (pq := 18) hX d_M_move_17 rfl rfl rfl ?_
  refine fm_iald (pq := 19) (v := nI ((P.2.2 m i).2.2.1)) hX (s_Ca2 (by omega)) rfl rfl (by omega) (by decide) ((hP m (by omega)).2.2 i (by omega)).2.2.1 d_M_move_18 rfl ?_
  refine fm_istore (pq := 21) (ls1 := [some (.inr 4), some (.inr (kC m)), some (.inl (nI i)), some (.inl (nI ((r - 1) * 4))), some (.inl (nI ((P.2.2 m i).2.1))), some (.inl (nI ((P.2.2 m i).2.2.1))), none]) hX d_M_move_19 (by decide) rfl rfl ?_
  refine fm_aload_n (pq := 22) hX d_M_move_21 rfl rfl rfl ?_
  refine fm_getr (pq := 25) (q := kCa m 3) hX fM_102 (s_C (by omega)) rfl d_M_move_22 rfl ?_
  refine fm_iload_n (pq := 26) hX d_M_move_25 rfl rfl rfl ?_
  refine fm_iald (pq := 27) (v := nI ((P.2.2 m i).2.2.2.1)) hX (s_Ca3 (by omega)) rfl rfl (by omega) (by decide) ((hP m (by omega)).2.2 i (by omega)).2.2.2.1 d_M_move_26 rfl ?_
  refine fm_istore (pq := 29) (ls1 := [some (.inr 4), some (.inr (kC m)), some (.inl (nI i)), some (.inl (nI ((r - 1) * 4))), some (.inl (nI ((P.2.2 m i).2.1))), some (.inl (nI ((P.2.2 m i).2.2.1))), some (.inl (nI ((P.2.2 m i).2.2.2.1)))]) hX d_M_move_27 (by decide) rfl rfl ?_
  refine fm_aload_n (pq := 30) hX d_M_move_29 rfl rfl rfl ?_
  refine fm_getr (pq := 33) (q := kCa m 0) hX fM_93 (s_C (by omega)) rfl d_M_move_30 rfl ?_
  refine fm_iload_n (pq := 34) hX d_M_move_33 rfl rfl rfl ?_
  refine fm_iald (pq := 35) (v := nI ((P.2.2 m i).1)) hX (s_Ca0 (by omega)) rfl rfl (by omega) (by decide) ((hP m (by omega)).2.2 i (by omega)).1 d_M_move_34 rfl ?_
  rcases (by omega : ((P.2.2 m i).1 = 0 ∨ (P.2.2 m i).1 = 3 ∨ (P.2.2 m i).1 = 4 ∨ (P.2.2 m i).1 = 5 ∨ (P.2.2 m i).1 = 6 ∨ (P.2.2 m i).1 = 10 ∨ (P.2.2 m i).1 = 11 ∨ (P.2.2 m i).1 = 14 ∨ (P.2.2 m i).1 = 15 ∨ (P.2.2 m i).1 = 16 ∨ (P.2.2 m i).1 = 17) ∨ ((P.2.2 m i).1 = 1) ∨ ((P.2.2 m i).1 = 2) ∨ ((P.2.2 m i).1 = 7) ∨ ((P.2.2 m i).1 = 8) ∨ ((P.2.2 m i).1 = 9) ∨ ((P.2.2 m i).1 = 12) ∨ ((P.2.2 m i).1 = 13) ∨ ((P.2.2 m i).1 = 18)) with h35 | h35 | h35 | h35 | h35 | h35 | h35 | h35 | h35
  · refine fm_table (tgt := 295) (off := 260) hX d_M_move_35 (by decide) (by rcases h35 with e | e | e | e | e | e | e | e | e | e | e <;> rw [e] <;> decide) (by decide) ?_
    refine fm_vret hX rfl d_M_move_295 ?_
    first
    | exact ⟨rfl, (cm_move_1 h35).symm⟩
    | exact ⟨rfl, (cm_move_2 h35).symm⟩
    | exact ⟨rfl, (cm_move_7 h35).symm⟩
    | exact ⟨rfl, (cm_move_8 h35).symm⟩
    | exact ⟨rfl, (cm_move_12 h35).symm⟩
    | exact ⟨rfl, (cm_move_13 h35).symm⟩
    | exact ⟨rfl, (cm_move_18 h35).symm⟩
    | exact ⟨rfl, by rw [cm_move_9 h35, decide_eq_true h229]; rfl⟩
    | exact ⟨rfl, by rw [cm_move_9 h35, decide_eq_false h229]; rfl⟩
    | exact ⟨rfl, (cm_move_0 (by omega)).symm⟩
  · refine fm_table (tgt := 120) (off := 85) hX d_M_move_35 (by decide) (by rw [h35]; decide) (by decide) ?_
    refine fm_aload_n (pq := 121) hX d_M_move_120 rfl rfl rfl ?_
    refine fm_getr (pq := 124) (q := 12) hX fM_33 rfl rfl d_M_move_121 rfl ?_
    refine fm_iload_n (pq := 125) hX d_M_move_124 rfl rfl rfl ?_
    refine fm_iload (pq := 127) hX d_M_move_125 rfl rfl ?_
    refine fm_iadd (pq := 128) (v := nI ((r - 1) * 4 + ((P.2.2 m i).2.1))) hX d_M_move_127 (nI_add _ _) rfl ?_
    refine fm_aload_n (pq := 129) hX d_M_move_128 rfl rfl rfl ?_
    refine fm_getr (pq := 132) (q := 12) hX fM_33 rfl rfl d_M_move_129 rfl ?_
    refine fm_iload_n (pq := 133) hX d_M_move_132 rfl rfl rfl ?_
    refine fm_iload (pq := 135) hX d_M_move_133 rfl rfl ?_
    refine fm_iadd (pq := 136) (v := nI ((r - 1) * 4 + ((P.2.2 m i).2.2.1))) hX d_M_move_135 (nI_add _ _) rfl ?_
    refine fm_iald (pq := 137) (v := M 12 ((r - 1) * 4 + ((P.2.2 m i).2.2.1))) hX rfl rfl rfl (by omega) (by decide) rfl d_M_move_136 rfl ?_
    refine fm_iast (pq := 138) hX rfl rfl rfl (by omega) (by decide) d_M_move_137 rfl ?_
    refine fm_goto (tgt := 295) hX d_M_move_138 rfl ?_
    refine fm_vret hX rfl d_M_move_295 ?_
    first
    | exact ⟨rfl, (cm_move_1 h35).symm⟩
    | exact ⟨rfl, (cm_move_2 h35).symm⟩
    | exact ⟨rfl, (cm_move_7 h35).symm⟩
    | exact ⟨rfl, (cm_move_8 h35).symm⟩
    | exact ⟨rfl, (cm_move_12 h35).symm⟩
    | exact ⟨rfl, (cm_move_13 h35).symm⟩
    | exact ⟨rfl, (cm_move_18 h35).symm⟩
    | exact ⟨rfl, by rw [cm_move_9 h35, decide_eq_true h229]; rfl⟩
    | exact ⟨rfl, by rw [cm_move_9 h35, decide_eq_false h229]; rfl⟩
    | exact ⟨rfl, (cm_move_0 (by omega)).symm⟩
  · refine fm_table (tgt := 141) (off := 106) hX d_M_move_35 (by decide) (by rw [h35]; decide) (by decide) ?_
    refine fm_aload_n (pq := 142) hX d_M_move_141 rfl rfl rfl ?_
    refine fm_getr (pq := 145) (q := 12) hX fM_33 rfl rfl d_M_move_142 rfl ?_
    refine fm_iload_n (pq := 146) hX d_M_move_145 rfl rfl rfl ?_
    refine fm_iload (pq := 148) hX d_M_move_146 rfl rfl ?_
    refine fm_iadd (pq := 149) (v := nI ((r - 1) * 4 + ((P.2.2 m i).2.1))) hX d_M_move_148 (nI_add _ _) rfl ?_
    refine fm_iconst (pq := 150) (v := nI 0) hX d_M_move_149 (by decide) rfl ?_
    refine fm_iast (pq := 151) hX rfl rfl rfl (by omega) (by decide) d_M_move_150 rfl ?_
    refine fm_goto (tgt := 295) hX d_M_move_151 rfl ?_
    refine fm_vret hX rfl d_M_move_295 ?_
    first
    | exact ⟨rfl, (cm_move_1 h35).symm⟩
    | exact ⟨rfl, (cm_move_2 h35).symm⟩
    | exact ⟨rfl, (cm_move_7 h35).symm⟩
    | exact ⟨rfl, (cm_move_8 h35).symm⟩
    | exact ⟨rfl, (cm_move_12 h35).symm⟩
    | exact ⟨rfl, (cm_move_13 h35).symm⟩
    | exact ⟨rfl, (cm_move_18 h35).symm⟩
    | exact ⟨rfl, by rw [cm_move_9 h35, decide_eq_true h229]; rfl⟩
    | exact ⟨rfl, by rw [cm_move_9 h35, decide_eq_false h229]; rfl⟩
    | exact ⟨rfl, (cm_move_0 (by omega)).symm⟩
  · refine fm_table (tgt := 154) (off := 119) hX d_M_move_35 (by decide) (by rw [h35]; decide) (by decide) ?_
    refine fm_aload_n (pq := 155) hX d_M_move_154 rfl rfl rfl ?_
    refine fm_getr (pq := 158) (q := 13) hX fM_36 rfl rfl d_M_move_155 rfl ?_
    refine fm_iload_n (pq := 159) hX d_M_move_158 rfl rfl rfl ?_
    refine fm_iload (pq := 161) hX d_M_move_159 rfl rfl ?_
    refine fm_iadd (pq := 162) (v := nI ((r - 1) * 4 + ((P.2.2 m i).2.1))) hX d_M_move_161 (nI_add _ _) rfl ?_
    refine fm_aload_n (pq := 163) hX d_M_move_162 rfl rfl rfl ?_
    refine fm_getr (pq := 166) (q := kCa m 4) hX fM_121 (s_C (by omega)) rfl d_M_move_163 rfl ?_
    refine fm_iload_n (pq := 167) hX d_M_move_166 rfl rfl rfl ?_
    refine fm_iald (pq := 168) (v := (P.2.2 m i).2.2.2.2) hX (s_Ca4 (by omega)) rfl rfl (by omega) (by decide) ((hP m (by omega)).2.2 i (by omega)).2.2.2.2 d_M_move_167 rfl ?_
    refine fm_iast (pq := 169) hX rfl rfl rfl (by omega) (by decide) d_M_move_168 rfl ?_
    refine fm_goto (tgt := 295) hX d_M_move_169 rfl ?_
    refine fm_vret hX rfl d_M_move_295 ?_
    first
    | exact ⟨rfl, (cm_move_1 h35).symm⟩
    | exact ⟨rfl, (cm_move_2 h35).symm⟩
    | exact ⟨rfl, (cm_move_7 h35).symm⟩
    | exact ⟨rfl, (cm_move_8 h35).symm⟩
    | exact ⟨rfl, (cm_move_12 h35).symm⟩
    | exact ⟨rfl, (cm_move_13 h35).symm⟩
    | exact ⟨rfl, (cm_move_18 h35).symm⟩
    | exact ⟨rfl, by rw [cm_move_9 h35, decide_eq_true h229]; rfl⟩
    | exact ⟨rfl, by rw [cm_move_9 h35, decide_eq_false h229]; rfl⟩
    | exact ⟨rfl, (cm_move_0 (by omega)).symm⟩
  · refine fm_table (tgt := 172) (off := 137) hX d_M_move_35 (by decide) (by rw [h35]; decide) (by decide) ?_
    refine fm_aload_n (pq := 173) hX d_M_move_172 rfl rfl rfl ?_
    refine fm_getr (pq := 176) (q := 13) hX fM_36 rfl rfl d_M_move_173 rfl ?_
    refine fm_iload_n (pq := 177) hX d_M_move_176 rfl rfl rfl ?_
    refine fm_iload (pq := 179) hX d_M_move_177 rfl rfl ?_
    refine fm_iadd (pq := 180) (v := nI ((r - 1) * 4 + ((P.2.2 m i).2.1))) hX d_M_move_179 (nI_add _ _) rfl ?_
    refine fm_aload_n (pq := 181) hX d_M_move_180 rfl rfl rfl ?_
    refine fm_getr (pq := 184) (q := 13) hX fM_36 rfl rfl d_M_move_181 rfl ?_
    refine fm_iload_n (pq := 185) hX d_M_move_184 rfl rfl rfl ?_
    refine fm_iload (pq := 187) hX d_M_move_185 rfl rfl ?_
    refine fm_iadd (pq := 188) (v := nI ((r - 1) * 4 + ((P.2.2 m i).2.2.1))) hX d_M_move_187 (nI_add _ _) rfl ?_
    refine fm_iald (pq := 189) (v := M 13 ((r - 1) * 4 + ((P.2.2 m i).2.2.1))) hX rfl rfl rfl (by omega) (by decide) rfl d_M_move_188 rfl ?_
    refine fm_aload_n (pq := 190) hX d_M_move_189 rfl rfl rfl ?_
    refine fm_getr (pq := 193) (q := 13) hX fM_36 rfl rfl d_M_move_190 rfl ?_
    refine fm_iload_n (pq := 194) hX d_M_move_193 rfl rfl rfl ?_
    refine fm_iload (pq := 196) hX d_M_move_194 rfl rfl ?_
    refine fm_iadd (pq := 197) (v := nI ((r - 1) * 4 + ((P.2.2 m i).2.2.2.1))) hX d_M_move_196 (nI_add _ _) rfl ?_
    refine fm_iald (pq := 198) (v := M 13 ((r - 1) * 4 + ((P.2.2 m i).2.2.2.1))) hX rfl rfl rfl (by omega) (by decide) rfl d_M_move_197 rfl ?_
    refine fm_iadd (pq := 199) (v := (M 13 ((r - 1) * 4 + ((P.2.2 m i).2.2.1))) + (M 13 ((r - 1) * 4 + ((P.2.2 m i).2.2.2.1)))) hX d_M_move_198 rfl rfl ?_
    refine fm_iast (pq := 200) hX rfl rfl rfl (by omega) (by decide) d_M_move_199 rfl ?_
    refine fm_goto (tgt := 295) hX d_M_move_200 rfl ?_
    refine fm_vret hX rfl d_M_move_295 ?_
    first
    | exact ⟨rfl, (cm_move_1 h35).symm⟩
    | exact ⟨rfl, (cm_move_2 h35).symm⟩
    | exact ⟨rfl, (cm_move_7 h35).symm⟩
    | exact ⟨rfl, (cm_move_8 h35).symm⟩
    | exact ⟨rfl, (cm_move_12 h35).symm⟩
    | exact ⟨rfl, (cm_move_13 h35).symm⟩
    | exact ⟨rfl, (cm_move_18 h35).symm⟩
    | exact ⟨rfl, by rw [cm_move_9 h35, decide_eq_true h229]; rfl⟩
    | exact ⟨rfl, by rw [cm_move_9 h35, decide_eq_false h229]; rfl⟩
    | exact ⟨rfl, (cm_move_0 (by omega)).symm⟩
  · refine fm_table (tgt := 203) (off := 168) hX d_M_move_35 (by decide) (by rw [h35]; decide) (by decide) ?_
    refine fm_aload_n (pq := 204) hX d_M_move_203 rfl rfl rfl ?_
    refine fm_getr (pq := 207) (q := 13) hX fM_36 rfl rfl d_M_move_204 rfl ?_
    refine fm_iload_n (pq := 208) hX d_M_move_207 rfl rfl rfl ?_
    refine fm_iload (pq := 210) hX d_M_move_208 rfl rfl ?_
    refine fm_iadd (pq := 211) (v := nI ((r - 1) * 4 + ((P.2.2 m i).2.1))) hX d_M_move_210 (nI_add _ _) rfl ?_
    refine fm_aload_n (pq := 212) hX d_M_move_211 rfl rfl rfl ?_
    refine fm_getr (pq := 215) (q := 12) hX fM_33 rfl rfl d_M_move_212 rfl ?_
    refine fm_iload_n (pq := 216) hX d_M_move_215 rfl rfl rfl ?_
    refine fm_iload (pq := 218) hX d_M_move_216 rfl rfl ?_
    refine fm_iadd (pq := 219) (v := nI ((r - 1) * 4 + ((P.2.2 m i).2.2.1))) hX d_M_move_218 (nI_add _ _) rfl ?_
    refine fm_iald (pq := 220) (v := M 12 ((r - 1) * 4 + ((P.2.2 m i).2.2.1))) hX rfl rfl rfl (by omega) (by decide) rfl d_M_move_219 rfl ?_
    refine fm_aload_n (pq := 221) hX d_M_move_220 rfl rfl rfl ?_
    refine fm_getr (pq := 224) (q := 12) hX fM_33 rfl rfl d_M_move_221 rfl ?_
    refine fm_iload_n (pq := 225) hX d_M_move_224 rfl rfl rfl ?_
    refine fm_iload (pq := 227) hX d_M_move_225 rfl rfl ?_
    refine fm_iadd (pq := 228) (v := nI ((r - 1) * 4 + ((P.2.2 m i).2.2.2.1))) hX d_M_move_227 (nI_add _ _) rfl ?_
    refine fm_iald (pq := 229) (v := M 12 ((r - 1) * 4 + ((P.2.2 m i).2.2.2.1))) hX rfl rfl rfl (by omega) (by decide) rfl d_M_move_228 rfl ?_
    refine fm_icmp_ne (tgt := 236) (pq := 232) hX d_M_move_229 rfl rfl (fun h229 => ?_) (fun h229 => ?_)
    · show fm_G SC Y_M_move X M (fm_vv (cm_move M r sh (P.2.2 m i))) 236 [some (.inr 4), some (.inr (kC m)), some (.inl (nI i)), some (.inl (nI ((r - 1) * 4))), some (.inl (nI ((P.2.2 m i).2.1))), some (.inl (nI ((P.2.2 m i).2.2.1))), some (.inl (nI ((P.2.2 m i).2.2.2.1)))] [.inl (nI ((r - 1) * 4 + ((P.2.2 m i).2.1))), .inr 13] M
      refine fm_iconst (pq := 237) (v := nI 0) hX d_M_move_236 (by decide) rfl ?_
      refine fm_iast (pq := 238) hX rfl rfl rfl (by omega) (by decide) d_M_move_237 rfl ?_
      refine fm_goto (tgt := 295) hX d_M_move_238 rfl ?_
      refine fm_vret hX rfl d_M_move_295 ?_
      first
      | exact ⟨rfl, (cm_move_1 h35).symm⟩
      | exact ⟨rfl, (cm_move_2 h35).symm⟩
      | exact ⟨rfl, (cm_move_7 h35).symm⟩
      | exact ⟨rfl, (cm_move_8 h35).symm⟩
      | exact ⟨rfl, (cm_move_12 h35).symm⟩
      | exact ⟨rfl, (cm_move_13 h35).symm⟩
      | exact ⟨rfl, (cm_move_18 h35).symm⟩
      | exact ⟨rfl, by rw [cm_move_9 h35, decide_eq_true h229]; rfl⟩
      | exact ⟨rfl, by rw [cm_move_9 h35, decide_eq_false h229]; rfl⟩
      | exact ⟨rfl, (cm_move_0 (by omega)).symm⟩
    · show fm_G SC Y_M_move X M (fm_vv (cm_move M r sh (P.2.2 m i))) 232 [some (.inr 4), some (.inr (kC m)), some (.inl (nI i)), some (.inl (nI ((r - 1) * 4))), some (.inl (nI ((P.2.2 m i).2.1))), some (.inl (nI ((P.2.2 m i).2.2.1))), some (.inl (nI ((P.2.2 m i).2.2.2.1)))] [.inl (nI ((r - 1) * 4 + ((P.2.2 m i).2.1))), .inr 13] M
      refine fm_iconst (pq := 233) (v := nI 1) hX d_M_move_232 (by decide) rfl ?_
      refine fm_goto (tgt := 237) hX d_M_move_233 rfl ?_
      refine fm_iast (pq := 238) hX rfl rfl rfl (by omega) (by decide) d_M_move_237 rfl ?_
      refine fm_goto (tgt := 295) hX d_M_move_238 rfl ?_
      refine fm_vret hX rfl d_M_move_295 ?_
      first
      | exact ⟨rfl, (cm_move_1 h35).symm⟩
      | exact ⟨rfl, (cm_move_2 h35).symm⟩
      | exact ⟨rfl, (cm_move_7 h35).symm⟩
      | exact ⟨rfl, (cm_move_8 h35).symm⟩
      | exact ⟨rfl, (cm_move_12 h35).symm⟩
      | exact ⟨rfl, (cm_move_13 h35).symm⟩
      | exact ⟨rfl, (cm_move_18 h35).symm⟩
      | exact ⟨rfl, by rw [cm_move_9 h35, decide_eq_true h229]; rfl⟩
      | exact ⟨rfl, by rw [cm_move_9 h35, decide_eq_false h229]; rfl⟩
      | exact ⟨rfl, (cm_move_0 (by omega)).symm⟩
  · refine fm_table (tgt := 241) (off := 206) hX d_M_move_35 (by decide) (by rw [h35]; decide) (by decide) ?_
    refine fm_aload_n (pq := 242) hX d_M_move_241 rfl rfl rfl ?_
    refine fm_getr (pq := 245) (q := 8) hX fM_21 rfl rfl d_M_move_242 rfl ?_
    refine fm_iload (pq := 247) hX d_M_move_245 rfl rfl ?_
    refine fm_aload_n (pq := 248) hX d_M_move_247 rfl rfl rfl ?_
    refine fm_getr (pq := 251) (q := 12) hX fM_33 rfl rfl d_M_move_248 rfl ?_
    refine fm_iload_n (pq := 252) hX d_M_move_251 rfl rfl rfl ?_
    refine fm_iload (pq := 254) hX d_M_move_252 rfl rfl ?_
    refine fm_iadd (pq := 255) (v := nI ((r - 1) * 4 + ((P.2.2 m i).2.1))) hX d_M_move_254 (nI_add _ _) rfl ?_
    refine fm_iald (pq := 256) (v := M 12 ((r - 1) * 4 + ((P.2.2 m i).2.1))) hX rfl rfl rfl (by omega) (by decide) rfl d_M_move_255 rfl ?_
    refine fm_iast (pq := 257) hX rfl rfl rfl (by omega) (by decide) d_M_move_256 rfl ?_
    refine fm_goto (tgt := 295) hX d_M_move_257 rfl ?_
    refine fm_vret hX rfl d_M_move_295 ?_
    first
    | exact ⟨rfl, (cm_move_1 h35).symm⟩
    | exact ⟨rfl, (cm_move_2 h35).symm⟩
    | exact ⟨rfl, (cm_move_7 h35).symm⟩
    | exact ⟨rfl, (cm_move_8 h35).symm⟩
    | exact ⟨rfl, (cm_move_12 h35).symm⟩
    | exact ⟨rfl, (cm_move_13 h35).symm⟩
    | exact ⟨rfl, (cm_move_18 h35).symm⟩
    | exact ⟨rfl, by rw [cm_move_9 h35, decide_eq_true h229]; rfl⟩
    | exact ⟨rfl, by rw [cm_move_9 h35, decide_eq_false h229]; rfl⟩
    | exact ⟨rfl, (cm_move_0 (by omega)).symm⟩
  · refine fm_table (tgt := 260) (off := 225) hX d_M_move_35 (by decide) (by rw [h35]; decide) (by decide) ?_
    refine fm_aload_n (pq := 261) hX d_M_move_260 rfl rfl rfl ?_
    refine fm_getr (pq := 264) (q := 12) hX fM_33 rfl rfl d_M_move_261 rfl ?_
    refine fm_iload_n (pq := 265) hX d_M_move_264 rfl rfl rfl ?_
    refine fm_iload (pq := 267) hX d_M_move_265 rfl rfl ?_
    refine fm_iadd (pq := 268) (v := nI ((r - 1) * 4 + ((P.2.2 m i).2.1))) hX d_M_move_267 (nI_add _ _) rfl ?_
    refine fm_aload_n (pq := 269) hX d_M_move_268 rfl rfl rfl ?_
    refine fm_getr (pq := 272) (q := 8) hX fM_21 rfl rfl d_M_move_269 rfl ?_
    refine fm_iload (pq := 274) hX d_M_move_272 rfl rfl ?_
    refine fm_iald (pq := 275) (v := M 8 ((P.2.2 m i).2.2.1)) hX rfl rfl rfl (by omega) (by decide) rfl d_M_move_274 rfl ?_
    refine fm_iast (pq := 276) hX rfl rfl rfl (by omega) (by decide) d_M_move_275 rfl ?_
    refine fm_goto (tgt := 295) hX d_M_move_276 rfl ?_
    refine fm_vret hX rfl d_M_move_295 ?_
    first
    | exact ⟨rfl, (cm_move_1 h35).symm⟩
    | exact ⟨rfl, (cm_move_2 h35).symm⟩
    | exact ⟨rfl, (cm_move_7 h35).symm⟩
    | exact ⟨rfl, (cm_move_8 h35).symm⟩
    | exact ⟨rfl, (cm_move_12 h35).symm⟩
    | exact ⟨rfl, (cm_move_13 h35).symm⟩
    | exact ⟨rfl, (cm_move_18 h35).symm⟩
    | exact ⟨rfl, by rw [cm_move_9 h35, decide_eq_true h229]; rfl⟩
    | exact ⟨rfl, by rw [cm_move_9 h35, decide_eq_false h229]; rfl⟩
    | exact ⟨rfl, (cm_move_0 (by omega)).symm⟩
  · refine fm_table (tgt := 279) (off := 244) hX d_M_move_35 (by decide) (by rw [h35]; decide) (by decide) ?_
    refine fm_aload_n (pq := 280) hX d_M_move_279 rfl rfl rfl ?_
    refine fm_aload_n (pq := 281) hX d_M_move_280 rfl rfl rfl ?_
    refine fm_getr (pq := 284) (q := 13) hX fM_36 rfl rfl d_M_move_281 rfl ?_
    refine fm_iload_n (pq := 285) hX d_M_move_284 rfl rfl rfl ?_
    refine fm_iload (pq := 287) hX d_M_move_285 rfl rfl ?_
    refine fm_iadd (pq := 288) (v := nI ((r - 1) * 4 + ((P.2.2 m i).2.1))) hX d_M_move_287 (nI_add _ _) rfl ?_
    refine fm_iald (pq := 289) (v := M 13 ((r - 1) * 4 + ((P.2.2 m i).2.1))) hX rfl rfl rfl (by omega) (by decide) rfl d_M_move_288 rfl ?_
    refine fm_callV_v (as := [.inl (M 13 ((r - 1) * 4 + ((P.2.2 m i).2.1)))]) (st := []) (pq := 292) hX rfl rfl cM_138 rfl im_M_show se_M_show (k_M_show M hsh (by omega) (M 13 ((r - 1) * 4 + ((P.2.2 m i).2.1)))) rfl rfl (Nat.le_of_ble_eq_true rfl) (Nat.le_of_ble_eq_true rfl) d_M_move_289 rfl ?_
    refine fm_goto (tgt := 295) hX d_M_move_292 rfl ?_
    refine fm_vret hX rfl d_M_move_295 ?_
    first
    | exact ⟨rfl, (cm_move_1 h35).symm⟩
    | exact ⟨rfl, (cm_move_2 h35).symm⟩
    | exact ⟨rfl, (cm_move_7 h35).symm⟩
    | exact ⟨rfl, (cm_move_8 h35).symm⟩
    | exact ⟨rfl, (cm_move_12 h35).symm⟩
    | exact ⟨rfl, (cm_move_13 h35).symm⟩
    | exact ⟨rfl, (cm_move_18 h35).symm⟩
    | exact ⟨rfl, by rw [cm_move_9 h35, decide_eq_true h229]; rfl⟩
    | exact ⟨rfl, by rw [cm_move_9 h35, decide_eq_false h229]; rfl⟩
    | exact ⟨rfl, (cm_move_0 (by omega)).symm⟩
abbrev Y_M_perform : fm_Y := ("EscapeMill$Machine", b_M_perform, 8, none, 4)
set_option maxRecDepth 100000 in
set_option maxHeartbeats 4000000 in
theorem k_M_perform {P : pr_T} {m i : Nat} (hm : m < 5) (hi : i < P.1 m) (M : fm_M) (hP : cP M P) (hw : pr_wf P) {r : Nat} (hr : M 4 9 = nI r) (h1 : 1 ≤ r) (h8 : r ≤ 8) {md sh t : Nat} (hmd : M 4 14 = nI md) (hm4 : md < 400) (hsh : M 4 12 = nI sh) (hs4 : sh < 1000) (ht : t < 4) (ht0 : 2 ≤ r → M 11 (r - 1) = nI t) (cs : Nat → Nat) (hcs : ∀ v, v < 4 → M 12 ((r - 1) * 4 + v) = nI (cs v) ∧ cs v < 433) (ft : Int32) : fm_ct SC y_M_perform b_M_perform 8 none 4 [.inr 4, .inr 1, .inl (nI m), .inl (nI i), .inl ft] M (fm_vv (cm_per P M r md sh t (P.2.2 m i).2.2.2.2.toNatClampNeg (if (P.2.2 m i).1 = 3 ∨ (P.2.2 m i).1 = 5 then cs (P.2.2 m i).2.2.1 else cs (P.2.2 m i).2.1) (P.2.2 m i) ft)) := by
  refine fm_of (ls := [some (.inr 4), some (.inr 1), some (.inl (nI m)), some (.inl (nI i)), some (.inl ft), none, none, none]) (by decide) wsA_good (Nat.le_of_ble_eq_true rfl) rfl (fun X hX => ?_)
  obtain ⟨wl, wi, wI⟩ := hw m hm
  obtain ⟨w1, w2, w3, w4, w5, w6⟩ := wI i hi
  have hcx := (hcs (P.2.2 m i).2.1 w2).2
  have hcy := (hcs (P.2.2 m i).2.2.1 w3).2
  show fm_G SC Y_M_perform X M (fm_vv (cm_per P M r md sh t (P.2.2 m i).2.2.2.2.toNatClampNeg (if (P.2.2 m i).1 = 3 ∨ (P.2.2 m i).1 = 5 then cs (P.2.2 m i).2.2.1 else cs (P.2.2 m i).2.1) (P.2.2 m i) ft)) 0 [some (.inr 4), some (.inr 1), some (.inl (nI m)), some (.inl (nI i)), some (.inl ft), none, none, none] [] M
  refine fm_aload_n (pq := 1) hX d_M_perform_0 rfl rfl rfl ?_
  refine fm_iload_n (pq := 2) hX d_M_perform_1 rfl rfl rfl ?_
  refine fm_aald (pq := 3) (q := kC m) hX rfl (by decide) rfl rfl rfl (by omega) (by decide) (r_C (by omega)) d_M_perform_2 rfl ?_
  refine fm_getr (pq := 6) (q := kCa m 0) hX fM_93 (s_C (by omega)) rfl d_M_perform_3 rfl ?_
  refine fm_iload_n (pq := 7) hX d_M_perform_6 rfl rfl rfl ?_
  refine fm_iald (pq := 8) (v := nI ((P.2.2 m i).1)) hX (s_Ca0 (by omega)) rfl rfl (by omega) (by decide) ((hP m (by omega)).2.2 i (by omega)).1 d_M_perform_7 rfl ?_
  refine fm_istore (pq := 10) (ls1 := [some (.inr 4), some (.inr 1), some (.inl (nI m)), some (.inl (nI i)), some (.inl ft), some (.inl (nI ((P.2.2 m i).1))), none, none]) hX d_M_perform_8 (by decide) rfl rfl ?_
  refine fm_aload_n (pq := 11) hX d_M_perform_10 rfl rfl rfl ?_
  refine fm_iload_n (pq := 12) hX d_M_perform_11 rfl rfl rfl ?_
  refine fm_aald (pq := 13) (q := kC m) hX rfl (by decide) rfl rfl rfl (by omega) (by decide) (r_C (by omega)) d_M_perform_12 rfl ?_
  refine fm_getr (pq := 16) (q := kCa m 1) hX fM_96 (s_C (by omega)) rfl d_M_perform_13 rfl ?_
  refine fm_iload_n (pq := 17) hX d_M_perform_16 rfl rfl rfl ?_
  refine fm_iald (pq := 18) (v := nI ((P.2.2 m i).2.1)) hX (s_Ca1 (by omega)) rfl rfl (by omega) (by decide) ((hP m (by omega)).2.2 i (by omega)).2.1 d_M_perform_17 rfl ?_
  refine fm_istore (pq := 20) (ls1 := [some (.inr 4), some (.inr 1), some (.inl (nI m)), some (.inl (nI i)), some (.inl ft), some (.inl (nI ((P.2.2 m i).1))), some (.inl (nI ((P.2.2 m i).2.1))), none]) hX d_M_perform_18 (by decide) rfl rfl ?_
  refine fm_aload_n (pq := 21) hX d_M_perform_20 rfl rfl rfl ?_
  refine fm_iload_n (pq := 22) hX d_M_perform_21 rfl rfl rfl ?_
  refine fm_aald (pq := 23) (q := kC m) hX rfl (by decide) rfl rfl rfl (by omega) (by decide) (r_C (by omega)) d_M_perform_22 rfl ?_
  refine fm_getr (pq := 26) (q := kCa m 2) hX fM_99 (s_C (by omega)) rfl d_M_perform_23 rfl ?_
  refine fm_iload_n (pq := 27) hX d_M_perform_26 rfl rfl rfl ?_
  refine fm_iald (pq := 28) (v := nI ((P.2.2 m i).2.2.1)) hX (s_Ca2 (by omega)) rfl rfl (by omega) (by decide) ((hP m (by omega)).2.2 i (by omega)).2.2.1 d_M_perform_27 rfl ?_
  refine fm_istore (pq := 30) (ls1 := [some (.inr 4), some (.inr 1), some (.inl (nI m)), some (.inl (nI i)), some (.inl ft), some (.inl (nI ((P.2.2 m i).1))), some (.inl (nI ((P.2.2 m i).2.1))), some (.inl (nI ((P.2.2 m i).2.2.1)))]) hX d_M_perform_28 (by decide) rfl rfl ?_
  refine fm_iload (pq := 32) hX d_M_perform_30 rfl rfl ?_
  rcases (by omega : ((P.2.2 m i).1 = 0) ∨ ((P.2.2 m i).1 = 1 ∨ (P.2.2 m i).1 = 2 ∨ (P.2.2 m i).1 = 7 ∨ (P.2.2 m i).1 = 8 ∨ (P.2.2 m i).1 = 9 ∨ (P.2.2 m i).1 = 12 ∨ (P.2.2 m i).1 = 13 ∨ (P.2.2 m i).1 = 18) ∨ ((P.2.2 m i).1 = 3 ∨ (P.2.2 m i).1 = 5) ∨ ((P.2.2 m i).1 = 4 ∨ (P.2.2 m i).1 = 6) ∨ ((P.2.2 m i).1 = 10 ∨ (P.2.2 m i).1 = 11) ∨ ((P.2.2 m i).1 = 14) ∨ ((P.2.2 m i).1 = 15) ∨ ((P.2.2 m i).1 = 16) ∨ ((P.2.2 m i).1 = 17)) with h32 | h32 | h32 | h32 | h32 | h32 | h32 | h32 | h32
  · refine fm_table (tgt := 277) (off := 245) hX d_M_perform_32 (by decide) (by rw [h32]; decide) (by decide) ?_
    refine fm_aload_n (pq := 278) hX d_M_perform_277 rfl rfl rfl ?_
    refine fm_getr (pq := 281) (q := 12) hX fM_33 rfl rfl d_M_perform_278 rfl ?_
    refine fm_aload_n (pq := 282) hX d_M_perform_281 rfl rfl rfl ?_
    refine fm_callV_i (as := []) (st := [.inr 12]) (pq := 285) hX rfl rfl cM_124 rfl im_M_base se_M_base (k_M_base M (r := r) hr (by omega) (by omega)) rfl rfl (Nat.le_of_ble_eq_true rfl) (Nat.le_of_ble_eq_true rfl) d_M_perform_282 rfl ?_
    refine fm_iload (pq := 287) hX d_M_perform_285 rfl rfl ?_
    refine fm_iadd (pq := 288) (v := nI ((r - 1) * 4 + ((P.2.2 m i).2.1))) hX d_M_perform_287 (nI_add _ _) rfl ?_
    refine fm_iload (pq := 290) hX d_M_perform_288 rfl rfl ?_
    refine fm_iconst (pq := 291) (v := nI 1) hX d_M_perform_290 (by decide) rfl ?_
    refine fm_icmp_ne (tgt := 303) (pq := 294) hX d_M_perform_291 rfl rfl (fun h291 => ?_) (fun h291 => ?_)
    · show fm_G SC Y_M_perform X M (fm_vv (cm_per P M r md sh t (P.2.2 m i).2.2.2.2.toNatClampNeg (if (P.2.2 m i).1 = 3 ∨ (P.2.2 m i).1 = 5 then cs (P.2.2 m i).2.2.1 else cs (P.2.2 m i).2.1) (P.2.2 m i) ft)) 303 [some (.inr 4), some (.inr 1), some (.inl (nI m)), some (.inl (nI i)), some (.inl ft), some (.inl (nI ((P.2.2 m i).1))), some (.inl (nI ((P.2.2 m i).2.1))), some (.inl (nI ((P.2.2 m i).2.2.1)))] [.inl (nI ((r - 1) * 4 + ((P.2.2 m i).2.1))), .inr 12] M
      refine fm_aload_n (pq := 304) hX d_M_perform_303 rfl rfl rfl ?_
      refine fm_callV_i (as := []) (st := [.inl (nI ((r - 1) * 4 + ((P.2.2 m i).2.1))), .inr 12]) (pq := 307) hX rfl rfl cM_131 rfl im_M_newObject se_M_newObject (k_M_newObject M hmd (by omega)) rfl rfl (Nat.le_of_ble_eq_true rfl) (Nat.le_of_ble_eq_true rfl) d_M_perform_304 rfl ?_
      refine fm_iast (pq := 308) hX rfl rfl rfl (by omega) (by decide) d_M_perform_307 rfl ?_
      refine fm_goto (tgt := 319) hX d_M_perform_308 rfl ?_
      refine fm_vret hX rfl d_M_perform_319 ?_
      refine ⟨rfl, ?_⟩
      first
      | (rw [cm_per_w (by omega), if_pos (by omega)]; done)
      | (rw [cm_per_w (by omega), if_neg (by omega)]; done)
      | (rw [cm_per_l (by omega), if_pos h177]; done)
      | (rw [cm_per_l (by omega), if_neg h177, if_neg (by omega)]; done)
      | (rw [cm_per_16 h32, hn, nI_clamp (by omega)]; done)
      | (rw [cm_per_17 h32, (hcs (P.2.2 m i).2.1 w2).1]; done)
      | (rw [cm_per_14 h32]; done)
      | (rw [cm_per_15 h32, if_pos h252]; done)
      | (rw [cm_per_15 h32, if_neg h252]; done)
      | (rw [cm_per_0 h32, if_pos h291]; done)
      | (rw [cm_per_0 h32, if_neg h291]; done)
      | (rw [cm_per_m (by omega)]; done)
    · show fm_G SC Y_M_perform X M (fm_vv (cm_per P M r md sh t (P.2.2 m i).2.2.2.2.toNatClampNeg (if (P.2.2 m i).1 = 3 ∨ (P.2.2 m i).1 = 5 then cs (P.2.2 m i).2.2.1 else cs (P.2.2 m i).2.1) (P.2.2 m i) ft)) 294 [some (.inr 4), some (.inr 1), some (.inl (nI m)), some (.inl (nI i)), some (.inl ft), some (.inl (nI ((P.2.2 m i).1))), some (.inl (nI ((P.2.2 m i).2.1))), some (.inl (nI ((P.2.2 m i).2.2.1)))] [.inl (nI ((r - 1) * 4 + ((P.2.2 m i).2.1))), .inr 12] M
      refine fm_aload_n (pq := 295) hX d_M_perform_294 rfl rfl rfl ?_
      refine fm_iload (pq := 297) hX d_M_perform_295 rfl rfl ?_
      refine fm_callV_i (as := [.inl (nI ((P.2.2 m i).2.1))]) (st := [.inl (nI ((r - 1) * 4 + ((P.2.2 m i).2.1))), .inr 12]) (pq := 300) hX rfl rfl cM_128 rfl im_M_newParts se_M_newParts (k_M_newParts M hr (by omega) (by omega) (v := (P.2.2 m i).2.1) (by omega)) rfl rfl (Nat.le_of_ble_eq_true rfl) (Nat.le_of_ble_eq_true rfl) d_M_perform_297 rfl ?_
      refine fm_goto (tgt := 307) hX d_M_perform_300 rfl ?_
      refine fm_iast (pq := 308) hX rfl rfl rfl (by omega) (by decide) d_M_perform_307 rfl ?_
      refine fm_goto (tgt := 319) hX d_M_perform_308 rfl ?_
      refine fm_vret hX rfl d_M_perform_319 ?_
      refine ⟨rfl, ?_⟩
      first
      | (rw [cm_per_w (by omega), if_pos (by omega)]; done)
      | (rw [cm_per_w (by omega), if_neg (by omega)]; done)
      | (rw [cm_per_l (by omega), if_pos h177]; done)
      | (rw [cm_per_l (by omega), if_neg h177, if_neg (by omega)]; done)
      | (rw [cm_per_16 h32, hn, nI_clamp (by omega)]; done)
      | (rw [cm_per_17 h32, (hcs (P.2.2 m i).2.1 w2).1]; done)
      | (rw [cm_per_14 h32]; done)
      | (rw [cm_per_15 h32, if_pos h252]; done)
      | (rw [cm_per_15 h32, if_neg h252]; done)
      | (rw [cm_per_0 h32, if_pos h291]; done)
      | (rw [cm_per_0 h32, if_neg h291]; done)
      | (rw [cm_per_m (by omega)]; done)
  · refine fm_table (tgt := 311) (off := 279) hX d_M_perform_32 (by decide) (by rcases h32 with e | e | e | e | e | e | e | e <;> rw [e] <;> decide) (by decide) ?_
    refine fm_aload_n (pq := 312) hX d_M_perform_311 rfl rfl rfl ?_
    refine fm_aload_n (pq := 313) hX d_M_perform_312 rfl rfl rfl ?_
    refine fm_iload_n (pq := 314) hX d_M_perform_313 rfl rfl rfl ?_
    refine fm_aald (pq := 315) (q := kC m) hX rfl (by decide) rfl rfl rfl (by omega) (by decide) (r_C (by omega)) d_M_perform_314 rfl ?_
    refine fm_iload_n (pq := 316) hX d_M_perform_315 rfl rfl rfl ?_
    refine fm_callV_v (as := [.inr (kC m), .inl (nI i)]) (st := []) (pq := 319) hX rfl rfl cM_134 rfl im_M_move se_M_move (k_M_move hm hi M hP hw hr (by omega) (by omega) hsh (by omega)) rfl rfl (Nat.le_of_ble_eq_true rfl) (Nat.le_of_ble_eq_true rfl) d_M_perform_316 rfl ?_
    refine fm_vret hX rfl d_M_perform_319 ?_
    refine ⟨rfl, ?_⟩
    first
    | (rw [cm_per_w (by omega), if_pos (by omega)]; done)
    | (rw [cm_per_w (by omega), if_neg (by omega)]; done)
    | (rw [cm_per_l (by omega), if_pos h177]; done)
    | (rw [cm_per_l (by omega), if_neg h177, if_neg (by omega)]; done)
    | (rw [cm_per_16 h32, hn, nI_clamp (by omega)]; done)
    | (rw [cm_per_17 h32, (hcs (P.2.2 m i).2.1 w2).1]; done)
    | (rw [cm_per_14 h32]; done)
    | (rw [cm_per_15 h32, if_pos h252]; done)
    | (rw [cm_per_15 h32, if_neg h252]; done)
    | (rw [cm_per_0 h32, if_pos h291]; done)
    | (rw [cm_per_0 h32, if_neg h291]; done)
    | (rw [cm_per_m (by omega)]; done)
  · refine fm_table (tgt := 120) (off := 88) hX d_M_perform_32 (by decide) (by rcases h32 with e | e <;> rw [e] <;> decide) (by decide) ?_
    clear w6
    refine fm_aload_n (pq := 121) hX d_M_perform_120 rfl rfl rfl ?_
    refine fm_iload (pq := 123) hX d_M_perform_121 rfl rfl ?_
    refine fm_iload (pq := 125) hX d_M_perform_123 rfl rfl ?_
    refine fm_iload (pq := 127) hX d_M_perform_125 rfl rfl ?_
    refine fm_aload_n (pq := 128) hX d_M_perform_127 rfl rfl rfl ?_
    refine fm_iload_n (pq := 129) hX d_M_perform_128 rfl rfl rfl ?_
    refine fm_aald (pq := 130) (q := kC m) hX rfl (by decide) rfl rfl rfl (by omega) (by decide) (r_C (by omega)) d_M_perform_129 rfl ?_
    refine fm_getr (pq := 133) (q := kCa m 3) hX fM_102 (s_C (by omega)) rfl d_M_perform_130 rfl ?_
    refine fm_iload_n (pq := 134) hX d_M_perform_133 rfl rfl rfl ?_
    refine fm_iald (pq := 135) (v := nI ((P.2.2 m i).2.2.2.1)) hX (s_Ca3 (by omega)) rfl rfl (by omega) (by decide) ((hP m (by omega)).2.2 i (by omega)).2.2.2.1 d_M_perform_134 rfl ?_
    refine fm_aload_n (pq := 136) hX d_M_perform_135 rfl rfl rfl ?_
    refine fm_iload (pq := 138) hX d_M_perform_136 rfl rfl ?_
    refine fm_callV_i (as := [.inl (nI ((P.2.2 m i).2.2.1))]) (st := [.inl (nI ((P.2.2 m i).2.2.2.1)), .inl (nI ((P.2.2 m i).2.2.1)), .inl (nI ((P.2.2 m i).2.1)), .inl (nI ((P.2.2 m i).1)), .inr 4]) (pq := 141) hX rfl rfl cM_105 rfl im_M_cellOf se_M_cellOf (k_M_cellOfN M (r := r) hr (by omega) (by omega) (v := (P.2.2 m i).2.2.1) (by omega) (hcs ((P.2.2 m i).2.2.1) (by omega)).1) rfl rfl (Nat.le_of_ble_eq_true rfl) (Nat.le_of_ble_eq_true rfl) d_M_perform_138 rfl ?_
    refine fm_callV_v (as := [.inl (nI ((P.2.2 m i).1)), .inl (nI ((P.2.2 m i).2.1)), .inl (nI ((P.2.2 m i).2.2.1)), .inl (nI ((P.2.2 m i).2.2.2.1)), .inl (nI (cs ((P.2.2 m i).2.2.1)))]) (st := []) (pq := 144) hX rfl rfl cM_109 rfl im_M_workOnField se_M_workOnField (k_M_workOnField M hr (by omega) (by omega) (o := (P.2.2 m i).1) (x := (P.2.2 m i).2.1) (y := (P.2.2 m i).2.2.1) (z := (P.2.2 m i).2.2.2.1) (c := cs ((P.2.2 m i).2.2.1)) (by omega) (by omega) (by omega) (by omega) (by omega)) rfl rfl (Nat.le_of_ble_eq_true rfl) (Nat.le_of_ble_eq_true rfl) d_M_perform_141 rfl ?_
    refine fm_goto (tgt := 319) hX d_M_perform_144 rfl ?_
    refine fm_vret hX rfl d_M_perform_319 ?_
    refine ⟨rfl, ?_⟩
    first
    | (rw [cm_per_w (by omega), if_pos (by omega)]; done)
    | (rw [cm_per_w (by omega), if_neg (by omega)]; done)
    | (rw [cm_per_l (by omega), if_pos h177]; done)
    | (rw [cm_per_l (by omega), if_neg h177, if_neg (by omega)]; done)
    | (rw [cm_per_16 h32, hn, nI_clamp (by omega)]; done)
    | (rw [cm_per_17 h32, (hcs (P.2.2 m i).2.1 w2).1]; done)
    | (rw [cm_per_14 h32]; done)
    | (rw [cm_per_15 h32, if_pos h252]; done)
    | (rw [cm_per_15 h32, if_neg h252]; done)
    | (rw [cm_per_0 h32, if_pos h291]; done)
    | (rw [cm_per_0 h32, if_neg h291]; done)
    | (rw [cm_per_m (by omega)]; done)
  · refine fm_table (tgt := 147) (off := 115) hX d_M_perform_32 (by decide) (by rcases h32 with e | e <;> rw [e] <;> decide) (by decide) ?_
    clear w6
    refine fm_aload_n (pq := 148) hX d_M_perform_147 rfl rfl rfl ?_
    refine fm_iload (pq := 150) hX d_M_perform_148 rfl rfl ?_
    refine fm_iload (pq := 152) hX d_M_perform_150 rfl rfl ?_
    refine fm_iload (pq := 154) hX d_M_perform_152 rfl rfl ?_
    refine fm_aload_n (pq := 155) hX d_M_perform_154 rfl rfl rfl ?_
    refine fm_iload_n (pq := 156) hX d_M_perform_155 rfl rfl rfl ?_
    refine fm_aald (pq := 157) (q := kC m) hX rfl (by decide) rfl rfl rfl (by omega) (by decide) (r_C (by omega)) d_M_perform_156 rfl ?_
    refine fm_getr (pq := 160) (q := kCa m 3) hX fM_102 (s_C (by omega)) rfl d_M_perform_157 rfl ?_
    refine fm_iload_n (pq := 161) hX d_M_perform_160 rfl rfl rfl ?_
    refine fm_iald (pq := 162) (v := nI ((P.2.2 m i).2.2.2.1)) hX (s_Ca3 (by omega)) rfl rfl (by omega) (by decide) ((hP m (by omega)).2.2 i (by omega)).2.2.2.1 d_M_perform_161 rfl ?_
    refine fm_aload_n (pq := 163) hX d_M_perform_162 rfl rfl rfl ?_
    refine fm_iload (pq := 165) hX d_M_perform_163 rfl rfl ?_
    refine fm_callV_i (as := [.inl (nI ((P.2.2 m i).2.1))]) (st := [.inl (nI ((P.2.2 m i).2.2.2.1)), .inl (nI ((P.2.2 m i).2.2.1)), .inl (nI ((P.2.2 m i).2.1)), .inl (nI ((P.2.2 m i).1)), .inr 4]) (pq := 168) hX rfl rfl cM_105 rfl im_M_cellOf se_M_cellOf (k_M_cellOfN M (r := r) hr (by omega) (by omega) (v := (P.2.2 m i).2.1) (by omega) (hcs ((P.2.2 m i).2.1) (by omega)).1) rfl rfl (Nat.le_of_ble_eq_true rfl) (Nat.le_of_ble_eq_true rfl) d_M_perform_165 rfl ?_
    refine fm_callV_v (as := [.inl (nI ((P.2.2 m i).1)), .inl (nI ((P.2.2 m i).2.1)), .inl (nI ((P.2.2 m i).2.2.1)), .inl (nI ((P.2.2 m i).2.2.2.1)), .inl (nI (cs ((P.2.2 m i).2.1)))]) (st := []) (pq := 171) hX rfl rfl cM_109 rfl im_M_workOnField se_M_workOnField (k_M_workOnField M hr (by omega) (by omega) (o := (P.2.2 m i).1) (x := (P.2.2 m i).2.1) (y := (P.2.2 m i).2.2.1) (z := (P.2.2 m i).2.2.2.1) (c := cs ((P.2.2 m i).2.1)) (by omega) (by omega) (by omega) (by omega) (by omega)) rfl rfl (Nat.le_of_ble_eq_true rfl) (Nat.le_of_ble_eq_true rfl) d_M_perform_168 rfl ?_
    refine fm_goto (tgt := 319) hX d_M_perform_171 rfl ?_
    refine fm_vret hX rfl d_M_perform_319 ?_
    refine ⟨rfl, ?_⟩
    first
    | (rw [cm_per_w (by omega), if_pos (by omega)]; done)
    | (rw [cm_per_w (by omega), if_neg (by omega)]; done)
    | (rw [cm_per_l (by omega), if_pos h177]; done)
    | (rw [cm_per_l (by omega), if_neg h177, if_neg (by omega)]; done)
    | (rw [cm_per_16 h32, hn, nI_clamp (by omega)]; done)
    | (rw [cm_per_17 h32, (hcs (P.2.2 m i).2.1 w2).1]; done)
    | (rw [cm_per_14 h32]; done)
    | (rw [cm_per_15 h32, if_pos h252]; done)
    | (rw [cm_per_15 h32, if_neg h252]; done)
    | (rw [cm_per_0 h32, if_pos h291]; done)
    | (rw [cm_per_0 h32, if_neg h291]; done)
    | (rw [cm_per_m (by omega)]; done)
  · refine fm_table (tgt := 174) (off := 142) hX d_M_perform_32 (by decide) (by rcases h32 with e | e <;> rw [e] <;> decide) (by decide) ?_
    refine fm_iload (pq := 176) hX d_M_perform_174 rfl rfl ?_
    refine fm_iconst (pq := 177) (v := nI 2) hX d_M_perform_176 (by decide) rfl ?_
    refine fm_icmp_eq (tgt := 319) (pq := 180) hX d_M_perform_177 rfl rfl (fun h177 => ?_) (fun h177 => ?_)
    · show fm_G SC Y_M_perform X M (fm_vv (cm_per P M r md sh t (P.2.2 m i).2.2.2.2.toNatClampNeg (if (P.2.2 m i).1 = 3 ∨ (P.2.2 m i).1 = 5 then cs (P.2.2 m i).2.2.1 else cs (P.2.2 m i).2.1) (P.2.2 m i) ft)) 319 [some (.inr 4), some (.inr 1), some (.inl (nI m)), some (.inl (nI i)), some (.inl ft), some (.inl (nI ((P.2.2 m i).1))), some (.inl (nI ((P.2.2 m i).2.1))), some (.inl (nI ((P.2.2 m i).2.2.1)))] [] M
      refine fm_vret hX rfl d_M_perform_319 ?_
      refine ⟨rfl, ?_⟩
      first
      | (rw [cm_per_w (by omega), if_pos (by omega)]; done)
      | (rw [cm_per_w (by omega), if_neg (by omega)]; done)
      | (rw [cm_per_l (by omega), if_pos h177]; done)
      | (rw [cm_per_l (by omega), if_neg h177, if_neg (by omega)]; done)
      | (rw [cm_per_16 h32, hn, nI_clamp (by omega)]; done)
      | (rw [cm_per_17 h32, (hcs (P.2.2 m i).2.1 w2).1]; done)
      | (rw [cm_per_14 h32]; done)
      | (rw [cm_per_15 h32, if_pos h252]; done)
      | (rw [cm_per_15 h32, if_neg h252]; done)
      | (rw [cm_per_0 h32, if_pos h291]; done)
      | (rw [cm_per_0 h32, if_neg h291]; done)
      | (rw [cm_per_m (by omega)]; done)
    · show fm_G SC Y_M_perform X M (fm_vv (cm_per P M r md sh t (P.2.2 m i).2.2.2.2.toNatClampNeg (if (P.2.2 m i).1 = 3 ∨ (P.2.2 m i).1 = 5 then cs (P.2.2 m i).2.2.1 else cs (P.2.2 m i).2.1) (P.2.2 m i) ft)) 180 [some (.inr 4), some (.inr 1), some (.inl (nI m)), some (.inl (nI i)), some (.inl ft), some (.inl (nI ((P.2.2 m i).1))), some (.inl (nI ((P.2.2 m i).2.1))), some (.inl (nI ((P.2.2 m i).2.2.1)))] [] M
      refine fm_aload_n (pq := 181) hX d_M_perform_180 rfl rfl rfl ?_
      refine fm_iload (pq := 183) hX d_M_perform_181 rfl rfl ?_
      refine fm_aload_n (pq := 184) hX d_M_perform_183 rfl rfl rfl ?_
      refine fm_iload (pq := 186) hX d_M_perform_184 rfl rfl ?_
      refine fm_callV_i (as := [.inl (nI ((P.2.2 m i).2.1))]) (st := [.inl (nI ((P.2.2 m i).1)), .inr 4]) (pq := 189) hX rfl rfl cM_105 rfl im_M_cellOf se_M_cellOf (k_M_cellOfN M (r := r) hr (by omega) (by omega) (v := (P.2.2 m i).2.1) (by omega) (hcs ((P.2.2 m i).2.1) (by omega)).1) rfl rfl (Nat.le_of_ble_eq_true rfl) (Nat.le_of_ble_eq_true rfl) d_M_perform_186 rfl ?_
      refine fm_callV_v (as := [.inl (nI ((P.2.2 m i).1)), .inl (nI (cs ((P.2.2 m i).2.1)))]) (st := []) (pq := 192) hX rfl rfl cM_113 rfl im_M_changeCount se_M_changeCount (k_M_changeCount M (o := (P.2.2 m i).1) (c := cs ((P.2.2 m i).2.1)) (by omega) (by omega)) rfl rfl (Nat.le_of_ble_eq_true rfl) (Nat.le_of_ble_eq_true rfl) d_M_perform_189 rfl ?_
      refine fm_goto (tgt := 319) hX d_M_perform_192 rfl ?_
      refine fm_vret hX rfl d_M_perform_319 ?_
      refine ⟨rfl, ?_⟩
      first
      | (rw [cm_per_w (by omega), if_pos (by omega)]; done)
      | (rw [cm_per_w (by omega), if_neg (by omega)]; done)
      | (rw [cm_per_l (by omega), if_pos h177]; done)
      | (rw [cm_per_l (by omega), if_neg h177, if_neg (by omega)]; done)
      | (rw [cm_per_16 h32, hn, nI_clamp (by omega)]; done)
      | (rw [cm_per_17 h32, (hcs (P.2.2 m i).2.1 w2).1]; done)
      | (rw [cm_per_14 h32]; done)
      | (rw [cm_per_15 h32, if_pos h252]; done)
      | (rw [cm_per_15 h32, if_neg h252]; done)
      | (rw [cm_per_0 h32, if_pos h291]; done)
      | (rw [cm_per_0 h32, if_neg h291]; done)
      | (rw [cm_per_m (by omega)]; done)
  · refine fm_table (tgt := 218) (off := 186) hX d_M_perform_32 (by decide) (by rw [h32]; decide) (by decide) ?_
    refine fm_aload_n (pq := 219) hX d_M_perform_218 rfl rfl rfl ?_
    refine fm_getr (pq := 222) (q := 10) hX fM_27 rfl rfl d_M_perform_219 rfl ?_
    refine fm_aload_n (pq := 223) hX d_M_perform_222 rfl rfl rfl ?_
    refine fm_geti (pq := 226) (v := nI r) hX fM_39 rfl rfl (by first | exact hr | simp [fm_up, hr]) d_M_perform_223 rfl ?_
    refine fm_iconst (pq := 227) (v := nI 1) hX d_M_perform_226 (by decide) rfl ?_
    refine fm_isub (pq := 228) (v := nI (r - 1)) hX d_M_perform_227 (pk_sub (by omega)) rfl ?_
    refine fm_aload_n (pq := 229) hX d_M_perform_228 rfl rfl rfl ?_
    refine fm_iload_n (pq := 230) hX d_M_perform_229 rfl rfl rfl ?_
    refine fm_aald (pq := 231) (q := kC m) hX rfl (by decide) rfl rfl rfl (by omega) (by decide) (r_C (by omega)) d_M_perform_230 rfl ?_
    refine fm_getr (pq := 234) (q := kCa m 4) hX fM_121 (s_C (by omega)) rfl d_M_perform_231 rfl ?_
    refine fm_iload_n (pq := 235) hX d_M_perform_234 rfl rfl rfl ?_
    refine fm_iald (pq := 236) (v := (P.2.2 m i).2.2.2.2) hX (s_Ca4 (by omega)) rfl rfl (by omega) (by decide) ((hP m (by omega)).2.2 i (by omega)).2.2.2.2 d_M_perform_235 rfl ?_
    refine fm_iast (pq := 237) hX rfl rfl rfl (by omega) (by decide) d_M_perform_236 rfl ?_
    refine fm_goto (tgt := 319) hX d_M_perform_237 rfl ?_
    refine fm_vret hX rfl d_M_perform_319 ?_
    refine ⟨rfl, ?_⟩
    first
    | (rw [cm_per_w (by omega), if_pos (by omega)]; done)
    | (rw [cm_per_w (by omega), if_neg (by omega)]; done)
    | (rw [cm_per_l (by omega), if_pos h177]; done)
    | (rw [cm_per_l (by omega), if_neg h177, if_neg (by omega)]; done)
    | (rw [cm_per_16 h32, hn, nI_clamp (by omega)]; done)
    | (rw [cm_per_17 h32, (hcs (P.2.2 m i).2.1 w2).1]; done)
    | (rw [cm_per_14 h32]; done)
    | (rw [cm_per_15 h32, if_pos h252]; done)
    | (rw [cm_per_15 h32, if_neg h252]; done)
    | (rw [cm_per_0 h32, if_pos h291]; done)
    | (rw [cm_per_0 h32, if_neg h291]; done)
    | (rw [cm_per_m (by omega)]; done)
  · refine fm_table (tgt := 240) (off := 208) hX d_M_perform_32 (by decide) (by rw [h32]; decide) (by decide) ?_
    refine fm_aload_n (pq := 241) hX d_M_perform_240 rfl rfl rfl ?_
    refine fm_getr (pq := 244) (q := 13) hX fM_36 rfl rfl d_M_perform_241 rfl ?_
    refine fm_aload_n (pq := 245) hX d_M_perform_244 rfl rfl rfl ?_
    refine fm_callV_i (as := []) (st := [.inr 13]) (pq := 248) hX rfl rfl cM_124 rfl im_M_base se_M_base (k_M_base M (r := r) hr (by omega) (by omega)) rfl rfl (Nat.le_of_ble_eq_true rfl) (Nat.le_of_ble_eq_true rfl) d_M_perform_245 rfl ?_
    refine fm_iload (pq := 250) hX d_M_perform_248 rfl rfl ?_
    refine fm_iadd (pq := 251) (v := nI ((r - 1) * 4 + ((P.2.2 m i).2.1))) hX d_M_perform_250 (nI_add _ _) rfl ?_
    refine fm_iald (pq := 252) (v := M 13 ((r - 1) * 4 + ((P.2.2 m i).2.1))) hX rfl rfl rfl (by omega) (by decide) rfl d_M_perform_251 rfl ?_
    refine fm_if_ne (tgt := 319) (pq := 255) hX d_M_perform_252 rfl rfl (fun h252 => ?_) (fun h252 => ?_)
    · show fm_G SC Y_M_perform X M (fm_vv (cm_per P M r md sh t (P.2.2 m i).2.2.2.2.toNatClampNeg (if (P.2.2 m i).1 = 3 ∨ (P.2.2 m i).1 = 5 then cs (P.2.2 m i).2.2.1 else cs (P.2.2 m i).2.1) (P.2.2 m i) ft)) 319 [some (.inr 4), some (.inr 1), some (.inl (nI m)), some (.inl (nI i)), some (.inl ft), some (.inl (nI ((P.2.2 m i).1))), some (.inl (nI ((P.2.2 m i).2.1))), some (.inl (nI ((P.2.2 m i).2.2.1)))] [] M
      refine fm_vret hX rfl d_M_perform_319 ?_
      refine ⟨rfl, ?_⟩
      first
      | (rw [cm_per_w (by omega), if_pos (by omega)]; done)
      | (rw [cm_per_w (by omega), if_neg (by omega)]; done)
      | (rw [cm_per_l (by omega), if_pos h177]; done)
      | (rw [cm_per_l (by omega), if_neg h177, if_neg (by omega)]; done)
      | (rw [cm_per_16 h32, hn, nI_clamp (by omega)]; done)
      | (rw [cm_per_17 h32, (hcs (P.2.2 m i).2.1 w2).1]; done)
      | (rw [cm_per_14 h32]; done)
      | (rw [cm_per_15 h32, if_pos h252]; done)
      | (rw [cm_per_15 h32, if_neg h252]; done)
      | (rw [cm_per_0 h32, if_pos h291]; done)
      | (rw [cm_per_0 h32, if_neg h291]; done)
      | (rw [cm_per_m (by omega)]; done)
    · show fm_G SC Y_M_perform X M (fm_vv (cm_per P M r md sh t (P.2.2 m i).2.2.2.2.toNatClampNeg (if (P.2.2 m i).1 = 3 ∨ (P.2.2 m i).1 = 5 then cs (P.2.2 m i).2.2.1 else cs (P.2.2 m i).2.1) (P.2.2 m i) ft)) 255 [some (.inr 4), some (.inr 1), some (.inl (nI m)), some (.inl (nI i)), some (.inl ft), some (.inl (nI ((P.2.2 m i).1))), some (.inl (nI ((P.2.2 m i).2.1))), some (.inl (nI ((P.2.2 m i).2.2.1)))] [] M
      refine fm_aload_n (pq := 256) hX d_M_perform_255 rfl rfl rfl ?_
      refine fm_getr (pq := 259) (q := 10) hX fM_27 rfl rfl d_M_perform_256 rfl ?_
      refine fm_aload_n (pq := 260) hX d_M_perform_259 rfl rfl rfl ?_
      refine fm_geti (pq := 263) (v := nI r) hX fM_39 rfl rfl (by first | exact hr | simp [fm_up, hr]) d_M_perform_260 rfl ?_
      refine fm_iconst (pq := 264) (v := nI 1) hX d_M_perform_263 (by decide) rfl ?_
      refine fm_isub (pq := 265) (v := nI (r - 1)) hX d_M_perform_264 (pk_sub (by omega)) rfl ?_
      refine fm_aload_n (pq := 266) hX d_M_perform_265 rfl rfl rfl ?_
      refine fm_iload_n (pq := 267) hX d_M_perform_266 rfl rfl rfl ?_
      refine fm_aald (pq := 268) (q := kC m) hX rfl (by decide) rfl rfl rfl (by omega) (by decide) (r_C (by omega)) d_M_perform_267 rfl ?_
      refine fm_getr (pq := 271) (q := kCa m 4) hX fM_121 (s_C (by omega)) rfl d_M_perform_268 rfl ?_
      refine fm_iload_n (pq := 272) hX d_M_perform_271 rfl rfl rfl ?_
      refine fm_iald (pq := 273) (v := (P.2.2 m i).2.2.2.2) hX (s_Ca4 (by omega)) rfl rfl (by omega) (by decide) ((hP m (by omega)).2.2 i (by omega)).2.2.2.2 d_M_perform_272 rfl ?_
      refine fm_iast (pq := 274) hX rfl rfl rfl (by omega) (by decide) d_M_perform_273 rfl ?_
      refine fm_goto (tgt := 319) hX d_M_perform_274 rfl ?_
      refine fm_vret hX rfl d_M_perform_319 ?_
      refine ⟨rfl, ?_⟩
      first
      | (rw [cm_per_w (by omega), if_pos (by omega)]; done)
      | (rw [cm_per_w (by omega), if_neg (by omega)]; done)
      | (rw [cm_per_l (by omega), if_pos h177]; done)
      | (rw [cm_per_l (by omega), if_neg h177, if_neg (by omega)]; done)
      | (rw [cm_per_16 h32, hn, nI_clamp (by omega)]; done)
      | (rw [cm_per_17 h32, (hcs (P.2.2 m i).2.1 w2).1]; done)
      | (rw [cm_per_14 h32]; done)
      | (rw [cm_per_15 h32, if_pos h252]; done)
      | (rw [cm_per_15 h32, if_neg h252]; done)
      | (rw [cm_per_0 h32, if_pos h291]; done)
      | (rw [cm_per_0 h32, if_neg h291]; done)
      | (rw [cm_per_m (by omega)]; done)
  · refine fm_table (tgt := 195) (off := 163) hX d_M_perform_32 (by decide) (by rw [h32]; decide) (by decide) ?_
    obtain ⟨k, hk, hn⟩ := w6 h32
    refine fm_aload_n (pq := 196) hX d_M_perform_195 rfl rfl rfl ?_
    refine fm_aload_n (pq := 197) hX d_M_perform_196 rfl rfl rfl ?_
    refine fm_iload_n (pq := 198) hX d_M_perform_197 rfl rfl rfl ?_
    refine fm_iload_n (pq := 199) hX d_M_perform_198 rfl rfl rfl ?_
    refine fm_callV_v (as := [.inr 1, .inl (nI m), .inl (nI i)]) (st := []) (pq := 202) hX rfl rfl cM_117 rfl im_M_call se_M_call (k_M_call hm hi M hP hw hr (by omega) (by omega) hk hn) rfl rfl (Nat.le_of_ble_eq_true rfl) (Nat.le_of_ble_eq_true rfl) d_M_perform_199 rfl ?_
    refine fm_goto (tgt := 319) hX d_M_perform_202 rfl ?_
    refine fm_vret hX rfl d_M_perform_319 ?_
    refine ⟨rfl, ?_⟩
    first
    | (rw [cm_per_w (by omega), if_pos (by omega)]; done)
    | (rw [cm_per_w (by omega), if_neg (by omega)]; done)
    | (rw [cm_per_l (by omega), if_pos h177]; done)
    | (rw [cm_per_l (by omega), if_neg h177, if_neg (by omega)]; done)
    | (rw [cm_per_16 h32, hn, nI_clamp (by omega)]; done)
    | (rw [cm_per_17 h32, (hcs (P.2.2 m i).2.1 w2).1]; done)
    | (rw [cm_per_14 h32]; done)
    | (rw [cm_per_15 h32, if_pos h252]; done)
    | (rw [cm_per_15 h32, if_neg h252]; done)
    | (rw [cm_per_0 h32, if_pos h291]; done)
    | (rw [cm_per_0 h32, if_neg h291]; done)
    | (rw [cm_per_m (by omega)]; done)
  · refine fm_table (tgt := 205) (off := 173) hX d_M_perform_32 (by decide) (by rw [h32]; decide) (by decide) ?_
    refine fm_aload_n (pq := 206) hX d_M_perform_205 rfl rfl rfl ?_
    refine fm_aload_n (pq := 207) hX d_M_perform_206 rfl rfl rfl ?_
    refine fm_iload (pq := 209) hX d_M_perform_207 rfl rfl ?_
    refine fm_callV_i (as := [.inl (nI ((P.2.2 m i).2.1))]) (st := [.inr 4]) (pq := 212) hX rfl rfl cM_105 rfl im_M_cellOf se_M_cellOf (k_M_cellOfN M (r := r) hr (by omega) (by omega) (v := (P.2.2 m i).2.1) (by omega) (hcs ((P.2.2 m i).2.1) (by omega)).1) rfl rfl (Nat.le_of_ble_eq_true rfl) (Nat.le_of_ble_eq_true rfl) d_M_perform_209 rfl ?_
    refine fm_callV_v (as := [.inl (nI (cs ((P.2.2 m i).2.1)))]) (st := []) (pq := 215) hX rfl rfl cM_70 rfl im_M_leave se_M_leave (k_M_leave M hr (by omega) (by omega) (t := t) ht ht0 (nI (cs ((P.2.2 m i).2.1)))) rfl rfl (Nat.le_of_ble_eq_true rfl) (Nat.le_of_ble_eq_true rfl) d_M_perform_212 rfl ?_
    refine fm_goto (tgt := 319) hX d_M_perform_215 rfl ?_
    refine fm_vret hX rfl d_M_perform_319 ?_
    refine ⟨rfl, ?_⟩
    first
    | (rw [cm_per_w (by omega), if_pos (by omega)]; done)
    | (rw [cm_per_w (by omega), if_neg (by omega)]; done)
    | (rw [cm_per_l (by omega), if_pos h177]; done)
    | (rw [cm_per_l (by omega), if_neg h177, if_neg (by omega)]; done)
    | (rw [cm_per_16 h32, hn, nI_clamp (by omega)]; done)
    | (rw [cm_per_17 h32, (hcs (P.2.2 m i).2.1 w2).1]; done)
    | (rw [cm_per_14 h32]; done)
    | (rw [cm_per_15 h32, if_pos h252]; done)
    | (rw [cm_per_15 h32, if_neg h252]; done)
    | (rw [cm_per_0 h32, if_pos h291]; done)
    | (rw [cm_per_0 h32, if_neg h291]; done)
    | (rw [cm_per_m (by omega)]; done)
/-- the machine as it begins -/
def cm_begin (M : fm_M) : fm_M := cm_enter (fm_up (fm_up (fm_up (fm_up (fm_up (fm_up (fm_fill M 8 4 (nI 0)) 4 11 (nI 0)) 4 12 (nI 0)) 4 13 (nI 0)) 4 14 (nI 0)) 4 15 (nI 0)) 4 9 (nI 0)) 0 0 0 (nI 0) (nI 0)
abbrev Y_M_begin : fm_Y := ("EscapeMill$Machine", b_M_begin, 1, none, 3)
set_option maxRecDepth 100000 in
set_option maxHeartbeats 4000000 in
theorem k_M_begin (M : fm_M) : fm_ct SC y_M_begin b_M_begin 1 none 3 [.inr 4] M (fm_vv (cm_begin M)) := by
  refine fm_of (ls := [some (.inr 4)]) (by decide) wsA_good (Nat.le_of_ble_eq_true rfl) rfl (fun X hX => ?_)
  show fm_G SC Y_M_begin X M (fm_vv (cm_begin M)) 0 [some (.inr 4)] [] M
  refine fm_aload_n (pq := 1) hX d_M_begin_0 rfl rfl rfl ?_
  refine fm_getr (pq := 4) (q := 8) hX fM_21 rfl rfl d_M_begin_1 rfl ?_
  refine fm_iconst (pq := 5) (v := nI 0) hX d_M_begin_4 (by decide) rfl ?_
  refine fm_callS_v (as := [.inr 8, .inl (nI 0)]) (st := []) (pq := 8) hX cM_83 st_A_fill (k_A_fill (n := 4) rfl (by decide) M (nI 0)) rfl rfl (Nat.le_of_ble_eq_true rfl) (Nat.le_of_ble_eq_true rfl) d_M_begin_5 rfl ?_
  refine fm_aload_n (pq := 9) hX d_M_begin_8 rfl rfl rfl ?_
  refine fm_iconst (pq := 10) (v := nI 0) hX d_M_begin_9 (by decide) rfl ?_
  refine fm_puti (pq := 13) hX fM_46 pM_11 rfl rfl rfl rfl d_M_begin_10 rfl ?_
  refine fm_aload_n (pq := 14) hX d_M_begin_13 rfl rfl rfl ?_
  refine fm_iconst (pq := 15) (v := nI 0) hX d_M_begin_14 (by decide) rfl ?_
  refine fm_puti (pq := 18) hX fM_49 pM_12 rfl rfl rfl rfl d_M_begin_15 rfl ?_
  refine fm_aload_n (pq := 19) hX d_M_begin_18 rfl rfl rfl ?_
  refine fm_iconst (pq := 20) (v := nI 0) hX d_M_begin_19 (by decide) rfl ?_
  refine fm_puti (pq := 23) hX fM_52 pM_13 rfl rfl rfl rfl d_M_begin_20 rfl ?_
  refine fm_aload_n (pq := 24) hX d_M_begin_23 rfl rfl rfl ?_
  refine fm_iconst (pq := 25) (v := nI 0) hX d_M_begin_24 (by decide) rfl ?_
  refine fm_puti (pq := 28) hX fM_55 pM_14 rfl rfl rfl rfl d_M_begin_25 rfl ?_
  refine fm_aload_n (pq := 29) hX d_M_begin_28 rfl rfl rfl ?_
  refine fm_iconst (pq := 30) (v := nI 0) hX d_M_begin_29 (by decide) rfl ?_
  refine fm_puti (pq := 33) hX fM_58 pM_15 rfl rfl rfl rfl d_M_begin_30 rfl ?_
  refine fm_aload_n (pq := 34) hX d_M_begin_33 rfl rfl rfl ?_
  refine fm_iconst (pq := 35) (v := nI 0) hX d_M_begin_34 (by decide) rfl ?_
  refine fm_puti (pq := 38) hX fM_39 pM_9 rfl rfl rfl rfl d_M_begin_35 rfl ?_
  refine fm_aload_n (pq := 39) hX d_M_begin_38 rfl rfl rfl ?_
  refine fm_iconst (pq := 40) (v := nI 0) hX d_M_begin_39 (by decide) rfl ?_
  refine fm_iconst (pq := 41) (v := nI 0) hX d_M_begin_40 (by decide) rfl ?_
  refine fm_iconst (pq := 42) (v := nI 0) hX d_M_begin_41 (by decide) rfl ?_
  refine fm_iconst (pq := 43) (v := nI 0) hX d_M_begin_42 (by decide) rfl ?_
  refine fm_callV_v (as := [.inl (nI 0), .inl (nI 0), .inl (nI 0), .inl (nI 0)]) (st := []) (pq := 46) hX rfl rfl cM_89 rfl im_M_enter se_M_enter (k_M_enter (fm_up (fm_up (fm_up (fm_up (fm_up (fm_up (fm_fill M 8 4 (nI 0)) 4 11 (nI 0)) 4 12 (nI 0)) 4 13 (nI 0)) 4 14 (nI 0)) 4 15 (nI 0)) 4 9 (nI 0)) fm_up_s (by omega) (m := 0) (t := 0) (by omega) (by omega) (nI 0) (nI 0)) rfl rfl (Nat.le_of_ble_eq_true rfl) (Nat.le_of_ble_eq_true rfl) d_M_begin_43 rfl ?_
  refine fm_vret hX rfl d_M_begin_46 ?_
  exact ⟨rfl, rfl⟩
