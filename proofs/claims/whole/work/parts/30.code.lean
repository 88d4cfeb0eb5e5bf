/-! Code (written by program) -/
abbrev Y_C_has : fm_Y := ("EscapeMill$Code", b_C_has, 2, (some .boolean), 1)
set_option maxRecDepth 100000 in
set_option maxHeartbeats 4000000 in
theorem k_C_has {P : pr_T} {m : Nat} (hm : m < 5) (M : fm_M) (hP : cP M P) (hw : pr_wf P) (v : Int32) : fm_ct SC y_C_has b_C_has 2 (some .boolean) 1 [.inr (kC m), .inl v] M (fm_rv (bI (decide (0 ≤ v ∧ v < nI (P.1 m)))) M) := by
  refine fm_of (ls := [some (.inr (kC m)), some (.inl v)]) (by decide) wsA_good (Nat.le_of_ble_eq_true rfl) rfl (fun X hX => ?_)
  obtain ⟨wl, wi, wI⟩ := hw m hm
  show fm_G SC Y_C_has X M (fm_rv (bI (decide (0 ≤ v ∧ v < nI (P.1 m)))) M) 0 [some (.inr (kC m)), some (.inl v)] [] M
  refine fm_iload_n hX d_C_has_0 rfl rfl rfl ?_
  refine fm_if_lt (tgt := 16) (pq := 4) hX d_C_has_1 rfl rfl (fun h1 => ?_) (fun h1 => ?_)
  · show fm_G SC Y_C_has X M (fm_rv (bI (decide (0 ≤ v ∧ v < nI (P.1 m)))) M) 16 [some (.inr (kC m)), some (.inl v)] [] M
    refine fm_iconst (v := nI 0) hX d_C_has_16 (by decide) rfl ?_
    refine fm_zret hX rfl (by decide) d_C_has_17 ?_
    first | exact fm_rvi (fm_b1 ⟨Int32.not_lt.mp h1, Int32.not_le.mp h9⟩) | exact fm_rvi (fm_b0 (fun z => Int32.not_le.mpr z.2 h9)) | exact fm_rvi (fm_b0 (fun z => Int32.not_lt.mpr z.1 h1))
  · show fm_G SC Y_C_has X M (fm_rv (bI (decide (0 ≤ v ∧ v < nI (P.1 m)))) M) 4 [some (.inr (kC m)), some (.inl v)] [] M
    refine fm_iload_n hX d_C_has_4 rfl rfl rfl ?_
    refine fm_aload_n hX d_C_has_5 rfl rfl rfl ?_
    refine fm_geti (v := nI (P.1 m)) hX fC_27 (s_C (by omega)) rfl (hP m (by omega)).1 d_C_has_6 rfl ?_
    refine fm_icmp_ge (tgt := 16) (pq := 12) hX d_C_has_9 rfl rfl (fun h9 => ?_) (fun h9 => ?_)
    · show fm_G SC Y_C_has X M (fm_rv (bI (decide (0 ≤ v ∧ v < nI (P.1 m)))) M) 16 [some (.inr (kC m)), some (.inl v)] [] M
      refine fm_iconst (v := nI 0) hX d_C_has_16 (by decide) rfl ?_
      refine fm_zret hX rfl (by decide) d_C_has_17 ?_
      first | exact fm_rvi (fm_b1 ⟨Int32.not_lt.mp h1, Int32.not_le.mp h9⟩) | exact fm_rvi (fm_b0 (fun z => Int32.not_le.mpr z.2 h9)) | exact fm_rvi (fm_b0 (fun z => Int32.not_lt.mpr z.1 h1))
    · show fm_G SC Y_C_has X M (fm_rv (bI (decide (0 ≤ v ∧ v < nI (P.1 m)))) M) 12 [some (.inr (kC m)), some (.inl v)] [] M
      refine fm_iconst (v := nI 1) hX d_C_has_12 (by decide) rfl ?_
      refine fm_goto (tgt := 17) hX d_C_has_13 rfl ?_
      refine fm_zret hX rfl (by decide) d_C_has_17 ?_
      first | exact fm_rvi (fm_b1 ⟨Int32.not_lt.mp h1, Int32.not_le.mp h9⟩) | exact fm_rvi (fm_b0 (fun z => Int32.not_le.mpr z.2 h9)) | exact fm_rvi (fm_b0 (fun z => Int32.not_lt.mpr z.1 h1))
abbrev Y_C_jumps : fm_Y := ("EscapeMill$Code", b_C_jumps, 2, (some .boolean), 1)
set_option maxRecDepth 100000 in
set_option maxHeartbeats 4000000 in
theorem k_C_jumps {P : pr_T} {m : Nat} (hm : m < 5) (M : fm_M) (hP : cP M P) (hw : pr_wf P) {i : Nat} (hi : i < P.1 m) : fm_ct SC y_C_jumps b_C_jumps 2 (some .boolean) 1 [.inr (kC m), .inl (nI i)] M (fm_rv (bI (decide ((P.2.2 m i).1 = 14 ∨ (P.2.2 m i).1 = 15))) M) := by
  refine fm_of (ls := [some (.inr (kC m)), some (.inl (nI i))]) (by decide) wsA_good (Nat.le_of_ble_eq_true rfl) rfl (fun X hX => ?_)
  obtain ⟨wl, wi, wI⟩ := hw m hm
  obtain ⟨w1, w2, w3, w4, w5, w6⟩ := wI i hi
  show fm_G SC Y_C_jumps X M (fm_rv (bI (decide ((P.2.2 m i).1 = 14 ∨ (P.2.2 m i).1 = 15))) M) 0 [some (.inr (kC m)), some (.inl (nI i))] [] M
  refine fm_aload_n hX d_C_jumps_0 rfl rfl rfl ?_
  refine fm_getr (q := kCa m 0) hX fC_9 (s_C (by omega)) rfl d_C_jumps_1 rfl ?_
  refine fm_iload_n hX d_C_jumps_4 rfl rfl rfl ?_
  refine fm_iald (v := nI ((P.2.2 m i).1)) hX (s_Ca0 (by omega)) rfl rfl (by omega) (by decide) ((hP m (by omega)).2.2 i (by omega)).1 d_C_jumps_5 rfl ?_
  refine fm_bipush (v := nI 14) hX d_C_jumps_6 (by decide) rfl ?_
  refine fm_n_eq (tgt := 22) (pq := 11) hX d_C_jumps_8 rfl rfl (by omega) (by omega) (fun h8 => ?_) (fun h8 => ?_)
  · show fm_G SC Y_C_jumps X M (fm_rv (bI (decide ((P.2.2 m i).1 = 14 ∨ (P.2.2 m i).1 = 15))) M) 22 [some (.inr (kC m)), some (.inl (nI i))] [] M
    refine fm_iconst (v := nI 1) hX d_C_jumps_22 (by decide) rfl ?_
    refine fm_goto (tgt := 27) hX d_C_jumps_23 rfl ?_
    refine fm_zret hX rfl (by decide) d_C_jumps_27 ?_
    first | exact fm_rvi (fm_b1 (by omega)) | exact fm_rvi (fm_b0 (by omega))
  · show fm_G SC Y_C_jumps X M (fm_rv (bI (decide ((P.2.2 m i).1 = 14 ∨ (P.2.2 m i).1 = 15))) M) 11 [some (.inr (kC m)), some (.inl (nI i))] [] M
    refine fm_aload_n hX d_C_jumps_11 rfl rfl rfl ?_
    refine fm_getr (q := kCa m 0) hX fC_9 (s_C (by omega)) rfl d_C_jumps_12 rfl ?_
    refine fm_iload_n hX d_C_jumps_15 rfl rfl rfl ?_
    refine fm_iald (v := nI ((P.2.2 m i).1)) hX (s_Ca0 (by omega)) rfl rfl (by omega) (by decide) ((hP m (by omega)).2.2 i (by omega)).1 d_C_jumps_16 rfl ?_
    refine fm_bipush (v := nI 15) hX d_C_jumps_17 (by decide) rfl ?_
    refine fm_n_ne (tgt := 26) (pq := 22) hX d_C_jumps_19 rfl rfl (by omega) (by omega) (fun h19 => ?_) (fun h19 => ?_)
    · show fm_G SC Y_C_jumps X M (fm_rv (bI (decide ((P.2.2 m i).1 = 14 ∨ (P.2.2 m i).1 = 15))) M) 26 [some (.inr (kC m)), some (.inl (nI i))] [] M
      refine fm_iconst (v := nI 0) hX d_C_jumps_26 (by decide) rfl ?_
      refine fm_zret hX rfl (by decide) d_C_jumps_27 ?_
      first | exact fm_rvi (fm_b1 (by omega)) | exact fm_rvi (fm_b0 (by omega))
    · show fm_G SC Y_C_jumps X M (fm_rv (bI (decide ((P.2.2 m i).1 = 14 ∨ (P.2.2 m i).1 = 15))) M) 22 [some (.inr (kC m)), some (.inl (nI i))] [] M
      refine fm_iconst (v := nI 1) hX d_C_jumps_22 (by decide) rfl ?_
      refine fm_goto (tgt := 27) hX d_C_jumps_23 rfl ?_
      refine fm_zret hX rfl (by decide) d_C_jumps_27 ?_
      first | exact fm_rvi (fm_b1 (by omega)) | exact fm_rvi (fm_b0 (by omega))
abbrev Y_C_bit : fm_Y := ("EscapeMill$Code", b_C_bit, 2, (some .int), 2)
set_option maxRecDepth 100000 in
set_option maxHeartbeats 4000000 in
theorem k_C_bit {P : pr_T} {m : Nat} (hm : m < 5) (M : fm_M) (hP : cP M P) (hw : pr_wf P) (v : Int32) : fm_ct SC y_C_bit b_C_bit 2 (some .int) 2 [.inr (kC m), .inl v] M (fm_rv (dm_bit (P.1 m) v) M) := by
  refine fm_of (ls := [some (.inr (kC m)), some (.inl v)]) (by decide) wsA_good (Nat.le_of_ble_eq_true rfl) rfl (fun X hX => ?_)
  obtain ⟨wl, wi, wI⟩ := hw m hm
  show fm_G SC Y_C_bit X M (fm_rv (dm_bit (P.1 m) v) M) 0 [some (.inr (kC m)), some (.inl v)] [] M
  refine fm_aload_n hX d_C_bit_0 rfl rfl rfl ?_
  refine fm_iload_n hX d_C_bit_1 rfl rfl rfl ?_
  refine fm_callV_i (as := [.inl v]) (st := []) (pq := 5) hX (s_C (by omega)) rfl cC_45 rfl im_C_has se_C_has (k_C_has (by omega) M hP hw v) rfl rfl (Nat.le_of_ble_eq_true rfl) (Nat.le_of_ble_eq_true rfl) d_C_bit_2 rfl ?_
  refine fm_p1_eq (tgt := 14) (pq := 8) hX d_C_bit_5 rfl rfl (fun h5 => ?_) (fun h5 => ?_)
  · show fm_G SC Y_C_bit X M (fm_rv (dm_bit (P.1 m) v) M) 14 [some (.inr (kC m)), some (.inl v)] [] M
    refine fm_iconst (v := nI 0) hX d_C_bit_14 (by decide) rfl ?_
    refine fm_iret hX rfl d_C_bit_15 ?_
    first | exact fm_rvi (if_pos h5).symm | exact fm_rvi (if_neg h5).symm
  · show fm_G SC Y_C_bit X M (fm_rv (dm_bit (P.1 m) v) M) 8 [some (.inr (kC m)), some (.inl v)] [] M
    refine fm_iconst (v := nI 1) hX d_C_bit_8 (by decide) rfl ?_
    refine fm_iload_n hX d_C_bit_9 rfl rfl rfl ?_
    refine fm_ishl (v := (nI 1) <<< (v &&& 31)) hX d_C_bit_10 rfl rfl ?_
    refine fm_goto (tgt := 15) hX d_C_bit_11 rfl ?_
    refine fm_iret hX rfl d_C_bit_15 ?_
    first | exact fm_rvi (if_pos h5).symm | exact fm_rvi (if_neg h5).symm
abbrev Y_C_defines : fm_Y := ("EscapeMill$Code", b_C_defines, 3, (some .boolean), 1)
set_option maxRecDepth 100000 in
set_option maxHeartbeats 4000000 in
theorem k_C_defines {P : pr_T} {m : Nat} (hm : m < 5) (M : fm_M) (hP : cP M P) (hw : pr_wf P) {i : Nat} (hi : i < P.1 m) {r : Nat} (hr : r < 4) : fm_ct SC y_C_defines b_C_defines 3 (some .boolean) 1 [.inr (kC m), .inl (nI i), .inl (nI r)] M (fm_rv (bI (decide (fa_df (P.2.2 m i) r))) M) := by
  refine fm_of (ls := [some (.inr (kC m)), some (.inl (nI i)), some (.inl (nI r))]) (by decide) wsA_good (Nat.le_of_ble_eq_true rfl) rfl (fun X hX => ?_)
  obtain ⟨wl, wi, wI⟩ := hw m hm
  obtain ⟨w1, w2, w3, w4, w5, w6⟩ := wI i hi
  show fm_G SC Y_C_defines X M (fm_rv (bI (decide (fa_df (P.2.2 m i) r))) M) 0 [some (.inr (kC m)), some (.inl (nI i)), some (.inl (nI r))] [] M
  refine fm_aload_n hX d_C_defines_0 rfl rfl rfl ?_
  refine fm_getr (q := kCa m 0) hX fC_9 (s_C (by omega)) rfl d_C_defines_1 rfl ?_
  refine fm_iload_n hX d_C_defines_4 rfl rfl rfl ?_
  refine fm_iald (v := nI ((P.2.2 m i).1)) hX (s_Ca0 (by omega)) rfl rfl (by omega) (by decide) ((hP m (by omega)).2.2 i (by omega)).1 d_C_defines_5 rfl ?_
  rcases (by omega : ((P.2.2 m i).1 = 0 ∨ (P.2.2 m i).1 = 1 ∨ (P.2.2 m i).1 = 2 ∨ (P.2.2 m i).1 = 3 ∨ (P.2.2 m i).1 = 13 ∨ (P.2.2 m i).1 = 16) ∨ ((P.2.2 m i).1 = 4 ∨ (P.2.2 m i).1 = 5 ∨ (P.2.2 m i).1 = 6 ∨ (P.2.2 m i).1 = 7 ∨ (P.2.2 m i).1 = 8 ∨ (P.2.2 m i).1 = 9 ∨ (P.2.2 m i).1 = 10 ∨ (P.2.2 m i).1 = 11 ∨ (P.2.2 m i).1 = 12 ∨ (P.2.2 m i).1 = 14 ∨ (P.2.2 m i).1 = 15 ∨ (P.2.2 m i).1 = 17 ∨ (P.2.2 m i).1 = 18)) with h6 | h6
  · refine fm_table (tgt := 88) (off := 82) hX d_C_defines_6 (by decide) (by rcases h6 with e | e | e | e | e | e <;> rw [e] <;> decide) (by decide) ?_
    refine fm_aload_n hX d_C_defines_88 rfl rfl rfl ?_
    refine fm_getr (q := kCa m 1) hX fC_15 (s_C (by omega)) rfl d_C_defines_89 rfl ?_
    refine fm_iload_n hX d_C_defines_92 rfl rfl rfl ?_
    refine fm_iald (v := nI ((P.2.2 m i).2.1)) hX (s_Ca1 (by omega)) rfl rfl (by omega) (by decide) ((hP m (by omega)).2.2 i (by omega)).2.1 d_C_defines_93 rfl ?_
    refine fm_iload_n hX d_C_defines_94 rfl rfl rfl ?_
    refine fm_n_ne (tgt := 102) (pq := 98) hX d_C_defines_95 rfl rfl (by omega) (by omega) (fun h95 => ?_) (fun h95 => ?_)
    · show fm_G SC Y_C_defines X M (fm_rv (bI (decide (fa_df (P.2.2 m i) r))) M) 102 [some (.inr (kC m)), some (.inl (nI i)), some (.inl (nI r))] [] M
      refine fm_iconst (v := nI 0) hX d_C_defines_102 (by decide) rfl ?_
      refine fm_zret hX rfl (by decide) d_C_defines_103 ?_
      first | exact fm_rvi (fm_b1 ⟨by omega, by omega⟩) | exact fm_rvi (fm_b0 (fun z => by omega))
    · show fm_G SC Y_C_defines X M (fm_rv (bI (decide (fa_df (P.2.2 m i) r))) M) 98 [some (.inr (kC m)), some (.inl (nI i)), some (.inl (nI r))] [] M
      refine fm_iconst (v := nI 1) hX d_C_defines_98 (by decide) rfl ?_
      refine fm_goto (tgt := 103) hX d_C_defines_99 rfl ?_
      refine fm_zret hX rfl (by decide) d_C_defines_103 ?_
      first | exact fm_rvi (fm_b1 ⟨by omega, by omega⟩) | exact fm_rvi (fm_b0 (fun z => by omega))
  · refine fm_table (tgt := 104) (off := 98) hX d_C_defines_6 (by decide) (by rcases h6 with e | e | e | e | e | e | e | e | e | e | e | e | e <;> rw [e] <;> decide) (by decide) ?_
    refine fm_iconst (v := nI 0) hX d_C_defines_104 (by decide) rfl ?_
    refine fm_zret hX rfl (by decide) d_C_defines_105 ?_
    first | exact fm_rvi (fm_b1 ⟨by omega, by omega⟩) | exact fm_rvi (fm_b0 (fun z => by omega))
abbrev Y_C_worksOn : fm_Y := ("EscapeMill$Code", b_C_worksOn, 3, (some .boolean), 1)
set_option maxRecDepth 100000 in
set_option maxHeartbeats 4000000 in
theorem k_C_worksOn {P : pr_T} {m : Nat} (hm : m < 5) (M : fm_M) (hP : cP M P) (hw : pr_wf P) {i : Nat} (hi : i < P.1 m) {r : Nat} (hr : r < 4) : fm_ct SC y_C_worksOn b_C_worksOn 3 (some .boolean) 1 [.inr (kC m), .inl (nI i), .inl (nI r)] M (fm_rv (bI (decide (fa_wk (P.2.2 m i) r))) M) := by
  refine fm_of (ls := [some (.inr (kC m)), some (.inl (nI i)), some (.inl (nI r))]) (by decide) wsA_good (Nat.le_of_ble_eq_true rfl) rfl (fun X hX => ?_)
  obtain ⟨wl, wi, wI⟩ := hw m hm
  obtain ⟨w1, w2, w3, w4, w5, w6⟩ := wI i hi
  show fm_G SC Y_C_worksOn X M (fm_rv (bI (decide (fa_wk (P.2.2 m i) r))) M) 0 [some (.inr (kC m)), some (.inl (nI i)), some (.inl (nI r))] [] M
  refine fm_aload_n hX d_C_worksOn_0 rfl rfl rfl ?_
  refine fm_getr (q := kCa m 0) hX fC_9 (s_C (by omega)) rfl d_C_worksOn_1 rfl ?_
  refine fm_iload_n hX d_C_worksOn_4 rfl rfl rfl ?_
  refine fm_iald (v := nI ((P.2.2 m i).1)) hX (s_Ca0 (by omega)) rfl rfl (by omega) (by decide) ((hP m (by omega)).2.2 i (by omega)).1 d_C_worksOn_5 rfl ?_
  rcases (by omega : ((P.2.2 m i).1 = 0 ∨ (P.2.2 m i).1 = 1 ∨ (P.2.2 m i).1 = 2 ∨ (P.2.2 m i).1 = 7 ∨ (P.2.2 m i).1 = 8 ∨ (P.2.2 m i).1 = 12 ∨ (P.2.2 m i).1 = 13 ∨ (P.2.2 m i).1 = 14 ∨ (P.2.2 m i).1 = 15 ∨ (P.2.2 m i).1 = 16 ∨ (P.2.2 m i).1 = 17 ∨ (P.2.2 m i).1 = 18) ∨ ((P.2.2 m i).1 = 3 ∨ (P.2.2 m i).1 = 5) ∨ ((P.2.2 m i).1 = 4 ∨ (P.2.2 m i).1 = 6 ∨ (P.2.2 m i).1 = 10 ∨ (P.2.2 m i).1 = 11) ∨ ((P.2.2 m i).1 = 9)) with h6 | h6 | h6 | h6
  · refine fm_table (tgt := 114) (off := 108) hX d_C_worksOn_6 (by decide) (by rcases h6 with e | e | e | e | e | e | e | e | e | e | e | e <;> rw [e] <;> decide) (by decide) ?_
    refine fm_iconst (v := nI 0) hX d_C_worksOn_114 (by decide) rfl ?_
    refine fm_zret hX rfl (by decide) d_C_worksOn_115 ?_
    first | exact fm_rvi (fm_b1 (by omega)) | exact fm_rvi (fm_b0 (by omega))
  · refine fm_table (tgt := 56) (off := 50) hX d_C_worksOn_6 (by decide) (by rcases h6 with e | e <;> rw [e] <;> decide) (by decide) ?_
    refine fm_aload_n hX d_C_worksOn_56 rfl rfl rfl ?_
    refine fm_getr (q := kCa m 2) hX fC_18 (s_C (by omega)) rfl d_C_worksOn_57 rfl ?_
    refine fm_iload_n hX d_C_worksOn_60 rfl rfl rfl ?_
    refine fm_iald (v := nI ((P.2.2 m i).2.2.1)) hX (s_Ca2 (by omega)) rfl rfl (by omega) (by decide) ((hP m (by omega)).2.2 i (by omega)).2.2.1 d_C_worksOn_61 rfl ?_
    refine fm_iload_n hX d_C_worksOn_62 rfl rfl rfl ?_
    refine fm_n_ne (tgt := 70) (pq := 66) hX d_C_worksOn_63 rfl rfl (by omega) (by omega) (fun h63 => ?_) (fun h63 => ?_)
    · show fm_G SC Y_C_worksOn X M (fm_rv (bI (decide (fa_wk (P.2.2 m i) r))) M) 70 [some (.inr (kC m)), some (.inl (nI i)), some (.inl (nI r))] [] M
      refine fm_iconst (v := nI 0) hX d_C_worksOn_70 (by decide) rfl ?_
      refine fm_zret hX rfl (by decide) d_C_worksOn_71 ?_
      first | exact fm_rvi (fm_b1 (by omega)) | exact fm_rvi (fm_b0 (by omega))
    · show fm_G SC Y_C_worksOn X M (fm_rv (bI (decide (fa_wk (P.2.2 m i) r))) M) 66 [some (.inr (kC m)), some (.inl (nI i)), some (.inl (nI r))] [] M
      refine fm_iconst (v := nI 1) hX d_C_worksOn_66 (by decide) rfl ?_
      refine fm_goto (tgt := 71) hX d_C_worksOn_67 rfl ?_
      refine fm_zret hX rfl (by decide) d_C_worksOn_71 ?_
      first | exact fm_rvi (fm_b1 (by omega)) | exact fm_rvi (fm_b0 (by omega))
  · refine fm_table (tgt := 72) (off := 66) hX d_C_worksOn_6 (by decide) (by rcases h6 with e | e | e | e <;> rw [e] <;> decide) (by decide) ?_
    refine fm_aload_n hX d_C_worksOn_72 rfl rfl rfl ?_
    refine fm_getr (q := kCa m 1) hX fC_15 (s_C (by omega)) rfl d_C_worksOn_73 rfl ?_
    refine fm_iload_n hX d_C_worksOn_76 rfl rfl rfl ?_
    refine fm_iald (v := nI ((P.2.2 m i).2.1)) hX (s_Ca1 (by omega)) rfl rfl (by omega) (by decide) ((hP m (by omega)).2.2 i (by omega)).2.1 d_C_worksOn_77 rfl ?_
    refine fm_iload_n hX d_C_worksOn_78 rfl rfl rfl ?_
    refine fm_n_ne (tgt := 86) (pq := 82) hX d_C_worksOn_79 rfl rfl (by omega) (by omega) (fun h79 => ?_) (fun h79 => ?_)
    · show fm_G SC Y_C_worksOn X M (fm_rv (bI (decide (fa_wk (P.2.2 m i) r))) M) 86 [some (.inr (kC m)), some (.inl (nI i)), some (.inl (nI r))] [] M
      refine fm_iconst (v := nI 0) hX d_C_worksOn_86 (by decide) rfl ?_
      refine fm_zret hX rfl (by decide) d_C_worksOn_87 ?_
      first | exact fm_rvi (fm_b1 (by omega)) | exact fm_rvi (fm_b0 (by omega))
    · show fm_G SC Y_C_worksOn X M (fm_rv (bI (decide (fa_wk (P.2.2 m i) r))) M) 82 [some (.inr (kC m)), some (.inl (nI i)), some (.inl (nI r))] [] M
      refine fm_iconst (v := nI 1) hX d_C_worksOn_82 (by decide) rfl ?_
      refine fm_goto (tgt := 87) hX d_C_worksOn_83 rfl ?_
      refine fm_zret hX rfl (by decide) d_C_worksOn_87 ?_
      first | exact fm_rvi (fm_b1 (by omega)) | exact fm_rvi (fm_b0 (by omega))
  · refine fm_table (tgt := 88) (off := 82) hX d_C_worksOn_6 (by decide) (by rw [h6]; decide) (by decide) ?_
    refine fm_aload_n hX d_C_worksOn_88 rfl rfl rfl ?_
    refine fm_getr (q := kCa m 2) hX fC_18 (s_C (by omega)) rfl d_C_worksOn_89 rfl ?_
    refine fm_iload_n hX d_C_worksOn_92 rfl rfl rfl ?_
    refine fm_iald (v := nI ((P.2.2 m i).2.2.1)) hX (s_Ca2 (by omega)) rfl rfl (by omega) (by decide) ((hP m (by omega)).2.2 i (by omega)).2.2.1 d_C_worksOn_93 rfl ?_
    refine fm_iload_n hX d_C_worksOn_94 rfl rfl rfl ?_
    refine fm_n_eq (tgt := 108) (pq := 98) hX d_C_worksOn_95 rfl rfl (by omega) (by omega) (fun h95 => ?_) (fun h95 => ?_)
    · show fm_G SC Y_C_worksOn X M (fm_rv (bI (decide (fa_wk (P.2.2 m i) r))) M) 108 [some (.inr (kC m)), some (.inl (nI i)), some (.inl (nI r))] [] M
      refine fm_iconst (v := nI 1) hX d_C_worksOn_108 (by decide) rfl ?_
      refine fm_goto (tgt := 113) hX d_C_worksOn_109 rfl ?_
      refine fm_zret hX rfl (by decide) d_C_worksOn_113 ?_
      first | exact fm_rvi (fm_b1 (by omega)) | exact fm_rvi (fm_b0 (by omega))
    · show fm_G SC Y_C_worksOn X M (fm_rv (bI (decide (fa_wk (P.2.2 m i) r))) M) 98 [some (.inr (kC m)), some (.inl (nI i)), some (.inl (nI r))] [] M
      refine fm_aload_n hX d_C_worksOn_98 rfl rfl rfl ?_
      refine fm_getr (q := kCa m 3) hX fC_21 (s_C (by omega)) rfl d_C_worksOn_99 rfl ?_
      refine fm_iload_n hX d_C_worksOn_102 rfl rfl rfl ?_
      refine fm_iald (v := nI ((P.2.2 m i).2.2.2.1)) hX (s_Ca3 (by omega)) rfl rfl (by omega) (by decide) ((hP m (by omega)).2.2 i (by omega)).2.2.2.1 d_C_worksOn_103 rfl ?_
      refine fm_iload_n hX d_C_worksOn_104 rfl rfl rfl ?_
      refine fm_n_ne (tgt := 112) (pq := 108) hX d_C_worksOn_105 rfl rfl (by omega) (by omega) (fun h105 => ?_) (fun h105 => ?_)
      · show fm_G SC Y_C_worksOn X M (fm_rv (bI (decide (fa_wk (P.2.2 m i) r))) M) 112 [some (.inr (kC m)), some (.inl (nI i)), some (.inl (nI r))] [] M
        refine fm_iconst (v := nI 0) hX d_C_worksOn_112 (by decide) rfl ?_
        refine fm_zret hX rfl (by decide) d_C_worksOn_113 ?_
        first | exact fm_rvi (fm_b1 (by omega)) | exact fm_rvi (fm_b0 (by omega))
      · show fm_G SC Y_C_worksOn X M (fm_rv (bI (decide (fa_wk (P.2.2 m i) r))) M) 108 [some (.inr (kC m)), some (.inl (nI i)), some (.inl (nI r))] [] M
        refine fm_iconst (v := nI 1) hX d_C_worksOn_108 (by decide) rfl ?_
        refine fm_goto (tgt := 113) hX d_C_worksOn_109 rfl ?_
        refine fm_zret hX rfl (by decide) d_C_worksOn_113 ?_
        first | exact fm_rvi (fm_b1 (by omega)) | exact fm_rvi (fm_b0 (by omega))
abbrev Y_C_handsOn : fm_Y := ("EscapeMill$Code", b_C_handsOn, 4, (some .boolean), 1)
set_option maxRecDepth 100000 in
set_option maxHeartbeats 4000000 in
theorem k_C_handsOn {P : pr_T} {m : Nat} (hm : m < 5) (M : fm_M) (hP : cP M P) (hw : pr_wf P) {i : Nat} (hi : i < P.1 m) {r : Nat} (hr : r < 4) {k : Nat} (hk : k ≤ 2) : fm_ct SC y_C_handsOn b_C_handsOn 4 (some .boolean) 1 [.inr (kC m), .inl (nI i), .inl (nI r), .inl (nI k)] M (fm_rv (bI (decide (fa_hd k (P.2.2 m i) r))) M) := by
  refine fm_of (ls := [some (.inr (kC m)), some (.inl (nI i)), some (.inl (nI r)), some (.inl (nI k))]) (by decide) wsA_good (Nat.le_of_ble_eq_true rfl) rfl (fun X hX => ?_)
  obtain ⟨wl, wi, wI⟩ := hw m hm
  obtain ⟨w1, w2, w3, w4, w5, w6⟩ := wI i hi
  show fm_G SC Y_C_handsOn X M (fm_rv (bI (decide (fa_hd k (P.2.2 m i) r))) M) 0 [some (.inr (kC m)), some (.inl (nI i)), some (.inl (nI r)), some (.inl (nI k))] [] M
  refine fm_aload_n hX d_C_handsOn_0 rfl rfl rfl ?_
  refine fm_getr (q := kCa m 0) hX fC_9 (s_C (by omega)) rfl d_C_handsOn_1 rfl ?_
  refine fm_iload_n hX d_C_handsOn_4 rfl rfl rfl ?_
  refine fm_iald (v := nI ((P.2.2 m i).1)) hX (s_Ca0 (by omega)) rfl rfl (by omega) (by decide) ((hP m (by omega)).2.2 i (by omega)).1 d_C_handsOn_5 rfl ?_
  rcases (by omega : ((P.2.2 m i).1 = 0 ∨ (P.2.2 m i).1 = 2 ∨ (P.2.2 m i).1 = 3 ∨ (P.2.2 m i).1 = 5 ∨ (P.2.2 m i).1 = 6 ∨ (P.2.2 m i).1 = 7 ∨ (P.2.2 m i).1 = 8 ∨ (P.2.2 m i).1 = 9 ∨ (P.2.2 m i).1 = 10 ∨ (P.2.2 m i).1 = 11 ∨ (P.2.2 m i).1 = 13 ∨ (P.2.2 m i).1 = 14 ∨ (P.2.2 m i).1 = 15 ∨ (P.2.2 m i).1 = 18) ∨ ((P.2.2 m i).1 = 1 ∨ (P.2.2 m i).1 = 4) ∨ ((P.2.2 m i).1 = 12 ∨ (P.2.2 m i).1 = 17) ∨ ((P.2.2 m i).1 = 16)) with h6 | h6 | h6 | h6
  · refine fm_lookup (tgt := 124) (off := 118) hX d_C_handsOn_6 (by decide) (by rcases h6 with e | e | e | e | e | e | e | e | e | e | e | e | e | e <;> rw [e] <;> decide) (by decide) ?_
    refine fm_iconst (v := nI 0) hX d_C_handsOn_124 (by decide) rfl ?_
    refine fm_zret hX rfl (by decide) d_C_handsOn_125 ?_
    first | exact fm_rvi (fm_b1 (by omega)) | exact fm_rvi (fm_b0 (by omega))
  · refine fm_lookup (tgt := 56) (off := 50) hX d_C_handsOn_6 (by decide) (by rcases h6 with e | e <;> rw [e] <;> decide) (by decide) ?_
    refine fm_aload_n hX d_C_handsOn_56 rfl rfl rfl ?_
    refine fm_getr (q := kCa m 2) hX fC_18 (s_C (by omega)) rfl d_C_handsOn_57 rfl ?_
    refine fm_iload_n hX d_C_handsOn_60 rfl rfl rfl ?_
    refine fm_iald (v := nI ((P.2.2 m i).2.2.1)) hX (s_Ca2 (by omega)) rfl rfl (by omega) (by decide) ((hP m (by omega)).2.2 i (by omega)).2.2.1 d_C_handsOn_61 rfl ?_
    refine fm_iload_n hX d_C_handsOn_62 rfl rfl rfl ?_
    refine fm_n_ne (tgt := 70) (pq := 66) hX d_C_handsOn_63 rfl rfl (by omega) (by omega) (fun h63 => ?_) (fun h63 => ?_)
    · show fm_G SC Y_C_handsOn X M (fm_rv (bI (decide (fa_hd k (P.2.2 m i) r))) M) 70 [some (.inr (kC m)), some (.inl (nI i)), some (.inl (nI r)), some (.inl (nI k))] [] M
      refine fm_iconst (v := nI 0) hX d_C_handsOn_70 (by decide) rfl ?_
      refine fm_zret hX rfl (by decide) d_C_handsOn_71 ?_
      first | exact fm_rvi (fm_b1 (by omega)) | exact fm_rvi (fm_b0 (by omega))
    · show fm_G SC Y_C_handsOn X M (fm_rv (bI (decide (fa_hd k (P.2.2 m i) r))) M) 66 [some (.inr (kC m)), some (.inl (nI i)), some (.inl (nI r)), some (.inl (nI k))] [] M
      refine fm_iconst (v := nI 1) hX d_C_handsOn_66 (by decide) rfl ?_
      refine fm_goto (tgt := 71) hX d_C_handsOn_67 rfl ?_
      refine fm_zret hX rfl (by decide) d_C_handsOn_71 ?_
      first | exact fm_rvi (fm_b1 (by omega)) | exact fm_rvi (fm_b0 (by omega))
  · refine fm_lookup (tgt := 72) (off := 66) hX d_C_handsOn_6 (by decide) (by rcases h6 with e | e <;> rw [e] <;> decide) (by decide) ?_
    refine fm_aload_n hX d_C_handsOn_72 rfl rfl rfl ?_
    refine fm_getr (q := kCa m 1) hX fC_15 (s_C (by omega)) rfl d_C_handsOn_73 rfl ?_
    refine fm_iload_n hX d_C_handsOn_76 rfl rfl rfl ?_
    refine fm_iald (v := nI ((P.2.2 m i).2.1)) hX (s_Ca1 (by omega)) rfl rfl (by omega) (by decide) ((hP m (by omega)).2.2 i (by omega)).2.1 d_C_handsOn_77 rfl ?_
    refine fm_iload_n hX d_C_handsOn_78 rfl rfl rfl ?_
    refine fm_n_ne (tgt := 86) (pq := 82) hX d_C_handsOn_79 rfl rfl (by omega) (by omega) (fun h79 => ?_) (fun h79 => ?_)
    · show fm_G SC Y_C_handsOn X M (fm_rv (bI (decide (fa_hd k (P.2.2 m i) r))) M) 86 [some (.inr (kC m)), some (.inl (nI i)), some (.inl (nI r)), some (.inl (nI k))] [] M
      refine fm_iconst (v := nI 0) hX d_C_handsOn_86 (by decide) rfl ?_
      refine fm_zret hX rfl (by decide) d_C_handsOn_87 ?_
      first | exact fm_rvi (fm_b1 (by omega)) | exact fm_rvi (fm_b0 (by omega))
    · show fm_G SC Y_C_handsOn X M (fm_rv (bI (decide (fa_hd k (P.2.2 m i) r))) M) 82 [some (.inr (kC m)), some (.inl (nI i)), some (.inl (nI r)), some (.inl (nI k))] [] M
      refine fm_iconst (v := nI 1) hX d_C_handsOn_82 (by decide) rfl ?_
      refine fm_goto (tgt := 87) hX d_C_handsOn_83 rfl ?_
      refine fm_zret hX rfl (by decide) d_C_handsOn_87 ?_
      first | exact fm_rvi (fm_b1 (by omega)) | exact fm_rvi (fm_b0 (by omega))
  · refine fm_lookup (tgt := 88) (off := 82) hX d_C_handsOn_6 (by decide) (by rw [h6]; decide) (by decide) ?_
    refine fm_iload_n hX d_C_handsOn_88 rfl rfl rfl ?_
    refine fm_iconst (v := nI 1) hX d_C_handsOn_89 (by decide) rfl ?_
    refine fm_n_lt (tgt := 103) (pq := 93) hX d_C_handsOn_90 rfl rfl (by omega) (by omega) (fun h90 => ?_) (fun h90 => ?_)
    · show fm_G SC Y_C_handsOn X M (fm_rv (bI (decide (fa_hd k (P.2.2 m i) r))) M) 103 [some (.inr (kC m)), some (.inl (nI i)), some (.inl (nI r)), some (.inl (nI k))] [] M
      refine fm_iload_n hX d_C_handsOn_103 rfl rfl rfl ?_
      refine fm_iconst (v := nI 2) hX d_C_handsOn_104 (by decide) rfl ?_
      refine fm_n_lt (tgt := 122) (pq := 108) hX d_C_handsOn_105 rfl rfl (by omega) (by omega) (fun h105 => ?_) (fun h105 => ?_)
      · show fm_G SC Y_C_handsOn X M (fm_rv (bI (decide (fa_hd k (P.2.2 m i) r))) M) 122 [some (.inr (kC m)), some (.inl (nI i)), some (.inl (nI r)), some (.inl (nI k))] [] M
        refine fm_iconst (v := nI 0) hX d_C_handsOn_122 (by decide) rfl ?_
        refine fm_zret hX rfl (by decide) d_C_handsOn_123 ?_
        first | exact fm_rvi (fm_b1 (by omega)) | exact fm_rvi (fm_b0 (by omega))
      · show fm_G SC Y_C_handsOn X M (fm_rv (bI (decide (fa_hd k (P.2.2 m i) r))) M) 108 [some (.inr (kC m)), some (.inl (nI i)), some (.inl (nI r)), some (.inl (nI k))] [] M
        refine fm_aload_n hX d_C_handsOn_108 rfl rfl rfl ?_
        refine fm_getr (q := kCa m 3) hX fC_21 (s_C (by omega)) rfl d_C_handsOn_109 rfl ?_
        refine fm_iload_n hX d_C_handsOn_112 rfl rfl rfl ?_
        refine fm_iald (v := nI ((P.2.2 m i).2.2.2.1)) hX (s_Ca3 (by omega)) rfl rfl (by omega) (by decide) ((hP m (by omega)).2.2 i (by omega)).2.2.2.1 d_C_handsOn_113 rfl ?_
        refine fm_iload_n hX d_C_handsOn_114 rfl rfl rfl ?_
        refine fm_n_ne (tgt := 122) (pq := 118) hX d_C_handsOn_115 rfl rfl (by omega) (by omega) (fun h115 => ?_) (fun h115 => ?_)
        · show fm_G SC Y_C_handsOn X M (fm_rv (bI (decide (fa_hd k (P.2.2 m i) r))) M) 122 [some (.inr (kC m)), some (.inl (nI i)), some (.inl (nI r)), some (.inl (nI k))] [] M
          refine fm_iconst (v := nI 0) hX d_C_handsOn_122 (by decide) rfl ?_
          refine fm_zret hX rfl (by decide) d_C_handsOn_123 ?_
          first | exact fm_rvi (fm_b1 (by omega)) | exact fm_rvi (fm_b0 (by omega))
        · show fm_G SC Y_C_handsOn X M (fm_rv (bI (decide (fa_hd k (P.2.2 m i) r))) M) 118 [some (.inr (kC m)), some (.inl (nI i)), some (.inl (nI r)), some (.inl (nI k))] [] M
          refine fm_iconst (v := nI 1) hX d_C_handsOn_118 (by decide) rfl ?_
          refine fm_goto (tgt := 123) hX d_C_handsOn_119 rfl ?_
          refine fm_zret hX rfl (by decide) d_C_handsOn_123 ?_
          first | exact fm_rvi (fm_b1 (by omega)) | exact fm_rvi (fm_b0 (by omega))
    · show fm_G SC Y_C_handsOn X M (fm_rv (bI (decide (fa_hd k (P.2.2 m i) r))) M) 93 [some (.inr (kC m)), some (.inl (nI i)), some (.inl (nI r)), some (.inl (nI k))] [] M
      refine fm_aload_n hX d_C_handsOn_93 rfl rfl rfl ?_
      refine fm_getr (q := kCa m 2) hX fC_18 (s_C (by omega)) rfl d_C_handsOn_94 rfl ?_
      refine fm_iload_n hX d_C_handsOn_97 rfl rfl rfl ?_
      refine fm_iald (v := nI ((P.2.2 m i).2.2.1)) hX (s_Ca2 (by omega)) rfl rfl (by omega) (by decide) ((hP m (by omega)).2.2 i (by omega)).2.2.1 d_C_handsOn_98 rfl ?_
      refine fm_iload_n hX d_C_handsOn_99 rfl rfl rfl ?_
      refine fm_n_eq (tgt := 118) (pq := 103) hX d_C_handsOn_100 rfl rfl (by omega) (by omega) (fun h100 => ?_) (fun h100 => ?_)
      · show fm_G SC Y_C_handsOn X M (fm_rv (bI (decide (fa_hd k (P.2.2 m i) r))) M) 118 [some (.inr (kC m)), some (.inl (nI i)), some (.inl (nI r)), some (.inl (nI k))] [] M
        refine fm_iconst (v := nI 1) hX d_C_handsOn_118 (by decide) rfl ?_
        refine fm_goto (tgt := 123) hX d_C_handsOn_119 rfl ?_
        refine fm_zret hX rfl (by decide) d_C_handsOn_123 ?_
        first | exact fm_rvi (fm_b1 (by omega)) | exact fm_rvi (fm_b0 (by omega))
      · show fm_G SC Y_C_handsOn X M (fm_rv (bI (decide (fa_hd k (P.2.2 m i) r))) M) 103 [some (.inr (kC m)), some (.inl (nI i)), some (.inl (nI r)), some (.inl (nI k))] [] M
        refine fm_iload_n hX d_C_handsOn_103 rfl rfl rfl ?_
        refine fm_iconst (v := nI 2) hX d_C_handsOn_104 (by decide) rfl ?_
        refine fm_n_lt (tgt := 122) (pq := 108) hX d_C_handsOn_105 rfl rfl (by omega) (by omega) (fun h105 => ?_) (fun h105 => ?_)
        · show fm_G SC Y_C_handsOn X M (fm_rv (bI (decide (fa_hd k (P.2.2 m i) r))) M) 122 [some (.inr (kC m)), some (.inl (nI i)), some (.inl (nI r)), some (.inl (nI k))] [] M
          refine fm_iconst (v := nI 0) hX d_C_handsOn_122 (by decide) rfl ?_
          refine fm_zret hX rfl (by decide) d_C_handsOn_123 ?_
          first | exact fm_rvi (fm_b1 (by omega)) | exact fm_rvi (fm_b0 (by omega))
        · show fm_G SC Y_C_handsOn X M (fm_rv (bI (decide (fa_hd k (P.2.2 m i) r))) M) 108 [some (.inr (kC m)), some (.inl (nI i)), some (.inl (nI r)), some (.inl (nI k))] [] M
          refine fm_aload_n hX d_C_handsOn_108 rfl rfl rfl ?_
          refine fm_getr (q := kCa m 3) hX fC_21 (s_C (by omega)) rfl d_C_handsOn_109 rfl ?_
          refine fm_iload_n hX d_C_handsOn_112 rfl rfl rfl ?_
          refine fm_iald (v := nI ((P.2.2 m i).2.2.2.1)) hX (s_Ca3 (by omega)) rfl rfl (by omega) (by decide) ((hP m (by omega)).2.2 i (by omega)).2.2.2.1 d_C_handsOn_113 rfl ?_
          refine fm_iload_n hX d_C_handsOn_114 rfl rfl rfl ?_
          refine fm_n_ne (tgt := 122) (pq := 118) hX d_C_handsOn_115 rfl rfl (by omega) (by omega) (fun h115 => ?_) (fun h115 => ?_)
          · show fm_G SC Y_C_handsOn X M (fm_rv (bI (decide (fa_hd k (P.2.2 m i) r))) M) 122 [some (.inr (kC m)), some (.inl (nI i)), some (.inl (nI r)), some (.inl (nI k))] [] M
            refine fm_iconst (v := nI 0) hX d_C_handsOn_122 (by decide) rfl ?_
            refine fm_zret hX rfl (by decide) d_C_handsOn_123 ?_
            first | exact fm_rvi (fm_b1 (by omega)) | exact fm_rvi (fm_b0 (by omega))
          · show fm_G SC Y_C_handsOn X M (fm_rv (bI (decide (fa_hd k (P.2.2 m i) r))) M) 118 [some (.inr (kC m)), some (.inl (nI i)), some (.inl (nI r)), some (.inl (nI k))] [] M
            refine fm_iconst (v := nI 1) hX d_C_handsOn_118 (by decide) rfl ?_
            refine fm_goto (tgt := 123) hX d_C_handsOn_119 rfl ?_
            refine fm_zret hX rfl (by decide) d_C_handsOn_123 ?_
            first | exact fm_rvi (fm_b1 (by omega)) | exact fm_rvi (fm_b0 (by omega))
abbrev Y_C_behind : fm_Y := ("EscapeMill$Code", b_C_behind, 4, (some .int), 3)
set_option maxRecDepth 100000 in
set_option maxHeartbeats 4000000 in
theorem k_C_behind {P : pr_T} {m : Nat} (hm : m < 5) (M : fm_M) (hP : cP M P) (hw : pr_wf P) (s : Int32) : fm_ct SC y_C_behind b_C_behind 4 (some .int) 3 [.inr (kC m), .inl s] M (fm_rv (dm_bh (P.1 m) (P.2.2 m) s (P.1 m)) M) := by
  refine fm_of (ls := [some (.inr (kC m)), some (.inl s), none, none]) (by decide) wsA_good (Nat.le_of_ble_eq_true rfl) rfl (fun X hX => ?_)
  obtain ⟨wl, wi, wI⟩ := hw m hm
  have L4 : ∀ i, i ≤ P.1 m → ∀ x, x = dm_bh (P.1 m) (P.2.2 m) s i → fm_G SC Y_C_behind X M (fm_rv (dm_bh (P.1 m) (P.2.2 m) s (P.1 m)) M) 4 [some (.inr (kC m)), some (.inl s), some (.inl x), some (.inl (nI i))] [] M := by
    refine fm_ind (P.1 m) (fun i hle ih => ?_)
    intro x hx0
    refine fm_iload_n hX d_C_behind_4 rfl rfl rfl ?_
    refine fm_aload_n hX d_C_behind_5 rfl rfl rfl ?_
    refine fm_geti (v := nI (P.1 m)) hX fC_27 (s_C (by omega)) rfl (hP m (by omega)).1 d_C_behind_6 rfl ?_
    refine fm_n_ge (tgt := 82) (pq := 12) hX d_C_behind_9 rfl rfl (by omega) (by omega) (fun h9 => ?_) (fun h9 => ?_)
    · show fm_G SC Y_C_behind X M (fm_rv (dm_bh (P.1 m) (P.2.2 m) s (P.1 m)) M) 82 [some (.inr (kC m)), some (.inl s), some (.inl x), some (.inl (nI i))] [] M
      refine fm_iload_n hX d_C_behind_82 rfl rfl rfl ?_
      refine fm_iret hX rfl d_C_behind_83 ?_
      exact fm_rvi (by rw [hx0, show i = P.1 m by omega])
    · show fm_G SC Y_C_behind X M (fm_rv (dm_bh (P.1 m) (P.2.2 m) s (P.1 m)) M) 12 [some (.inr (kC m)), some (.inl s), some (.inl x), some (.inl (nI i))] [] M
      have w1 := (wI i (by omega)).1
      refine fm_iload_n hX d_C_behind_12 rfl rfl rfl ?_
      refine fm_iload_n hX d_C_behind_13 rfl rfl rfl ?_
      refine fm_ishr (v := s >>> (nI i &&& 31)) hX d_C_behind_14 rfl rfl ?_
      refine fm_iconst (v := nI 1) hX d_C_behind_15 (by decide) rfl ?_
      refine fm_iand (v := bI (bt s i)) hX d_C_behind_16 (fm_bit _ (by omega)) rfl ?_
      refine fm_b1_ne (tgt := 23) (pq := 20) hX d_C_behind_17 rfl rfl (fun h17 => ?_) (fun h17 => ?_)
      · show fm_G SC Y_C_behind X M (fm_rv (dm_bh (P.1 m) (P.2.2 m) s (P.1 m)) M) 23 [some (.inr (kC m)), some (.inl s), some (.inl x), some (.inl (nI i))] [] M
        refine fm_aload_n hX d_C_behind_23 rfl rfl rfl ?_
        refine fm_getr (q := kCa m 0) hX fC_9 (s_C (by omega)) rfl d_C_behind_24 rfl ?_
        refine fm_iload_n hX d_C_behind_27 rfl rfl rfl ?_
        refine fm_iald (v := nI ((P.2.2 m i).1)) hX (s_Ca0 (by omega)) rfl rfl (by omega) (by decide) ((hP m (by omega)).2.2 i (by omega)).1 d_C_behind_28 rfl ?_
        refine fm_bipush (v := nI 14) hX d_C_behind_29 (by decide) rfl ?_
        refine fm_n_eq (tgt := 55) (pq := 34) hX d_C_behind_31 rfl rfl (by omega) (by omega) (fun h31 => ?_) (fun h31 => ?_)
        · show fm_G SC Y_C_behind X M (fm_rv (dm_bh (P.1 m) (P.2.2 m) s (P.1 m)) M) 55 [some (.inr (kC m)), some (.inl s), some (.inl x), some (.inl (nI i))] [] M
          refine fm_aload_n hX d_C_behind_55 rfl rfl rfl ?_
          refine fm_iload_n hX d_C_behind_56 rfl rfl rfl ?_
          refine fm_callV_i (as := [.inl (nI i)]) (st := []) (pq := 60) hX (s_C (by omega)) rfl cC_41 rfl im_C_jumps se_C_jumps (k_C_jumps (by omega) M hP hw (i := i) (by omega)) rfl rfl (Nat.le_of_ble_eq_true rfl) (Nat.le_of_ble_eq_true rfl) d_C_behind_57 rfl ?_
          refine fm_p1_eq (tgt := 76) (pq := 63) hX d_C_behind_60 rfl rfl (fun h60 => ?_) (fun h60 => ?_)
          · show fm_G SC Y_C_behind X M (fm_rv (dm_bh (P.1 m) (P.2.2 m) s (P.1 m)) M) 76 [some (.inr (kC m)), some (.inl s), some (.inl x), some (.inl (nI i))] [] M
            refine fm_iinc (v := nI (i + 1)) (ls1 := [some (.inr (kC m)), some (.inl s), some (.inl x), some (.inl (nI (i + 1)))]) hX d_C_behind_76 rfl (nI_add _ _) (by decide) rfl rfl ?_
            refine fm_goto (tgt := 4) hX d_C_behind_79 rfl ?_
            exact ih (by omega) _ (by rw [hx0]; first | (exfalso; omega) | exact (if_neg (by rw [h17]; decide)).symm | (refine Eq.trans ?_ (if_pos h17).symm; simp only [dm_jm, dm_nx]; first | rw [if_pos (by omega), if_pos (by omega)] | rw [if_neg (by omega), if_pos (by omega)] | rw [if_pos (by omega), if_neg (by omega)] | rw [if_neg (by omega), if_neg (by omega)]))
          · show fm_G SC Y_C_behind X M (fm_rv (dm_bh (P.1 m) (P.2.2 m) s (P.1 m)) M) 63 [some (.inr (kC m)), some (.inl s), some (.inl x), some (.inl (nI i))] [] M
            refine fm_iload_n hX d_C_behind_63 rfl rfl rfl ?_
            refine fm_aload_n hX d_C_behind_64 rfl rfl rfl ?_
            refine fm_aload_n hX d_C_behind_65 rfl rfl rfl ?_
            refine fm_getr (q := kCa m 4) hX fC_24 (s_C (by omega)) rfl d_C_behind_66 rfl ?_
            refine fm_iload_n hX d_C_behind_69 rfl rfl rfl ?_
            refine fm_iald (v := (P.2.2 m i).2.2.2.2) hX (s_Ca4 (by omega)) rfl rfl (by omega) (by decide) ((hP m (by omega)).2.2 i (by omega)).2.2.2.2 d_C_behind_70 rfl ?_
            refine fm_callV_i (as := [.inl ((P.2.2 m i).2.2.2.2)]) (st := [.inl x]) (pq := 74) hX (s_C (by omega)) rfl cC_34 rfl im_C_bit se_C_bit (k_C_bit (by omega) M hP hw ((P.2.2 m i).2.2.2.2)) rfl rfl (Nat.le_of_ble_eq_true rfl) (Nat.le_of_ble_eq_true rfl) d_C_behind_71 rfl ?_
            refine fm_ior (v := x ||| (dm_bit (P.1 m) ((P.2.2 m i).2.2.2.2))) hX d_C_behind_74 rfl rfl ?_
            refine fm_istore_n (ls1 := [some (.inr (kC m)), some (.inl s), some (.inl (x ||| (dm_bit (P.1 m) ((P.2.2 m i).2.2.2.2)))), some (.inl (nI i))]) hX d_C_behind_75 rfl (by decide) rfl rfl ?_
            refine fm_iinc (v := nI (i + 1)) (ls1 := [some (.inr (kC m)), some (.inl s), some (.inl (x ||| (dm_bit (P.1 m) ((P.2.2 m i).2.2.2.2)))), some (.inl (nI (i + 1)))]) hX d_C_behind_76 rfl (nI_add _ _) (by decide) rfl rfl ?_
            refine fm_goto (tgt := 4) hX d_C_behind_79 rfl ?_
            exact ih (by omega) _ (by rw [hx0]; first | (exfalso; omega) | exact (if_neg (by rw [h17]; decide)).symm | (refine Eq.trans ?_ (if_pos h17).symm; simp only [dm_jm, dm_nx]; first | rw [if_pos (by omega), if_pos (by omega)] | rw [if_neg (by omega), if_pos (by omega)] | rw [if_pos (by omega), if_neg (by omega)] | rw [if_neg (by omega), if_neg (by omega)]))
        · show fm_G SC Y_C_behind X M (fm_rv (dm_bh (P.1 m) (P.2.2 m) s (P.1 m)) M) 34 [some (.inr (kC m)), some (.inl s), some (.inl x), some (.inl (nI i))] [] M
          refine fm_aload_n hX d_C_behind_34 rfl rfl rfl ?_
          refine fm_getr (q := kCa m 0) hX fC_9 (s_C (by omega)) rfl d_C_behind_35 rfl ?_
          refine fm_iload_n hX d_C_behind_38 rfl rfl rfl ?_
          refine fm_iald (v := nI ((P.2.2 m i).1)) hX (s_Ca0 (by omega)) rfl rfl (by omega) (by decide) ((hP m (by omega)).2.2 i (by omega)).1 d_C_behind_39 rfl ?_
          refine fm_bipush (v := nI 17) hX d_C_behind_40 (by decide) rfl ?_
          refine fm_n_eq (tgt := 55) (pq := 45) hX d_C_behind_42 rfl rfl (by omega) (by omega) (fun h42 => ?_) (fun h42 => ?_)
          · show fm_G SC Y_C_behind X M (fm_rv (dm_bh (P.1 m) (P.2.2 m) s (P.1 m)) M) 55 [some (.inr (kC m)), some (.inl s), some (.inl x), some (.inl (nI i))] [] M
            refine fm_aload_n hX d_C_behind_55 rfl rfl rfl ?_
            refine fm_iload_n hX d_C_behind_56 rfl rfl rfl ?_
            refine fm_callV_i (as := [.inl (nI i)]) (st := []) (pq := 60) hX (s_C (by omega)) rfl cC_41 rfl im_C_jumps se_C_jumps (k_C_jumps (by omega) M hP hw (i := i) (by omega)) rfl rfl (Nat.le_of_ble_eq_true rfl) (Nat.le_of_ble_eq_true rfl) d_C_behind_57 rfl ?_
            refine fm_p1_eq (tgt := 76) (pq := 63) hX d_C_behind_60 rfl rfl (fun h60 => ?_) (fun h60 => ?_)
            · show fm_G SC Y_C_behind X M (fm_rv (dm_bh (P.1 m) (P.2.2 m) s (P.1 m)) M) 76 [some (.inr (kC m)), some (.inl s), some (.inl x), some (.inl (nI i))] [] M
              refine fm_iinc (v := nI (i + 1)) (ls1 := [some (.inr (kC m)), some (.inl s), some (.inl x), some (.inl (nI (i + 1)))]) hX d_C_behind_76 rfl (nI_add _ _) (by decide) rfl rfl ?_
              refine fm_goto (tgt := 4) hX d_C_behind_79 rfl ?_
              exact ih (by omega) _ (by rw [hx0]; first | (exfalso; omega) | exact (if_neg (by rw [h17]; decide)).symm | (refine Eq.trans ?_ (if_pos h17).symm; simp only [dm_jm, dm_nx]; first | rw [if_pos (by omega), if_pos (by omega)] | rw [if_neg (by omega), if_pos (by omega)] | rw [if_pos (by omega), if_neg (by omega)] | rw [if_neg (by omega), if_neg (by omega)]))
            · show fm_G SC Y_C_behind X M (fm_rv (dm_bh (P.1 m) (P.2.2 m) s (P.1 m)) M) 63 [some (.inr (kC m)), some (.inl s), some (.inl x), some (.inl (nI i))] [] M
              refine fm_iload_n hX d_C_behind_63 rfl rfl rfl ?_
              refine fm_aload_n hX d_C_behind_64 rfl rfl rfl ?_
              refine fm_aload_n hX d_C_behind_65 rfl rfl rfl ?_
              refine fm_getr (q := kCa m 4) hX fC_24 (s_C (by omega)) rfl d_C_behind_66 rfl ?_
              refine fm_iload_n hX d_C_behind_69 rfl rfl rfl ?_
              refine fm_iald (v := (P.2.2 m i).2.2.2.2) hX (s_Ca4 (by omega)) rfl rfl (by omega) (by decide) ((hP m (by omega)).2.2 i (by omega)).2.2.2.2 d_C_behind_70 rfl ?_
              refine fm_callV_i (as := [.inl ((P.2.2 m i).2.2.2.2)]) (st := [.inl x]) (pq := 74) hX (s_C (by omega)) rfl cC_34 rfl im_C_bit se_C_bit (k_C_bit (by omega) M hP hw ((P.2.2 m i).2.2.2.2)) rfl rfl (Nat.le_of_ble_eq_true rfl) (Nat.le_of_ble_eq_true rfl) d_C_behind_71 rfl ?_
              refine fm_ior (v := x ||| (dm_bit (P.1 m) ((P.2.2 m i).2.2.2.2))) hX d_C_behind_74 rfl rfl ?_
              refine fm_istore_n (ls1 := [some (.inr (kC m)), some (.inl s), some (.inl (x ||| (dm_bit (P.1 m) ((P.2.2 m i).2.2.2.2)))), some (.inl (nI i))]) hX d_C_behind_75 rfl (by decide) rfl rfl ?_
              refine fm_iinc (v := nI (i + 1)) (ls1 := [some (.inr (kC m)), some (.inl s), some (.inl (x ||| (dm_bit (P.1 m) ((P.2.2 m i).2.2.2.2)))), some (.inl (nI (i + 1)))]) hX d_C_behind_76 rfl (nI_add _ _) (by decide) rfl rfl ?_
              refine fm_goto (tgt := 4) hX d_C_behind_79 rfl ?_
              exact ih (by omega) _ (by rw [hx0]; first | (exfalso; omega) | exact (if_neg (by rw [h17]; decide)).symm | (refine Eq.trans ?_ (if_pos h17).symm; simp only [dm_jm, dm_nx]; first | rw [if_pos (by omega), if_pos (by omega)] | rw [if_neg (by omega), if_pos (by omega)] | rw [if_pos (by omega), if_neg (by omega)] | rw [if_neg (by omega), if_neg (by omega)]))
          · show fm_G SC Y_C_behind X M (fm_rv (dm_bh (P.1 m) (P.2.2 m) s (P.1 m)) M) 45 [some (.inr (kC m)), some (.inl s), some (.inl x), some (.inl (nI i))] [] M
            refine fm_iload_n hX d_C_behind_45 rfl rfl rfl ?_
            refine fm_aload_n hX d_C_behind_46 rfl rfl rfl ?_
            refine fm_iload_n hX d_C_behind_47 rfl rfl rfl ?_
            refine fm_iconst (v := nI 1) hX d_C_behind_48 (by decide) rfl ?_
            refine fm_iadd (v := nI (i + 1)) hX d_C_behind_49 (nI_add _ _) rfl ?_
            refine fm_callV_i (as := [.inl (nI (i + 1))]) (st := [.inl x]) (pq := 53) hX (s_C (by omega)) rfl cC_34 rfl im_C_bit se_C_bit (k_C_bit (by omega) M hP hw (nI (i + 1))) rfl rfl (Nat.le_of_ble_eq_true rfl) (Nat.le_of_ble_eq_true rfl) d_C_behind_50 rfl ?_
            refine fm_ior (v := x ||| (dm_bit (P.1 m) (nI (i + 1)))) hX d_C_behind_53 rfl rfl ?_
            refine fm_istore_n (ls1 := [some (.inr (kC m)), some (.inl s), some (.inl (x ||| (dm_bit (P.1 m) (nI (i + 1))))), some (.inl (nI i))]) hX d_C_behind_54 rfl (by decide) rfl rfl ?_
            refine fm_aload_n hX d_C_behind_55 rfl rfl rfl ?_
            refine fm_iload_n hX d_C_behind_56 rfl rfl rfl ?_
            refine fm_callV_i (as := [.inl (nI i)]) (st := []) (pq := 60) hX (s_C (by omega)) rfl cC_41 rfl im_C_jumps se_C_jumps (k_C_jumps (by omega) M hP hw (i := i) (by omega)) rfl rfl (Nat.le_of_ble_eq_true rfl) (Nat.le_of_ble_eq_true rfl) d_C_behind_57 rfl ?_
            refine fm_p1_eq (tgt := 76) (pq := 63) hX d_C_behind_60 rfl rfl (fun h60 => ?_) (fun h60 => ?_)
            · show fm_G SC Y_C_behind X M (fm_rv (dm_bh (P.1 m) (P.2.2 m) s (P.1 m)) M) 76 [some (.inr (kC m)), some (.inl s), some (.inl (x ||| (dm_bit (P.1 m) (nI (i + 1))))), some (.inl (nI i))] [] M
              refine fm_iinc (v := nI (i + 1)) (ls1 := [some (.inr (kC m)), some (.inl s), some (.inl (x ||| (dm_bit (P.1 m) (nI (i + 1))))), some (.inl (nI (i + 1)))]) hX d_C_behind_76 rfl (nI_add _ _) (by decide) rfl rfl ?_
              refine fm_goto (tgt := 4) hX d_C_behind_79 rfl ?_
              exact ih (by omega) _ (by rw [hx0]; first | (exfalso; omega) | exact (if_neg (by rw [h17]; decide)).symm | (refine Eq.trans ?_ (if_pos h17).symm; simp only [dm_jm, dm_nx]; first | rw [if_pos (by omega), if_pos (by omega)] | rw [if_neg (by omega), if_pos (by omega)] | rw [if_pos (by omega), if_neg (by omega)] | rw [if_neg (by omega), if_neg (by omega)]))
            · show fm_G SC Y_C_behind X M (fm_rv (dm_bh (P.1 m) (P.2.2 m) s (P.1 m)) M) 63 [some (.inr (kC m)), some (.inl s), some (.inl (x ||| (dm_bit (P.1 m) (nI (i + 1))))), some (.inl (nI i))] [] M
              refine fm_iload_n hX d_C_behind_63 rfl rfl rfl ?_
              refine fm_aload_n hX d_C_behind_64 rfl rfl rfl ?_
              refine fm_aload_n hX d_C_behind_65 rfl rfl rfl ?_
              refine fm_getr (q := kCa m 4) hX fC_24 (s_C (by omega)) rfl d_C_behind_66 rfl ?_
              refine fm_iload_n hX d_C_behind_69 rfl rfl rfl ?_
              refine fm_iald (v := (P.2.2 m i).2.2.2.2) hX (s_Ca4 (by omega)) rfl rfl (by omega) (by decide) ((hP m (by omega)).2.2 i (by omega)).2.2.2.2 d_C_behind_70 rfl ?_
              refine fm_callV_i (as := [.inl ((P.2.2 m i).2.2.2.2)]) (st := [.inl (x ||| (dm_bit (P.1 m) (nI (i + 1))))]) (pq := 74) hX (s_C (by omega)) rfl cC_34 rfl im_C_bit se_C_bit (k_C_bit (by omega) M hP hw ((P.2.2 m i).2.2.2.2)) rfl rfl (Nat.le_of_ble_eq_true rfl) (Nat.le_of_ble_eq_true rfl) d_C_behind_71 rfl ?_
              refine fm_ior (v := (x ||| (dm_bit (P.1 m) (nI (i + 1)))) ||| (dm_bit (P.1 m) ((P.2.2 m i).2.2.2.2))) hX d_C_behind_74 rfl rfl ?_
              refine fm_istore_n (ls1 := [some (.inr (kC m)), some (.inl s), some (.inl ((x ||| (dm_bit (P.1 m) (nI (i + 1)))) ||| (dm_bit (P.1 m) ((P.2.2 m i).2.2.2.2)))), some (.inl (nI i))]) hX d_C_behind_75 rfl (by decide) rfl rfl ?_
              refine fm_iinc (v := nI (i + 1)) (ls1 := [some (.inr (kC m)), some (.inl s), some (.inl ((x ||| (dm_bit (P.1 m) (nI (i + 1)))) ||| (dm_bit (P.1 m) ((P.2.2 m i).2.2.2.2)))), some (.inl (nI (i + 1)))]) hX d_C_behind_76 rfl (nI_add _ _) (by decide) rfl rfl ?_
              refine fm_goto (tgt := 4) hX d_C_behind_79 rfl ?_
              exact ih (by omega) _ (by rw [hx0]; first | (exfalso; omega) | exact (if_neg (by rw [h17]; decide)).symm | (refine Eq.trans ?_ (if_pos h17).symm; simp only [dm_jm, dm_nx]; first | rw [if_pos (by omega), if_pos (by omega)] | rw [if_neg (by omega), if_pos (by omega)] | rw [if_pos (by omega), if_neg (by omega)] | rw [if_neg (by omega), if_neg (by omega)]))
      · show fm_G SC Y_C_behind X M (fm_rv (dm_bh (P.1 m) (P.2.2 m) s (P.1 m)) M) 20 [some (.inr (kC m)), some (.inl s), some (.inl x), some (.inl (nI i))] [] M
        refine fm_goto (tgt := 76) hX d_C_behind_20 rfl ?_
        refine fm_iinc (v := nI (i + 1)) (ls1 := [some (.inr (kC m)), some (.inl s), some (.inl x), some (.inl (nI (i + 1)))]) hX d_C_behind_76 rfl (nI_add _ _) (by decide) rfl rfl ?_
        refine fm_goto (tgt := 4) hX d_C_behind_79 rfl ?_
        exact ih (by omega) _ (by rw [hx0]; first | (exfalso; omega) | exact (if_neg (by rw [h17]; decide)).symm | (refine Eq.trans ?_ (if_pos h17).symm; simp only [dm_jm, dm_nx]; first | rw [if_pos (by omega), if_pos (by omega)] | rw [if_neg (by omega), if_pos (by omega)] | rw [if_pos (by omega), if_neg (by omega)] | rw [if_neg (by omega), if_neg (by omega)]))
  show fm_G SC Y_C_behind X M (fm_rv (dm_bh (P.1 m) (P.2.2 m) s (P.1 m)) M) 0 [some (.inr (kC m)), some (.inl s), none, none] [] M
  refine fm_iconst (v := nI 0) hX d_C_behind_0 (by decide) rfl ?_
  refine fm_istore_n (ls1 := [some (.inr (kC m)), some (.inl s), some (.inl (nI 0)), none]) hX d_C_behind_1 rfl (by decide) rfl rfl ?_
  refine fm_iconst (v := nI 0) hX d_C_behind_2 (by decide) rfl ?_
  refine fm_istore_n (ls1 := [some (.inr (kC m)), some (.inl s), some (.inl (nI 0)), some (.inl (nI 0))]) hX d_C_behind_3 rfl (by decide) rfl rfl ?_
  exact L4 0 (by omega) _ rfl
abbrev Y_C_reachedWithout : fm_Y := ("EscapeMill$Code", b_C_reachedWithout, 6, (some .int), 4)
set_option maxRecDepth 100000 in
set_option maxHeartbeats 4000000 in
theorem k_C_reachedWithout {P : pr_T} {m : Nat} (hm : m < 5) (M : fm_M) (hP : cP M P) (hw : pr_wf P) {h : Nat} (hh : h < 24) : fm_ct SC y_C_reachedWithout b_C_reachedWithout 6 (some .int) 4 [.inr (kC m), .inl (nI h)] M (fm_rv (dm_free (P.1 m) (P.2.2 m) h) M) := by
  refine fm_of (ls := [some (.inr (kC m)), some (.inl (nI h)), none, none, none, none]) (by decide) wsA_good (Nat.le_of_ble_eq_true rfl) rfl (fun X hX => ?_)
  obtain ⟨wl, wi, wI⟩ := hw m hm
  have L17 : ∀ t, t ≤ 24 → ∀ x, dm_go (P.1 m) (P.2.2 m) h (24 - t) x = dm_free (P.1 m) (P.2.2 m) h → fm_G SC Y_C_reachedWithout X M (fm_rv (dm_free (P.1 m) (P.2.2 m) h) M) 17 [some (.inr (kC m)), some (.inl (nI h)), some (.inl (dm_al h)), some (.inl x), some (.inl (nI t)), none] [] M := by
    refine fm_ind 24 (fun t hle ih => ?_)
    intro x hx0
    refine fm_iload hX d_C_reachedWithout_17 rfl rfl ?_
    refine fm_bipush (v := nI 24) hX d_C_reachedWithout_19 (by decide) rfl ?_
    refine fm_n_ge (tgt := 53) (pq := 24) hX d_C_reachedWithout_21 rfl rfl (by omega) (by omega) (fun h21 => ?_) (fun h21 => ?_)
    · show fm_G SC Y_C_reachedWithout X M (fm_rv (dm_free (P.1 m) (P.2.2 m) h) M) 53 [some (.inr (kC m)), some (.inl (nI h)), some (.inl (dm_al h)), some (.inl x), some (.inl (nI t)), none] [] M
      refine fm_iload_n hX d_C_reachedWithout_53 rfl rfl rfl ?_
      refine fm_iret hX rfl d_C_reachedWithout_54 ?_
      first | exact fm_rvi (by rw [← hx0, show 24 - t = 0 by omega]; rfl) | exact fm_rvi (by rw [← hx0, show 24 - t = (24 - (t + 1)) + 1 by omega]; exact (if_pos h38).symm)
    · show fm_G SC Y_C_reachedWithout X M (fm_rv (dm_free (P.1 m) (P.2.2 m) h) M) 24 [some (.inr (kC m)), some (.inl (nI h)), some (.inl (dm_al h)), some (.inl x), some (.inl (nI t)), none] [] M
      refine fm_iload_n hX d_C_reachedWithout_24 rfl rfl rfl ?_
      refine fm_aload_n hX d_C_reachedWithout_25 rfl rfl rfl ?_
      refine fm_iload_n hX d_C_reachedWithout_26 rfl rfl rfl ?_
      refine fm_callV_i (as := [.inl x]) (st := [.inl x]) (pq := 30) hX (s_C (by omega)) rfl cC_38 rfl im_C_behind se_C_behind (k_C_behind (by omega) M hP hw x) rfl rfl (Nat.le_of_ble_eq_true rfl) (Nat.le_of_ble_eq_true rfl) d_C_reachedWithout_27 rfl ?_
      refine fm_ior (v := x ||| (dm_bh (P.1 m) (P.2.2 m) x (P.1 m))) hX d_C_reachedWithout_30 rfl rfl ?_
      refine fm_iload_n hX d_C_reachedWithout_31 rfl rfl rfl ?_
      refine fm_iand (v := (x ||| (dm_bh (P.1 m) (P.2.2 m) x (P.1 m))) &&& (dm_al h)) hX d_C_reachedWithout_32 rfl rfl ?_
      refine fm_istore (ls1 := [some (.inr (kC m)), some (.inl (nI h)), some (.inl (dm_al h)), some (.inl x), some (.inl (nI t)), some (.inl ((x ||| (dm_bh (P.1 m) (P.2.2 m) x (P.1 m))) &&& (dm_al h)))]) hX d_C_reachedWithout_33 (by decide) rfl rfl ?_
      refine fm_iload hX d_C_reachedWithout_35 rfl rfl ?_
      refine fm_iload_n hX d_C_reachedWithout_37 rfl rfl rfl ?_
      refine fm_icmp_ne (tgt := 44) (pq := 41) hX d_C_reachedWithout_38 rfl rfl (fun h38 => ?_) (fun h38 => ?_)
      · show fm_G SC Y_C_reachedWithout X M (fm_rv (dm_free (P.1 m) (P.2.2 m) h) M) 44 [some (.inr (kC m)), some (.inl (nI h)), some (.inl (dm_al h)), some (.inl x), some (.inl (nI t)), some (.inl ((x ||| (dm_bh (P.1 m) (P.2.2 m) x (P.1 m))) &&& (dm_al h)))] [] M
        refine fm_iload hX d_C_reachedWithout_44 rfl rfl ?_
        refine fm_istore_n (ls1 := [some (.inr (kC m)), some (.inl (nI h)), some (.inl (dm_al h)), some (.inl ((x ||| (dm_bh (P.1 m) (P.2.2 m) x (P.1 m))) &&& (dm_al h))), some (.inl (nI t)), some (.inl ((x ||| (dm_bh (P.1 m) (P.2.2 m) x (P.1 m))) &&& (dm_al h)))]) hX d_C_reachedWithout_46 rfl (by decide) rfl rfl ?_
        refine fm_iinc (v := nI (t + 1)) (ls1 := [some (.inr (kC m)), some (.inl (nI h)), some (.inl (dm_al h)), some (.inl ((x ||| (dm_bh (P.1 m) (P.2.2 m) x (P.1 m))) &&& (dm_al h))), some (.inl (nI (t + 1))), some (.inl ((x ||| (dm_bh (P.1 m) (P.2.2 m) x (P.1 m))) &&& (dm_al h)))]) hX d_C_reachedWithout_47 rfl (nI_add _ _) (by decide) rfl rfl ?_
        refine fm_goto (tgt := 17) hX d_C_reachedWithout_50 rfl ?_
        refine fm_drop 5 (ls1 := [some (.inr (kC m)), some (.inl (nI h)), some (.inl (dm_al h)), some (.inl ((x ||| (dm_bh (P.1 m) (P.2.2 m) x (P.1 m))) &&& (dm_al h))), some (.inl (nI (t + 1))), none]) rfl ?_
        exact ih (by omega) _ (by rw [← hx0, show 24 - t = (24 - (t + 1)) + 1 by omega]; exact (if_neg h38).symm)
      · show fm_G SC Y_C_reachedWithout X M (fm_rv (dm_free (P.1 m) (P.2.2 m) h) M) 41 [some (.inr (kC m)), some (.inl (nI h)), some (.inl (dm_al h)), some (.inl x), some (.inl (nI t)), some (.inl ((x ||| (dm_bh (P.1 m) (P.2.2 m) x (P.1 m))) &&& (dm_al h)))] [] M
        refine fm_goto (tgt := 53) hX d_C_reachedWithout_41 rfl ?_
        refine fm_iload_n hX d_C_reachedWithout_53 rfl rfl rfl ?_
        refine fm_iret hX rfl d_C_reachedWithout_54 ?_
        first | exact fm_rvi (by rw [← hx0, show 24 - t = 0 by omega]; rfl) | exact fm_rvi (by rw [← hx0, show 24 - t = (24 - (t + 1)) + 1 by omega]; exact (if_pos h38).symm)
  show fm_G SC Y_C_reachedWithout X M (fm_rv (dm_free (P.1 m) (P.2.2 m) h) M) 0 [some (.inr (kC m)), some (.inl (nI h)), none, none, none, none] [] M
  refine fm_iconst (v := nI 1) hX d_C_reachedWithout_0 (by decide) rfl ?_
  refine fm_iload_n hX d_C_reachedWithout_1 rfl rfl rfl ?_
  refine fm_ishl (v := an_1 h) hX d_C_reachedWithout_2 rfl rfl ?_
  refine fm_iconst (v := (-1)) hX d_C_reachedWithout_3 (by decide) rfl ?_
  refine fm_ixor (v := (an_1 h) ^^^ ((-1))) hX d_C_reachedWithout_4 rfl rfl ?_
  refine fm_istore_n (ls1 := [some (.inr (kC m)), some (.inl (nI h)), some (.inl ((an_1 h) ^^^ ((-1)))), none, none, none]) hX d_C_reachedWithout_5 rfl (by decide) rfl rfl ?_
  refine fm_aload_n hX d_C_reachedWithout_6 rfl rfl rfl ?_
  refine fm_iconst (v := nI 0) hX d_C_reachedWithout_7 (by decide) rfl ?_
  refine fm_callV_i (as := [.inl (nI 0)]) (st := []) (pq := 11) hX (s_C (by omega)) rfl cC_34 rfl im_C_bit se_C_bit (k_C_bit (by omega) M hP hw (nI 0)) rfl rfl (Nat.le_of_ble_eq_true rfl) (Nat.le_of_ble_eq_true rfl) d_C_reachedWithout_8 rfl ?_
  refine fm_iload_n hX d_C_reachedWithout_11 rfl rfl rfl ?_
  refine fm_iand (v := (dm_bit (P.1 m) (nI 0)) &&& ((an_1 h) ^^^ ((-1)))) hX d_C_reachedWithout_12 rfl rfl ?_
  refine fm_istore_n (ls1 := [some (.inr (kC m)), some (.inl (nI h)), some (.inl ((an_1 h) ^^^ ((-1)))), some (.inl ((dm_bit (P.1 m) (nI 0)) &&& ((an_1 h) ^^^ ((-1))))), none, none]) hX d_C_reachedWithout_13 rfl (by decide) rfl rfl ?_
  refine fm_iconst (v := nI 0) hX d_C_reachedWithout_14 (by decide) rfl ?_
  refine fm_istore (ls1 := [some (.inr (kC m)), some (.inl (nI h)), some (.inl ((an_1 h) ^^^ ((-1)))), some (.inl ((dm_bit (P.1 m) (nI 0)) &&& ((an_1 h) ^^^ ((-1))))), some (.inl (nI 0)), none]) hX d_C_reachedWithout_15 (by decide) rfl rfl ?_
  exact L17 0 (by omega) _ rfl
