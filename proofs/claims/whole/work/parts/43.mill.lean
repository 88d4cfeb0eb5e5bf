/-! EscapeMill: settle and what reads (written by program) -/
abbrev Y_E_isMethod : fm_Y := ("EscapeMill", b_E_isMethod, 1, (some .boolean), 1)
set_option maxRecDepth 100000 in
set_option maxHeartbeats 4000000 in
theorem k_E_isMethod_y {m : Nat} (hm : m < 5) (M : fm_M) : fm_ct SC y_E_isMethod b_E_isMethod 1 (some .boolean) 1 [.inl (nI m)] M (fm_rv (nI 1) M) := by
  refine fm_of (ls := [some (.inl (nI m))]) (by decide) wsA_good (Nat.le_of_ble_eq_true rfl) rfl (fun X hX => ?_)
  show fm_G SC Y_E_isMethod X M (fm_rv (nI 1) M) 0 [some (.inl (nI m))] [] M
  refine fm_iload_n hX d_E_isMethod_0 rfl rfl rfl ?_
  refine fm_z_lt (tgt := 13) (pq := 4) hX d_E_isMethod_1 rfl rfl (by omega) (fun h1 => ?_) (fun h1 => ?_)
  · exact absurd h1 (by omega)
  · show fm_G SC Y_E_isMethod X M (fm_rv (nI 1) M) 4 [some (.inl (nI m))] [] M
    refine fm_iload_n hX d_E_isMethod_4 rfl rfl rfl ?_
    refine fm_iconst (v := nI 5) hX d_E_isMethod_5 (by decide) rfl ?_
    refine fm_n_ge (tgt := 13) (pq := 9) hX d_E_isMethod_6 rfl rfl (by omega) (by omega) (fun h6 => ?_) (fun h6 => ?_)
    · exact absurd h6 (by omega)
    · show fm_G SC Y_E_isMethod X M (fm_rv (nI 1) M) 9 [some (.inl (nI m))] [] M
      refine fm_iconst (v := nI 1) hX d_E_isMethod_9 (by decide) rfl ?_
      refine fm_goto (tgt := 14) hX d_E_isMethod_10 rfl ?_
      refine fm_zret hX rfl (by decide) d_E_isMethod_14 ?_
      exact fm_rvi rfl
set_option maxRecDepth 100000 in
set_option maxHeartbeats 4000000 in
theorem k_E_isMethod_n (v : Int32) (hv : v < 0 ∨ nI 5 ≤ v) (M : fm_M) : fm_ct SC y_E_isMethod b_E_isMethod 1 (some .boolean) 1 [.inl v] M (fm_rv (nI 0) M) := by
  refine fm_of (ls := [some (.inl v)]) (by decide) wsA_good (Nat.le_of_ble_eq_true rfl) rfl (fun X hX => ?_)
  show fm_G SC Y_E_isMethod X M (fm_rv (nI 0) M) 0 [some (.inl v)] [] M
  refine fm_iload_n hX d_E_isMethod_0 rfl rfl rfl ?_
  refine fm_if_lt (tgt := 13) (pq := 4) hX d_E_isMethod_1 rfl rfl (fun h1 => ?_) (fun h1 => ?_)
  · show fm_G SC Y_E_isMethod X M (fm_rv (nI 0) M) 13 [some (.inl v)] [] M
    refine fm_iconst (v := nI 0) hX d_E_isMethod_13 (by decide) rfl ?_
    refine fm_zret hX rfl (by decide) d_E_isMethod_14 ?_
    exact fm_rvi rfl
  · show fm_G SC Y_E_isMethod X M (fm_rv (nI 0) M) 4 [some (.inl v)] [] M
    refine fm_iload_n hX d_E_isMethod_4 rfl rfl rfl ?_
    refine fm_iconst (v := nI 5) hX d_E_isMethod_5 (by decide) rfl ?_
    refine fm_icmp_ge (tgt := 13) (pq := 9) hX d_E_isMethod_6 rfl rfl (fun h6 => ?_) (fun h6 => ?_)
    · show fm_G SC Y_E_isMethod X M (fm_rv (nI 0) M) 13 [some (.inl v)] [] M
      refine fm_iconst (v := nI 0) hX d_E_isMethod_13 (by decide) rfl ?_
      refine fm_zret hX rfl (by decide) d_E_isMethod_14 ?_
      exact fm_rvi rfl
    · exact absurd (hv.resolve_left h1) h6
abbrev Y_E_isVariable : fm_Y := ("EscapeMill", b_E_isVariable, 1, (some .boolean), 1)
set_option maxRecDepth 100000 in
set_option maxHeartbeats 4000000 in
theorem k_E_isVariable (v : Int32) (M : fm_M) : fm_ct SC y_E_isVariable b_E_isVariable 1 (some .boolean) 1 [.inl v] M (fm_rv (bI (decide (0 ≤ v ∧ v < nI 4))) M) := by
  refine fm_of (ls := [some (.inl v)]) (by decide) wsA_good (Nat.le_of_ble_eq_true rfl) rfl (fun X hX => ?_)
  show fm_G SC Y_E_isVariable X M (fm_rv (bI (decide (0 ≤ v ∧ v < nI 4))) M) 0 [some (.inl v)] [] M
  refine fm_iload_n hX d_E_isVariable_0 rfl rfl rfl ?_
  refine fm_if_lt (tgt := 13) (pq := 4) hX d_E_isVariable_1 rfl rfl (fun h1 => ?_) (fun h1 => ?_)
  · show fm_G SC Y_E_isVariable X M (fm_rv (bI (decide (0 ≤ v ∧ v < nI 4))) M) 13 [some (.inl v)] [] M
    refine fm_iconst (v := nI 0) hX d_E_isVariable_13 (by decide) rfl ?_
    refine fm_zret hX rfl (by decide) d_E_isVariable_14 ?_
    first | exact fm_rvi (fm_b1 ⟨Int32.not_lt.mp h1, Int32.not_le.mp h6⟩) | exact fm_rvi (fm_b0 (fun z => Int32.not_le.mpr z.2 h6)) | exact fm_rvi (fm_b0 (fun z => Int32.not_lt.mpr z.1 h1))
  · show fm_G SC Y_E_isVariable X M (fm_rv (bI (decide (0 ≤ v ∧ v < nI 4))) M) 4 [some (.inl v)] [] M
    refine fm_iload_n hX d_E_isVariable_4 rfl rfl rfl ?_
    refine fm_iconst (v := nI 4) hX d_E_isVariable_5 (by decide) rfl ?_
    refine fm_icmp_ge (tgt := 13) (pq := 9) hX d_E_isVariable_6 rfl rfl (fun h6 => ?_) (fun h6 => ?_)
    · show fm_G SC Y_E_isVariable X M (fm_rv (bI (decide (0 ≤ v ∧ v < nI 4))) M) 13 [some (.inl v)] [] M
      refine fm_iconst (v := nI 0) hX d_E_isVariable_13 (by decide) rfl ?_
      refine fm_zret hX rfl (by decide) d_E_isVariable_14 ?_
      first | exact fm_rvi (fm_b1 ⟨Int32.not_lt.mp h1, Int32.not_le.mp h6⟩) | exact fm_rvi (fm_b0 (fun z => Int32.not_le.mpr z.2 h6)) | exact fm_rvi (fm_b0 (fun z => Int32.not_lt.mpr z.1 h1))
    · show fm_G SC Y_E_isVariable X M (fm_rv (bI (decide (0 ≤ v ∧ v < nI 4))) M) 9 [some (.inl v)] [] M
      refine fm_iconst (v := nI 1) hX d_E_isVariable_9 (by decide) rfl ?_
      refine fm_goto (tgt := 14) hX d_E_isVariable_10 rfl ?_
      refine fm_zret hX rfl (by decide) d_E_isVariable_14 ?_
      first | exact fm_rvi (fm_b1 ⟨Int32.not_lt.mp h1, Int32.not_le.mp h6⟩) | exact fm_rvi (fm_b0 (fun z => Int32.not_le.mpr z.2 h6)) | exact fm_rvi (fm_b0 (fun z => Int32.not_lt.mpr z.1 h1))
abbrev Y_E_settle : fm_Y := ("EscapeMill", b_E_settle, 2, none, 6)
set_option maxRecDepth 100000 in
set_option maxHeartbeats 4000000 in
theorem k_E_settle {P : pr_T} (M : fm_M) (hP : cP M P) (hw : pr_wf P) (b : Bool) (hb : M 0 4 = bI b) (hT : b = false → cT P M) : fm_ct SC y_E_settle b_E_settle 2 none 6 [.inr 0] M (fm_vr (fun M' => cT P M' ∧ M' 0 4 = 0 ∧ cFr M M')) := by
  refine fm_of (ls := [some (.inr 0), none]) (by decide) wsA_good (Nat.le_of_ble_eq_true rfl) rfl (fun X hX => ?_)
  have L10 : ∀ d, d ≤ 5 → ∀ (v : Int32) (M1 : fm_M), ((d < 5 → v = nI (4 - d)) ∧ (d = 5 → v = -1)) → cD P d M M1 → fm_G SC Y_E_settle X M (fm_vr (fun M' => cT P M' ∧ M' 0 4 = 0 ∧ cFr M M')) 10 [some (.inr 0), some (.inl v)] [] M1 := by
    refine fm_ind 5 (fun d hle ih => ?_)
    intro v M1 hv hD
    have hP1 := cD_P hD hP
    obtain ⟨hf, S, hS⟩ := hD
    refine fm_iload_n hX d_E_settle_10 rfl rfl rfl ?_
    refine fm_if_lt (tgt := 58) (pq := 14) hX d_E_settle_11 rfl rfl (fun h11 => ?_) (fun h11 => ?_)
    · show fm_G SC Y_E_settle X M (fm_vr (fun M' => cT P M' ∧ M' 0 4 = 0 ∧ cFr M M')) 58 [some (.inr 0), some (.inl v)] [] M1
      refine fm_aload_n hX d_E_settle_58 rfl rfl rfl ?_
      refine fm_iconst (v := nI 0) hX d_E_settle_59 (by decide) rfl ?_
      refine fm_puti hX fE_34 pE_4 rfl rfl (by decide) (by decide) d_E_settle_60 rfl ?_
      refine fm_vret hX rfl d_E_settle_63 ?_
      have hd5 : d = 5 := by
        by_cases e : d = 5
        · exact e
        · rw [hv.1 (by omega)] at h11; exact absurd h11 (nI_pos (by omega))
      exact ⟨rfl, cD_e ⟨hf, S, hS⟩ hd5⟩
    · show fm_G SC Y_E_settle X M (fm_vr (fun M' => cT P M' ∧ M' 0 4 = 0 ∧ cFr M M')) 14 [some (.inr 0), some (.inl v)] [] M1
      have hd : d < 5 := by
        by_cases e : d = 5
        · rw [hv.2 e] at h11; exact absurd (by decide) h11
        · omega
      obtain rfl := hv.1 hd
      refine fm_aload_n hX d_E_settle_14 rfl rfl rfl ?_
      refine fm_getr (q := 2) hX fE_17 rfl rfl d_E_settle_15 rfl ?_
      refine fm_iload_n hX d_E_settle_18 rfl rfl rfl ?_
      refine fm_aald (q := kF (4 - d)) hX rfl (by decide) rfl rfl rfl (by omega) (by decide) (r_F (by omega)) d_E_settle_19 rfl ?_
      refine fm_aload_n hX d_E_settle_20 rfl rfl rfl ?_
      refine fm_getr (q := 1) hX fE_11 rfl rfl d_E_settle_21 rfl ?_
      refine fm_aload_n hX d_E_settle_24 rfl rfl rfl ?_
      refine fm_getr (q := 2) hX fE_17 rfl rfl d_E_settle_25 rfl ?_
      refine fm_iload_n hX d_E_settle_28 rfl rfl rfl ?_
      refine fm_callV_r (as := [.inr 1, .inr 2, .inl (nI (4 - d))]) (st := []) (pq := 32) hX (s_F (by omega)) rfl cE_117 rfl im_F_gather se_F_gather (k_F_gather (by omega) M1 hP1 hw S (fun n h1 h2 => (hS n (by omega) h2).2.1)) rfl rfl (Nat.le_of_ble_eq_true rfl) (Nat.le_of_ble_eq_true rfl) d_E_settle_29 rfl (fun M29 c29 => ?_)
      obtain ⟨σ, g1, g2, g3⟩ := c29
      have hP29 : cP M29 P := cP_cg hP1 (fun a j q => g3 a j (by obtain ⟨n, t, h1, h2, e⟩ := q; unfold cFa; omega))
      refine fm_aload_n hX d_E_settle_32 rfl rfl rfl ?_
      refine fm_getr (q := 3) hX fE_23 rfl rfl d_E_settle_33 rfl ?_
      refine fm_iload_n hX d_E_settle_36 rfl rfl rfl ?_
      refine fm_aald (q := kPl (4 - d)) hX rfl (by decide) rfl rfl rfl (by omega) (by decide) (r_P (by omega)) d_E_settle_37 rfl ?_
      refine fm_aload_n hX d_E_settle_38 rfl rfl rfl ?_
      refine fm_getr (q := 1) hX fE_11 rfl rfl d_E_settle_39 rfl ?_
      refine fm_aload_n hX d_E_settle_42 rfl rfl rfl ?_
      refine fm_getr (q := 2) hX fE_17 rfl rfl d_E_settle_43 rfl ?_
      refine fm_iload_n hX d_E_settle_46 rfl rfl rfl ?_
      refine fm_aald (q := kF (4 - d)) hX rfl (by decide) rfl rfl rfl (by omega) (by decide) (r_F (by omega)) d_E_settle_47 rfl ?_
      refine fm_iload_n hX d_E_settle_48 rfl rfl rfl ?_
      refine fm_callV_r (as := [.inr 1, .inr (kF (4 - d)), .inl (nI (4 - d))]) (st := []) (pq := 52) hX (s_P (by omega)) rfl cE_121 rfl im_P_draw se_P_draw (k_P_draw (by omega) M29 hP29 hw) rfl rfl (Nat.le_of_ble_eq_true rfl) (Nat.le_of_ble_eq_true rfl) d_E_settle_49 rfl (fun M49 c49 => ?_)
      refine fm_iinc (v := (nI (4 - d)) + Int32.ofInt (-1)) (ls1 := [some (.inr 0), some (.inl ((nI (4 - d)) + Int32.ofInt (-1)))]) hX d_E_settle_52 rfl rfl (by decide) rfl rfl ?_
      refine fm_goto (tgt := 10) hX d_E_settle_55 rfl ?_
      exact ih (by omega) _ _ ⟨fun z => fm_dec (by omega), fun z => by rw [show d = 4 by omega]; decide⟩ (cD_s hd hf hS g1 g2 g3 c49.1 c49.2)
  show fm_G SC Y_E_settle X M (fm_vr (fun M' => cT P M' ∧ M' 0 4 = 0 ∧ cFr M M')) 0 [some (.inr 0), none] [] M
  refine fm_aload_n hX d_E_settle_0 rfl rfl rfl ?_
  refine fm_geti (v := bI b) hX fE_34 rfl rfl hb d_E_settle_1 rfl ?_
  refine fm_b1_ne (tgt := 8) (pq := 7) hX d_E_settle_4 rfl rfl (fun h4 => ?_) (fun h4 => ?_)
  · show fm_G SC Y_E_settle X M (fm_vr (fun M' => cT P M' ∧ M' 0 4 = 0 ∧ cFr M M')) 8 [some (.inr 0), none] [] M
    refine fm_iconst (v := nI 4) hX d_E_settle_8 (by decide) rfl ?_
    refine fm_istore_n (ls1 := [some (.inr 0), some (.inl (nI 4))]) hX d_E_settle_9 rfl (by decide) rfl rfl ?_
    exact L10 0 (by omega) _ M ⟨fun _ => rfl, fun z => absurd z (by decide)⟩ cD_0
  · show fm_G SC Y_E_settle X M (fm_vr (fun M' => cT P M' ∧ M' 0 4 = 0 ∧ cFr M M')) 7 [some (.inr 0), none] [] M
    refine fm_vret hX rfl d_E_settle_7 ?_
    exact ⟨rfl, hT h4, by rw [hb, h4]; rfl, fun _ _ _ _ => rfl⟩
abbrev Y_E_length : fm_Y := ("EscapeMill", b_E_length, 2, (some .int), 2)
set_option maxRecDepth 100000 in
set_option maxHeartbeats 4000000 in
theorem k_E_length_y {P : pr_T} (M : fm_M) (hP : cP M P) (hw : pr_wf P) {m : Nat} (hm : m < 5) : fm_ct SC y_E_length b_E_length 2 (some .int) 2 [.inr 0, .inl (nI m)] M (fm_rv (nI (P.1 m)) M) := by
  refine fm_of (ls := [some (.inr 0), some (.inl (nI m))]) (by decide) wsA_good (Nat.le_of_ble_eq_true rfl) rfl (fun X hX => ?_)
  show fm_G SC Y_E_length X M (fm_rv (nI (P.1 m)) M) 0 [some (.inr 0), some (.inl (nI m))] [] M
  refine fm_iload_n hX d_E_length_0 rfl rfl rfl ?_
  refine fm_callS_i (as := [.inl (nI m)]) (st := []) (pq := 4) hX cE_41 st_E_isMethod (k_E_isMethod_y (m := m) (by omega) M) rfl rfl (Nat.le_of_ble_eq_true rfl) (Nat.le_of_ble_eq_true rfl) d_E_length_1 rfl ?_
  refine fm_z_eq (tgt := 19) (pq := 7) hX d_E_length_4 rfl rfl (by omega) (fun h4 => ?_) (fun h4 => ?_)
  · exact absurd h4 (by decide)
  · show fm_G SC Y_E_length X M (fm_rv (nI (P.1 m)) M) 7 [some (.inr 0), some (.inl (nI m))] [] M
    refine fm_aload_n hX d_E_length_7 rfl rfl rfl ?_
    refine fm_getr (q := 1) hX fE_11 rfl rfl d_E_length_8 rfl ?_
    refine fm_iload_n hX d_E_length_11 rfl rfl rfl ?_
    refine fm_aald (q := kC m) hX rfl (by decide) rfl rfl rfl (by omega) (by decide) (r_C (by omega)) d_E_length_12 rfl ?_
    refine fm_geti (v := nI (P.1 m)) hX fE_56 (s_C (by omega)) rfl (hP m (by omega)).1 d_E_length_13 rfl ?_
    refine fm_goto (tgt := 20) hX d_E_length_16 rfl ?_
    refine fm_iret hX rfl d_E_length_20 ?_
    exact fm_rvi rfl
set_option maxRecDepth 100000 in
set_option maxHeartbeats 4000000 in
theorem k_E_length_n (M : fm_M) (v : Int32) (hv : v < 0 ∨ nI 5 ≤ v) : fm_ct SC y_E_length b_E_length 2 (some .int) 2 [.inr 0, .inl v] M (fm_rv (-1) M) := by
  refine fm_of (ls := [some (.inr 0), some (.inl v)]) (by decide) wsA_good (Nat.le_of_ble_eq_true rfl) rfl (fun X hX => ?_)
  show fm_G SC Y_E_length X M (fm_rv (-1) M) 0 [some (.inr 0), some (.inl v)] [] M
  refine fm_iload_n hX d_E_length_0 rfl rfl rfl ?_
  refine fm_callS_i (as := [.inl v]) (st := []) (pq := 4) hX cE_41 st_E_isMethod (k_E_isMethod_n v hv M) rfl rfl (Nat.le_of_ble_eq_true rfl) (Nat.le_of_ble_eq_true rfl) d_E_length_1 rfl ?_
  refine fm_z_eq (tgt := 19) (pq := 7) hX d_E_length_4 rfl rfl (by omega) (fun h4 => ?_) (fun h4 => ?_)
  · show fm_G SC Y_E_length X M (fm_rv (-1) M) 19 [some (.inr 0), some (.inl v)] [] M
    refine fm_iconst (v := (-1)) hX d_E_length_19 (by decide) rfl ?_
    refine fm_iret hX rfl d_E_length_20 ?_
    exact fm_rvi rfl
  · exact absurd h4 (by decide)
abbrev Y_E_may : fm_Y := ("EscapeMill", b_E_may, 3, (some .int), 7)
set_option maxRecDepth 100000 in
set_option maxHeartbeats 4000000 in
theorem k_E_may_y {P : pr_T} (M : fm_M) (hP : cP M P) (hw : pr_wf P) (b : Bool) (hb : M 0 4 = bI b) (hT : b = false → cT P M) {m r : Nat} (hm : m < 5) (hr : r < 4) : fm_ct SC y_E_may b_E_may 3 (some .int) 7 [.inr 0, .inl (nI m), .inl (nI r)] M (fm_ir (fun v M' => cT P M' ∧ M' 0 4 = 0 ∧ cFr M M' ∧ v = M' (kFm m) r)) := by
  refine fm_of (ls := [some (.inr 0), some (.inl (nI m)), some (.inl (nI r))]) (by decide) wsA_good (Nat.le_of_ble_eq_true rfl) rfl (fun X hX => ?_)
  have wl := (hw m hm).1
  have wi := (hw m hm).2.1
  show fm_G SC Y_E_may X M (fm_ir (fun v M' => cT P M' ∧ M' 0 4 = 0 ∧ cFr M M' ∧ v = M' (kFm m) r)) 0 [some (.inr 0), some (.inl (nI m)), some (.inl (nI r))] [] M
  refine fm_iload_n hX d_E_may_0 rfl rfl rfl ?_
  refine fm_callS_i (as := [.inl (nI m)]) (st := []) (pq := 4) hX cE_41 st_E_isMethod (k_E_isMethod_y (m := m) (by omega) M) rfl rfl (Nat.le_of_ble_eq_true rfl) (Nat.le_of_ble_eq_true rfl) d_E_may_1 rfl ?_
  refine fm_z_eq (tgt := 16) (pq := 7) hX d_E_may_4 rfl rfl (by omega) (fun h4 => ?_) (fun h4 => ?_)
  · exact absurd h4 (by decide)
  · show fm_G SC Y_E_may X M (fm_ir (fun v M' => cT P M' ∧ M' 0 4 = 0 ∧ cFr M M' ∧ v = M' (kFm m) r)) 7 [some (.inr 0), some (.inl (nI m)), some (.inl (nI r))] [] M
    refine fm_iload_n hX d_E_may_7 rfl rfl rfl ?_
    refine fm_z_lt (tgt := 16) (pq := 11) hX d_E_may_8 rfl rfl (by omega) (fun h8 => ?_) (fun h8 => ?_)
    · exact absurd h8 (by omega)
    · show fm_G SC Y_E_may X M (fm_ir (fun v M' => cT P M' ∧ M' 0 4 = 0 ∧ cFr M M' ∧ v = M' (kFm m) r)) 11 [some (.inr 0), some (.inl (nI m)), some (.inl (nI r))] [] M
      refine fm_iload_n hX d_E_may_11 rfl rfl rfl ?_
      refine fm_iconst (v := nI 4) hX d_E_may_12 (by decide) rfl ?_
      refine fm_n_lt (tgt := 18) (pq := 16) hX d_E_may_13 rfl rfl (by omega) (by omega) (fun h13 => ?_) (fun h13 => ?_)
      · show fm_G SC Y_E_may X M (fm_ir (fun v M' => cT P M' ∧ M' 0 4 = 0 ∧ cFr M M' ∧ v = M' (kFm m) r)) 18 [some (.inr 0), some (.inl (nI m)), some (.inl (nI r))] [] M
        refine fm_aload_n hX d_E_may_18 rfl rfl rfl ?_
        refine fm_callV_r (as := []) (st := []) (pq := 22) hX rfl rfl cE_66 rfl im_E_settle se_E_settle (k_E_settle M hP hw b hb hT) rfl rfl (Nat.le_of_ble_eq_true rfl) (Nat.le_of_ble_eq_true rfl) d_E_may_19 rfl (fun M19 c19 => ?_)
        have hP19 : cP M19 P := cP_cg hP (fun a j q => c19.2.2 a j (Or.inr q) (by obtain ⟨n, t, h1, h2, e⟩ := q; omega))
        refine fm_aload_n hX d_E_may_22 rfl rfl rfl ?_
        refine fm_getr (q := 2) hX fE_17 rfl rfl d_E_may_23 rfl ?_
        refine fm_iload_n hX d_E_may_26 rfl rfl rfl ?_
        refine fm_aald (q := kF m) hX rfl (by decide) rfl rfl rfl (by omega) (by decide) (r_F (by omega)) d_E_may_27 rfl ?_
        refine fm_getr (q := kFm m) hX fE_111 (s_F (by omega)) rfl d_E_may_28 rfl ?_
        refine fm_iload_n hX d_E_may_31 rfl rfl rfl ?_
        refine fm_iald (v := M19 (kFm m) r) hX (s_Fm (by omega)) rfl rfl (by omega) (by decide) rfl d_E_may_32 rfl ?_
        refine fm_iret hX rfl d_E_may_33 ?_
        exact ⟨_, rfl, c19.1, c19.2.1, c19.2.2, rfl⟩
      · exact absurd hr h13
set_option maxRecDepth 100000 in
set_option maxHeartbeats 4000000 in
theorem k_E_may_n (M : fm_M) (v w : Int32) (hv : v < 0 ∨ nI 5 ≤ v) : fm_ct SC y_E_may b_E_may 3 (some .int) 7 [.inr 0, .inl v, .inl w] M (fm_rv (-1) M) := by
  refine fm_of (ls := [some (.inr 0), some (.inl v), some (.inl w)]) (by decide) wsA_good (Nat.le_of_ble_eq_true rfl) rfl (fun X hX => ?_)
  show fm_G SC Y_E_may X M (fm_rv (-1) M) 0 [some (.inr 0), some (.inl v), some (.inl w)] [] M
  refine fm_iload_n hX d_E_may_0 rfl rfl rfl ?_
  refine fm_callS_i (as := [.inl v]) (st := []) (pq := 4) hX cE_41 st_E_isMethod (k_E_isMethod_n v hv M) rfl rfl (Nat.le_of_ble_eq_true rfl) (Nat.le_of_ble_eq_true rfl) d_E_may_1 rfl ?_
  refine fm_z_eq (tgt := 16) (pq := 7) hX d_E_may_4 rfl rfl (by omega) (fun h4 => ?_) (fun h4 => ?_)
  · show fm_G SC Y_E_may X M (fm_rv (-1) M) 16 [some (.inr 0), some (.inl v), some (.inl w)] [] M
    refine fm_iconst (v := (-1)) hX d_E_may_16 (by decide) rfl ?_
    refine fm_iret hX rfl d_E_may_17 ?_
    exact fm_rvi rfl
  · exact absurd h4 (by decide)
set_option maxRecDepth 100000 in
set_option maxHeartbeats 4000000 in
theorem k_E_may_m (M : fm_M) {m : Nat} (hm : m < 5) (w : Int32) (hw0 : w < 0 ∨ nI 4 ≤ w) : fm_ct SC y_E_may b_E_may 3 (some .int) 7 [.inr 0, .inl (nI m), .inl w] M (fm_rv (-1) M) := by
  refine fm_of (ls := [some (.inr 0), some (.inl (nI m)), some (.inl w)]) (by decide) wsA_good (Nat.le_of_ble_eq_true rfl) rfl (fun X hX => ?_)
  show fm_G SC Y_E_may X M (fm_rv (-1) M) 0 [some (.inr 0), some (.inl (nI m)), some (.inl w)] [] M
  refine fm_iload_n hX d_E_may_0 rfl rfl rfl ?_
  refine fm_callS_i (as := [.inl (nI m)]) (st := []) (pq := 4) hX cE_41 st_E_isMethod (k_E_isMethod_y (m := m) (by omega) M) rfl rfl (Nat.le_of_ble_eq_true rfl) (Nat.le_of_ble_eq_true rfl) d_E_may_1 rfl ?_
  refine fm_z_eq (tgt := 16) (pq := 7) hX d_E_may_4 rfl rfl (by omega) (fun h4 => ?_) (fun h4 => ?_)
  · exact absurd h4 (by decide)
  · show fm_G SC Y_E_may X M (fm_rv (-1) M) 7 [some (.inr 0), some (.inl (nI m)), some (.inl w)] [] M
    refine fm_iload_n hX d_E_may_7 rfl rfl rfl ?_
    refine fm_if_lt (tgt := 16) (pq := 11) hX d_E_may_8 rfl rfl (fun h8 => ?_) (fun h8 => ?_)
    · show fm_G SC Y_E_may X M (fm_rv (-1) M) 16 [some (.inr 0), some (.inl (nI m)), some (.inl w)] [] M
      refine fm_iconst (v := (-1)) hX d_E_may_16 (by decide) rfl ?_
      refine fm_iret hX rfl d_E_may_17 ?_
      exact fm_rvi rfl
    · show fm_G SC Y_E_may X M (fm_rv (-1) M) 11 [some (.inr 0), some (.inl (nI m)), some (.inl w)] [] M
      refine fm_iload_n hX d_E_may_11 rfl rfl rfl ?_
      refine fm_iconst (v := nI 4) hX d_E_may_12 (by decide) rfl ?_
      refine fm_icmp_lt (tgt := 18) (pq := 16) hX d_E_may_13 rfl rfl (fun h13 => ?_) (fun h13 => ?_)
      · exact absurd h13 (Int32.not_lt.mpr (hw0.resolve_left h8))
      · show fm_G SC Y_E_may X M (fm_rv (-1) M) 16 [some (.inr 0), some (.inl (nI m)), some (.inl w)] [] M
        refine fm_iconst (v := (-1)) hX d_E_may_16 (by decide) rfl ?_
        refine fm_iret hX rfl d_E_may_17 ?_
        exact fm_rvi rfl
abbrev Y_E_summary : fm_Y := ("EscapeMill", b_E_summary, 3, (some .int), 7)
set_option maxRecDepth 100000 in
set_option maxHeartbeats 4000000 in
theorem k_E_summary_y {P : pr_T} (M : fm_M) (hP : cP M P) (hw : pr_wf P) (b : Bool) (hb : M 0 4 = bI b) (hT : b = false → cT P M) {m p : Nat} (hm : m < 5) (hp : p < P.2.1 m) : fm_ct SC y_E_summary b_E_summary 3 (some .int) 7 [.inr 0, .inl (nI m), .inl (nI p)] M (fm_ir (fun v M' => cT P M' ∧ M' 0 4 = 0 ∧ cFr M M' ∧ v = M' (kFs m) p)) := by
  refine fm_of (ls := [some (.inr 0), some (.inl (nI m)), some (.inl (nI p))]) (by decide) wsA_good (Nat.le_of_ble_eq_true rfl) rfl (fun X hX => ?_)
  have wl := (hw m hm).1
  have wi := (hw m hm).2.1
  show fm_G SC Y_E_summary X M (fm_ir (fun v M' => cT P M' ∧ M' 0 4 = 0 ∧ cFr M M' ∧ v = M' (kFs m) p)) 0 [some (.inr 0), some (.inl (nI m)), some (.inl (nI p))] [] M
  refine fm_iload_n hX d_E_summary_0 rfl rfl rfl ?_
  refine fm_callS_i (as := [.inl (nI m)]) (st := []) (pq := 4) hX cE_41 st_E_isMethod (k_E_isMethod_y (m := m) (by omega) M) rfl rfl (Nat.le_of_ble_eq_true rfl) (Nat.le_of_ble_eq_true rfl) d_E_summary_1 rfl ?_
  refine fm_z_eq (tgt := 24) (pq := 7) hX d_E_summary_4 rfl rfl (by omega) (fun h4 => ?_) (fun h4 => ?_)
  · exact absurd h4 (by decide)
  · show fm_G SC Y_E_summary X M (fm_ir (fun v M' => cT P M' ∧ M' 0 4 = 0 ∧ cFr M M' ∧ v = M' (kFs m) p)) 7 [some (.inr 0), some (.inl (nI m)), some (.inl (nI p))] [] M
    refine fm_iload_n hX d_E_summary_7 rfl rfl rfl ?_
    refine fm_z_lt (tgt := 24) (pq := 11) hX d_E_summary_8 rfl rfl (by omega) (fun h8 => ?_) (fun h8 => ?_)
    · exact absurd h8 (by omega)
    · show fm_G SC Y_E_summary X M (fm_ir (fun v M' => cT P M' ∧ M' 0 4 = 0 ∧ cFr M M' ∧ v = M' (kFs m) p)) 11 [some (.inr 0), some (.inl (nI m)), some (.inl (nI p))] [] M
      refine fm_iload_n hX d_E_summary_11 rfl rfl rfl ?_
      refine fm_aload_n hX d_E_summary_12 rfl rfl rfl ?_
      refine fm_getr (q := 1) hX fE_11 rfl rfl d_E_summary_13 rfl ?_
      refine fm_iload_n hX d_E_summary_16 rfl rfl rfl ?_
      refine fm_aald (q := kC m) hX rfl (by decide) rfl rfl rfl (by omega) (by decide) (r_C (by omega)) d_E_summary_17 rfl ?_
      refine fm_geti (v := nI (P.2.1 m)) hX fE_48 (s_C (by omega)) rfl (hP m (by omega)).2.1 d_E_summary_18 rfl ?_
      refine fm_n_lt (tgt := 26) (pq := 24) hX d_E_summary_21 rfl rfl (by omega) (by omega) (fun h21 => ?_) (fun h21 => ?_)
      · show fm_G SC Y_E_summary X M (fm_ir (fun v M' => cT P M' ∧ M' 0 4 = 0 ∧ cFr M M' ∧ v = M' (kFs m) p)) 26 [some (.inr 0), some (.inl (nI m)), some (.inl (nI p))] [] M
        refine fm_aload_n hX d_E_summary_26 rfl rfl rfl ?_
        refine fm_callV_r (as := []) (st := []) (pq := 30) hX rfl rfl cE_66 rfl im_E_settle se_E_settle (k_E_settle M hP hw b hb hT) rfl rfl (Nat.le_of_ble_eq_true rfl) (Nat.le_of_ble_eq_true rfl) d_E_summary_27 rfl (fun M27 c27 => ?_)
        have hP27 : cP M27 P := cP_cg hP (fun a j q => c27.2.2 a j (Or.inr q) (by obtain ⟨n, t, h1, h2, e⟩ := q; omega))
        refine fm_aload_n hX d_E_summary_30 rfl rfl rfl ?_
        refine fm_getr (q := 2) hX fE_17 rfl rfl d_E_summary_31 rfl ?_
        refine fm_iload_n hX d_E_summary_34 rfl rfl rfl ?_
        refine fm_aald (q := kF m) hX rfl (by decide) rfl rfl rfl (by omega) (by decide) (r_F (by omega)) d_E_summary_35 rfl ?_
        refine fm_getr (q := kFs m) hX fE_105 (s_F (by omega)) rfl d_E_summary_36 rfl ?_
        refine fm_iload_n hX d_E_summary_39 rfl rfl rfl ?_
        refine fm_iald (v := M27 (kFs m) p) hX (s_Fs (by omega)) rfl rfl (by omega) (by decide) rfl d_E_summary_40 rfl ?_
        refine fm_iret hX rfl d_E_summary_41 ?_
        exact ⟨_, rfl, c27.1, c27.2.1, c27.2.2, rfl⟩
      · exact absurd hp h21
set_option maxRecDepth 100000 in
set_option maxHeartbeats 4000000 in
theorem k_E_summary_n (M : fm_M) (v w : Int32) (hv : v < 0 ∨ nI 5 ≤ v) : fm_ct SC y_E_summary b_E_summary 3 (some .int) 7 [.inr 0, .inl v, .inl w] M (fm_rv (-1) M) := by
  refine fm_of (ls := [some (.inr 0), some (.inl v), some (.inl w)]) (by decide) wsA_good (Nat.le_of_ble_eq_true rfl) rfl (fun X hX => ?_)
  show fm_G SC Y_E_summary X M (fm_rv (-1) M) 0 [some (.inr 0), some (.inl v), some (.inl w)] [] M
  refine fm_iload_n hX d_E_summary_0 rfl rfl rfl ?_
  refine fm_callS_i (as := [.inl v]) (st := []) (pq := 4) hX cE_41 st_E_isMethod (k_E_isMethod_n v hv M) rfl rfl (Nat.le_of_ble_eq_true rfl) (Nat.le_of_ble_eq_true rfl) d_E_summary_1 rfl ?_
  refine fm_z_eq (tgt := 24) (pq := 7) hX d_E_summary_4 rfl rfl (by omega) (fun h4 => ?_) (fun h4 => ?_)
  · show fm_G SC Y_E_summary X M (fm_rv (-1) M) 24 [some (.inr 0), some (.inl v), some (.inl w)] [] M
    refine fm_iconst (v := (-1)) hX d_E_summary_24 (by decide) rfl ?_
    refine fm_iret hX rfl d_E_summary_25 ?_
    exact fm_rvi rfl
  · exact absurd h4 (by decide)
set_option maxRecDepth 100000 in
set_option maxHeartbeats 4000000 in
theorem k_E_summary_m {P : pr_T} (M : fm_M) (hP : cP M P) (hw : pr_wf P) {m : Nat} (hm : m < 5) (w : Int32) (hw0 : w < 0 ∨ nI (P.2.1 m) ≤ w) : fm_ct SC y_E_summary b_E_summary 3 (some .int) 7 [.inr 0, .inl (nI m), .inl w] M (fm_rv (-1) M) := by
  refine fm_of (ls := [some (.inr 0), some (.inl (nI m)), some (.inl w)]) (by decide) wsA_good (Nat.le_of_ble_eq_true rfl) rfl (fun X hX => ?_)
  show fm_G SC Y_E_summary X M (fm_rv (-1) M) 0 [some (.inr 0), some (.inl (nI m)), some (.inl w)] [] M
  refine fm_iload_n hX d_E_summary_0 rfl rfl rfl ?_
  refine fm_callS_i (as := [.inl (nI m)]) (st := []) (pq := 4) hX cE_41 st_E_isMethod (k_E_isMethod_y (m := m) (by omega) M) rfl rfl (Nat.le_of_ble_eq_true rfl) (Nat.le_of_ble_eq_true rfl) d_E_summary_1 rfl ?_
  refine fm_z_eq (tgt := 24) (pq := 7) hX d_E_summary_4 rfl rfl (by omega) (fun h4 => ?_) (fun h4 => ?_)
  · exact absurd h4 (by decide)
  · show fm_G SC Y_E_summary X M (fm_rv (-1) M) 7 [some (.inr 0), some (.inl (nI m)), some (.inl w)] [] M
    refine fm_iload_n hX d_E_summary_7 rfl rfl rfl ?_
    refine fm_if_lt (tgt := 24) (pq := 11) hX d_E_summary_8 rfl rfl (fun h8 => ?_) (fun h8 => ?_)
    · show fm_G SC Y_E_summary X M (fm_rv (-1) M) 24 [some (.inr 0), some (.inl (nI m)), some (.inl w)] [] M
      refine fm_iconst (v := (-1)) hX d_E_summary_24 (by decide) rfl ?_
      refine fm_iret hX rfl d_E_summary_25 ?_
      exact fm_rvi rfl
    · show fm_G SC Y_E_summary X M (fm_rv (-1) M) 11 [some (.inr 0), some (.inl (nI m)), some (.inl w)] [] M
      refine fm_iload_n hX d_E_summary_11 rfl rfl rfl ?_
      refine fm_aload_n hX d_E_summary_12 rfl rfl rfl ?_
      refine fm_getr (q := 1) hX fE_11 rfl rfl d_E_summary_13 rfl ?_
      refine fm_iload_n hX d_E_summary_16 rfl rfl rfl ?_
      refine fm_aald (q := kC m) hX rfl (by decide) rfl rfl rfl (by omega) (by decide) (r_C (by omega)) d_E_summary_17 rfl ?_
      refine fm_geti (v := nI (P.2.1 m)) hX fE_48 (s_C (by omega)) rfl (hP m (by omega)).2.1 d_E_summary_18 rfl ?_
      refine fm_icmp_lt (tgt := 26) (pq := 24) hX d_E_summary_21 rfl rfl (fun h21 => ?_) (fun h21 => ?_)
      · exact absurd h21 (Int32.not_lt.mpr (hw0.resolve_left h8))
      · show fm_G SC Y_E_summary X M (fm_rv (-1) M) 24 [some (.inr 0), some (.inl (nI m)), some (.inl w)] [] M
        refine fm_iconst (v := (-1)) hX d_E_summary_24 (by decide) rfl ?_
        refine fm_iret hX rfl d_E_summary_25 ?_
        exact fm_rvi rfl
abbrev Y_E_fate : fm_Y := ("EscapeMill", b_E_fate, 3, (some .int), 7)
set_option maxRecDepth 100000 in
set_option maxHeartbeats 4000000 in
theorem k_E_fate_y {P : pr_T} (M : fm_M) (hP : cP M P) (hw : pr_wf P) (b : Bool) (hb : M 0 4 = bI b) (hT : b = false → cT P M) {m i : Nat} (hm : m < 5) (hi : i < P.1 m) : fm_ct SC y_E_fate b_E_fate 3 (some .int) 7 [.inr 0, .inl (nI m), .inl (nI i)] M (fm_ir (fun v M' => cT P M' ∧ M' 0 4 = 0 ∧ cFr M M' ∧ v = M' (kPf m) i)) := by
  refine fm_of (ls := [some (.inr 0), some (.inl (nI m)), some (.inl (nI i))]) (by decide) wsA_good (Nat.le_of_ble_eq_true rfl) rfl (fun X hX => ?_)
  have wl := (hw m hm).1
  have wi := (hw m hm).2.1
  show fm_G SC Y_E_fate X M (fm_ir (fun v M' => cT P M' ∧ M' 0 4 = 0 ∧ cFr M M' ∧ v = M' (kPf m) i)) 0 [some (.inr 0), some (.inl (nI m)), some (.inl (nI i))] [] M
  refine fm_iload_n hX d_E_fate_0 rfl rfl rfl ?_
  refine fm_callS_i (as := [.inl (nI m)]) (st := []) (pq := 4) hX cE_41 st_E_isMethod (k_E_isMethod_y (m := m) (by omega) M) rfl rfl (Nat.le_of_ble_eq_true rfl) (Nat.le_of_ble_eq_true rfl) d_E_fate_1 rfl ?_
  refine fm_z_eq (tgt := 20) (pq := 7) hX d_E_fate_4 rfl rfl (by omega) (fun h4 => ?_) (fun h4 => ?_)
  · exact absurd h4 (by decide)
  · show fm_G SC Y_E_fate X M (fm_ir (fun v M' => cT P M' ∧ M' 0 4 = 0 ∧ cFr M M' ∧ v = M' (kPf m) i)) 7 [some (.inr 0), some (.inl (nI m)), some (.inl (nI i))] [] M
    refine fm_aload_n hX d_E_fate_7 rfl rfl rfl ?_
    refine fm_getr (q := 1) hX fE_11 rfl rfl d_E_fate_8 rfl ?_
    refine fm_iload_n hX d_E_fate_11 rfl rfl rfl ?_
    refine fm_aald (q := kC m) hX rfl (by decide) rfl rfl rfl (by omega) (by decide) (r_C (by omega)) d_E_fate_12 rfl ?_
    refine fm_iload_n hX d_E_fate_13 rfl rfl rfl ?_
    refine fm_callV_i (as := [.inl (nI i)]) (st := []) (pq := 17) hX (s_C (by omega)) rfl cE_95 rfl im_C_has se_C_has (k_C_has (by omega) M hP hw (nI i)) rfl rfl (Nat.le_of_ble_eq_true rfl) (Nat.le_of_ble_eq_true rfl) d_E_fate_14 rfl ?_
    refine fm_p1_ne (tgt := 22) (pq := 20) hX d_E_fate_17 rfl rfl (fun h17 => ?_) (fun h17 => ?_)
    · show fm_G SC Y_E_fate X M (fm_ir (fun v M' => cT P M' ∧ M' 0 4 = 0 ∧ cFr M M' ∧ v = M' (kPf m) i)) 22 [some (.inr 0), some (.inl (nI m)), some (.inl (nI i))] [] M
      refine fm_aload_n hX d_E_fate_22 rfl rfl rfl ?_
      refine fm_callV_r (as := []) (st := []) (pq := 26) hX rfl rfl cE_66 rfl im_E_settle se_E_settle (k_E_settle M hP hw b hb hT) rfl rfl (Nat.le_of_ble_eq_true rfl) (Nat.le_of_ble_eq_true rfl) d_E_fate_23 rfl (fun M23 c23 => ?_)
      have hP23 : cP M23 P := cP_cg hP (fun a j q => c23.2.2 a j (Or.inr q) (by obtain ⟨n, t, h1, h2, e⟩ := q; omega))
      refine fm_aload_n hX d_E_fate_26 rfl rfl rfl ?_
      refine fm_getr (q := 3) hX fE_23 rfl rfl d_E_fate_27 rfl ?_
      refine fm_iload_n hX d_E_fate_30 rfl rfl rfl ?_
      refine fm_aald (q := kPl m) hX rfl (by decide) rfl rfl rfl (by omega) (by decide) (r_P (by omega)) d_E_fate_31 rfl ?_
      refine fm_getr (q := kPf m) hX fE_108 (s_P (by omega)) rfl d_E_fate_32 rfl ?_
      refine fm_iload_n hX d_E_fate_35 rfl rfl rfl ?_
      refine fm_iald (v := M23 (kPf m) i) hX (s_Pf (by omega)) rfl rfl (by omega) (by decide) rfl d_E_fate_36 rfl ?_
      refine fm_iret hX rfl d_E_fate_37 ?_
      exact ⟨_, rfl, c23.1, c23.2.1, c23.2.2, rfl⟩
    · exact absurd ⟨nI_pos' (by omega), nI_lt hi (by omega)⟩ h17
set_option maxRecDepth 100000 in
set_option maxHeartbeats 4000000 in
theorem k_E_fate_n (M : fm_M) (v w : Int32) (hv : v < 0 ∨ nI 5 ≤ v) : fm_ct SC y_E_fate b_E_fate 3 (some .int) 7 [.inr 0, .inl v, .inl w] M (fm_rv (-1) M) := by
  refine fm_of (ls := [some (.inr 0), some (.inl v), some (.inl w)]) (by decide) wsA_good (Nat.le_of_ble_eq_true rfl) rfl (fun X hX => ?_)
  show fm_G SC Y_E_fate X M (fm_rv (-1) M) 0 [some (.inr 0), some (.inl v), some (.inl w)] [] M
  refine fm_iload_n hX d_E_fate_0 rfl rfl rfl ?_
  refine fm_callS_i (as := [.inl v]) (st := []) (pq := 4) hX cE_41 st_E_isMethod (k_E_isMethod_n v hv M) rfl rfl (Nat.le_of_ble_eq_true rfl) (Nat.le_of_ble_eq_true rfl) d_E_fate_1 rfl ?_
  refine fm_z_eq (tgt := 20) (pq := 7) hX d_E_fate_4 rfl rfl (by omega) (fun h4 => ?_) (fun h4 => ?_)
  · show fm_G SC Y_E_fate X M (fm_rv (-1) M) 20 [some (.inr 0), some (.inl v), some (.inl w)] [] M
    refine fm_iconst (v := (-1)) hX d_E_fate_20 (by decide) rfl ?_
    refine fm_iret hX rfl d_E_fate_21 ?_
    exact fm_rvi rfl
  · exact absurd h4 (by decide)
set_option maxRecDepth 100000 in
set_option maxHeartbeats 4000000 in
theorem k_E_fate_m {P : pr_T} (M : fm_M) (hP : cP M P) (hw : pr_wf P) {m : Nat} (hm : m < 5) (w : Int32) (hw0 : ¬ (0 ≤ w ∧ w < nI (P.1 m))) : fm_ct SC y_E_fate b_E_fate 3 (some .int) 7 [.inr 0, .inl (nI m), .inl w] M (fm_rv (-1) M) := by
  refine fm_of (ls := [some (.inr 0), some (.inl (nI m)), some (.inl w)]) (by decide) wsA_good (Nat.le_of_ble_eq_true rfl) rfl (fun X hX => ?_)
  show fm_G SC Y_E_fate X M (fm_rv (-1) M) 0 [some (.inr 0), some (.inl (nI m)), some (.inl w)] [] M
  refine fm_iload_n hX d_E_fate_0 rfl rfl rfl ?_
  refine fm_callS_i (as := [.inl (nI m)]) (st := []) (pq := 4) hX cE_41 st_E_isMethod (k_E_isMethod_y (m := m) (by omega) M) rfl rfl (Nat.le_of_ble_eq_true rfl) (Nat.le_of_ble_eq_true rfl) d_E_fate_1 rfl ?_
  refine fm_z_eq (tgt := 20) (pq := 7) hX d_E_fate_4 rfl rfl (by omega) (fun h4 => ?_) (fun h4 => ?_)
  · exact absurd h4 (by decide)
  · show fm_G SC Y_E_fate X M (fm_rv (-1) M) 7 [some (.inr 0), some (.inl (nI m)), some (.inl w)] [] M
    refine fm_aload_n hX d_E_fate_7 rfl rfl rfl ?_
    refine fm_getr (q := 1) hX fE_11 rfl rfl d_E_fate_8 rfl ?_
    refine fm_iload_n hX d_E_fate_11 rfl rfl rfl ?_
    refine fm_aald (q := kC m) hX rfl (by decide) rfl rfl rfl (by omega) (by decide) (r_C (by omega)) d_E_fate_12 rfl ?_
    refine fm_iload_n hX d_E_fate_13 rfl rfl rfl ?_
    refine fm_callV_i (as := [.inl w]) (st := []) (pq := 17) hX (s_C (by omega)) rfl cE_95 rfl im_C_has se_C_has (k_C_has (by omega) M hP hw w) rfl rfl (Nat.le_of_ble_eq_true rfl) (Nat.le_of_ble_eq_true rfl) d_E_fate_14 rfl ?_
    refine fm_p1_ne (tgt := 22) (pq := 20) hX d_E_fate_17 rfl rfl (fun h17 => ?_) (fun h17 => ?_)
    · exact absurd h17 hw0
    · show fm_G SC Y_E_fate X M (fm_rv (-1) M) 20 [some (.inr 0), some (.inl (nI m)), some (.inl w)] [] M
      refine fm_iconst (v := (-1)) hX d_E_fate_20 (by decide) rfl ?_
      refine fm_iret hX rfl d_E_fate_21 ?_
      exact fm_rvi rfl
abbrev Y_E_escape : fm_Y := ("EscapeMill", b_E_escape, 3, (some .int), 7)
set_option maxRecDepth 100000 in
set_option maxHeartbeats 4000000 in
theorem k_E_escape_y {P : pr_T} (M : fm_M) (hP : cP M P) (hw : pr_wf P) (b : Bool) (hb : M 0 4 = bI b) (hT : b = false → cT P M) {m i : Nat} (hm : m < 5) (hi : i < P.1 m) (ho : (P.2.2 m i).1 = 0) : fm_ct SC y_E_escape b_E_escape 3 (some .int) 7 [.inr 0, .inl (nI m), .inl (nI i)] M (fm_ir (fun v M' => cT P M' ∧ M' 0 4 = 0 ∧ cFr M M' ∧ v = (if bt (M' (kF m) 5) i = true then 2 else if bt (M' (kF m) 6) i = true then 1 else 0))) := by
  refine fm_of (ls := [some (.inr 0), some (.inl (nI m)), some (.inl (nI i))]) (by decide) wsA_good (Nat.le_of_ble_eq_true rfl) rfl (fun X hX => ?_)
  have wl := (hw m hm).1
  have wi := (hw m hm).2.1
  show fm_G SC Y_E_escape X M (fm_ir (fun v M' => cT P M' ∧ M' 0 4 = 0 ∧ cFr M M' ∧ v = (if bt (M' (kF m) 5) i = true then 2 else if bt (M' (kF m) 6) i = true then 1 else 0))) 0 [some (.inr 0), some (.inl (nI m)), some (.inl (nI i))] [] M
  refine fm_iload_n hX d_E_escape_0 rfl rfl rfl ?_
  refine fm_callS_i (as := [.inl (nI m)]) (st := []) (pq := 4) hX cE_41 st_E_isMethod (k_E_isMethod_y (m := m) (by omega) M) rfl rfl (Nat.le_of_ble_eq_true rfl) (Nat.le_of_ble_eq_true rfl) d_E_escape_1 rfl ?_
  refine fm_z_eq (tgt := 34) (pq := 7) hX d_E_escape_4 rfl rfl (by omega) (fun h4 => ?_) (fun h4 => ?_)
  · exact absurd h4 (by decide)
  · show fm_G SC Y_E_escape X M (fm_ir (fun v M' => cT P M' ∧ M' 0 4 = 0 ∧ cFr M M' ∧ v = (if bt (M' (kF m) 5) i = true then 2 else if bt (M' (kF m) 6) i = true then 1 else 0))) 7 [some (.inr 0), some (.inl (nI m)), some (.inl (nI i))] [] M
    refine fm_aload_n hX d_E_escape_7 rfl rfl rfl ?_
    refine fm_getr (q := 1) hX fE_11 rfl rfl d_E_escape_8 rfl ?_
    refine fm_iload_n hX d_E_escape_11 rfl rfl rfl ?_
    refine fm_aald (q := kC m) hX rfl (by decide) rfl rfl rfl (by omega) (by decide) (r_C (by omega)) d_E_escape_12 rfl ?_
    refine fm_iload_n hX d_E_escape_13 rfl rfl rfl ?_
    refine fm_callV_i (as := [.inl (nI i)]) (st := []) (pq := 17) hX (s_C (by omega)) rfl cE_95 rfl im_C_has se_C_has (k_C_has (by omega) M hP hw (nI i)) rfl rfl (Nat.le_of_ble_eq_true rfl) (Nat.le_of_ble_eq_true rfl) d_E_escape_14 rfl ?_
    refine fm_p1_eq (tgt := 34) (pq := 20) hX d_E_escape_17 rfl rfl (fun h17 => ?_) (fun h17 => ?_)
    · exact absurd ⟨nI_pos' (by omega), nI_lt hi (by omega)⟩ h17
    · show fm_G SC Y_E_escape X M (fm_ir (fun v M' => cT P M' ∧ M' 0 4 = 0 ∧ cFr M M' ∧ v = (if bt (M' (kF m) 5) i = true then 2 else if bt (M' (kF m) 6) i = true then 1 else 0))) 20 [some (.inr 0), some (.inl (nI m)), some (.inl (nI i))] [] M
      refine fm_aload_n hX d_E_escape_20 rfl rfl rfl ?_
      refine fm_getr (q := 1) hX fE_11 rfl rfl d_E_escape_21 rfl ?_
      refine fm_iload_n hX d_E_escape_24 rfl rfl rfl ?_
      refine fm_aald (q := kC m) hX rfl (by decide) rfl rfl rfl (by omega) (by decide) (r_C (by omega)) d_E_escape_25 rfl ?_
      refine fm_getr (q := kCa m 0) hX fE_98 (s_C (by omega)) rfl d_E_escape_26 rfl ?_
      refine fm_iload_n hX d_E_escape_29 rfl rfl rfl ?_
      refine fm_iald (v := nI ((P.2.2 m i).1)) hX (s_Ca0 (by omega)) rfl rfl (by omega) (by decide) ((hP m (by omega)).2.2 i (by omega)).1 d_E_escape_30 rfl ?_
      refine fm_z_eq (tgt := 36) (pq := 34) hX d_E_escape_31 rfl rfl (by omega) (fun h31 => ?_) (fun h31 => ?_)
      · show fm_G SC Y_E_escape X M (fm_ir (fun v M' => cT P M' ∧ M' 0 4 = 0 ∧ cFr M M' ∧ v = (if bt (M' (kF m) 5) i = true then 2 else if bt (M' (kF m) 6) i = true then 1 else 0))) 36 [some (.inr 0), some (.inl (nI m)), some (.inl (nI i))] [] M
        refine fm_aload_n hX d_E_escape_36 rfl rfl rfl ?_
        refine fm_callV_r (as := []) (st := []) (pq := 40) hX rfl rfl cE_66 rfl im_E_settle se_E_settle (k_E_settle M hP hw b hb hT) rfl rfl (Nat.le_of_ble_eq_true rfl) (Nat.le_of_ble_eq_true rfl) d_E_escape_37 rfl (fun M37 c37 => ?_)
        have hP37 : cP M37 P := cP_cg hP (fun a j q => c37.2.2 a j (Or.inr q) (by obtain ⟨n, t, h1, h2, e⟩ := q; omega))
        refine fm_aload_n hX d_E_escape_40 rfl rfl rfl ?_
        refine fm_getr (q := 2) hX fE_17 rfl rfl d_E_escape_41 rfl ?_
        refine fm_iload_n hX d_E_escape_44 rfl rfl rfl ?_
        refine fm_aald (q := kF m) hX rfl (by decide) rfl rfl rfl (by omega) (by decide) (r_F (by omega)) d_E_escape_45 rfl ?_
        refine fm_iload_n hX d_E_escape_46 rfl rfl rfl ?_
        refine fm_callV_i (as := [.inl (nI i)]) (st := []) (pq := 50) hX (s_F (by omega)) rfl cE_101 rfl im_F_escapeOf se_F_escapeOf (k_F_escapeOf (by omega) M37 (i := i) (by omega)) rfl rfl (Nat.le_of_ble_eq_true rfl) (Nat.le_of_ble_eq_true rfl) d_E_escape_47 rfl ?_
        refine fm_iret hX rfl d_E_escape_50 ?_
        exact ⟨_, rfl, c37.1, c37.2.1, c37.2.2, rfl⟩
      · exact absurd ho h31
set_option maxRecDepth 100000 in
set_option maxHeartbeats 4000000 in
theorem k_E_escape_n (M : fm_M) (v w : Int32) (hv : v < 0 ∨ nI 5 ≤ v) : fm_ct SC y_E_escape b_E_escape 3 (some .int) 7 [.inr 0, .inl v, .inl w] M (fm_rv (-1) M) := by
  refine fm_of (ls := [some (.inr 0), some (.inl v), some (.inl w)]) (by decide) wsA_good (Nat.le_of_ble_eq_true rfl) rfl (fun X hX => ?_)
  show fm_G SC Y_E_escape X M (fm_rv (-1) M) 0 [some (.inr 0), some (.inl v), some (.inl w)] [] M
  refine fm_iload_n hX d_E_escape_0 rfl rfl rfl ?_
  refine fm_callS_i (as := [.inl v]) (st := []) (pq := 4) hX cE_41 st_E_isMethod (k_E_isMethod_n v hv M) rfl rfl (Nat.le_of_ble_eq_true rfl) (Nat.le_of_ble_eq_true rfl) d_E_escape_1 rfl ?_
  refine fm_z_eq (tgt := 34) (pq := 7) hX d_E_escape_4 rfl rfl (by omega) (fun h4 => ?_) (fun h4 => ?_)
  · show fm_G SC Y_E_escape X M (fm_rv (-1) M) 34 [some (.inr 0), some (.inl v), some (.inl w)] [] M
    refine fm_iconst (v := (-1)) hX d_E_escape_34 (by decide) rfl ?_
    refine fm_iret hX rfl d_E_escape_35 ?_
    exact fm_rvi rfl
  · exact absurd h4 (by decide)
set_option maxRecDepth 100000 in
set_option maxHeartbeats 4000000 in
theorem k_E_escape_m {P : pr_T} (M : fm_M) (hP : cP M P) (hw : pr_wf P) {m : Nat} (hm : m < 5) (w : Int32) (hw0 : ¬ (0 ≤ w ∧ w < nI (P.1 m))) : fm_ct SC y_E_escape b_E_escape 3 (some .int) 7 [.inr 0, .inl (nI m), .inl w] M (fm_rv (-1) M) := by
  refine fm_of (ls := [some (.inr 0), some (.inl (nI m)), some (.inl w)]) (by decide) wsA_good (Nat.le_of_ble_eq_true rfl) rfl (fun X hX => ?_)
  show fm_G SC Y_E_escape X M (fm_rv (-1) M) 0 [some (.inr 0), some (.inl (nI m)), some (.inl w)] [] M
  refine fm_iload_n hX d_E_escape_0 rfl rfl rfl ?_
  refine fm_callS_i (as := [.inl (nI m)]) (st := []) (pq := 4) hX cE_41 st_E_isMethod (k_E_isMethod_y (m := m) (by omega) M) rfl rfl (Nat.le_of_ble_eq_true rfl) (Nat.le_of_ble_eq_true rfl) d_E_escape_1 rfl ?_
  refine fm_z_eq (tgt := 34) (pq := 7) hX d_E_escape_4 rfl rfl (by omega) (fun h4 => ?_) (fun h4 => ?_)
  · exact absurd h4 (by decide)
  · show fm_G SC Y_E_escape X M (fm_rv (-1) M) 7 [some (.inr 0), some (.inl (nI m)), some (.inl w)] [] M
    refine fm_aload_n hX d_E_escape_7 rfl rfl rfl ?_
    refine fm_getr (q := 1) hX fE_11 rfl rfl d_E_escape_8 rfl ?_
    refine fm_iload_n hX d_E_escape_11 rfl rfl rfl ?_
    refine fm_aald (q := kC m) hX rfl (by decide) rfl rfl rfl (by omega) (by decide) (r_C (by omega)) d_E_escape_12 rfl ?_
    refine fm_iload_n hX d_E_escape_13 rfl rfl rfl ?_
    refine fm_callV_i (as := [.inl w]) (st := []) (pq := 17) hX (s_C (by omega)) rfl cE_95 rfl im_C_has se_C_has (k_C_has (by omega) M hP hw w) rfl rfl (Nat.le_of_ble_eq_true rfl) (Nat.le_of_ble_eq_true rfl) d_E_escape_14 rfl ?_
    refine fm_p1_eq (tgt := 34) (pq := 20) hX d_E_escape_17 rfl rfl (fun h17 => ?_) (fun h17 => ?_)
    · show fm_G SC Y_E_escape X M (fm_rv (-1) M) 34 [some (.inr 0), some (.inl (nI m)), some (.inl w)] [] M
      refine fm_iconst (v := (-1)) hX d_E_escape_34 (by decide) rfl ?_
      refine fm_iret hX rfl d_E_escape_35 ?_
      exact fm_rvi rfl
    · exact absurd h17 hw0
set_option maxRecDepth 100000 in
set_option maxHeartbeats 4000000 in
theorem k_E_escape_o {P : pr_T} (M : fm_M) (hP : cP M P) (hw : pr_wf P) {m i : Nat} (hm : m < 5) (hi : i < P.1 m) (ho : (P.2.2 m i).1 ≠ 0) : fm_ct SC y_E_escape b_E_escape 3 (some .int) 7 [.inr 0, .inl (nI m), .inl (nI i)] M (fm_rv (-1) M) := by
  refine fm_of (ls := [some (.inr 0), some (.inl (nI m)), some (.inl (nI i))]) (by decide) wsA_good (Nat.le_of_ble_eq_true rfl) rfl (fun X hX => ?_)
  obtain ⟨wl, wi, wI⟩ := hw m hm
  obtain ⟨w1, w2, w3, w4, w5, w6⟩ := wI i hi
  show fm_G SC Y_E_escape X M (fm_rv (-1) M) 0 [some (.inr 0), some (.inl (nI m)), some (.inl (nI i))] [] M
  refine fm_iload_n hX d_E_escape_0 rfl rfl rfl ?_
  refine fm_callS_i (as := [.inl (nI m)]) (st := []) (pq := 4) hX cE_41 st_E_isMethod (k_E_isMethod_y (m := m) (by omega) M) rfl rfl (Nat.le_of_ble_eq_true rfl) (Nat.le_of_ble_eq_true rfl) d_E_escape_1 rfl ?_
  refine fm_z_eq (tgt := 34) (pq := 7) hX d_E_escape_4 rfl rfl (by omega) (fun h4 => ?_) (fun h4 => ?_)
  · exact absurd h4 (by decide)
  · show fm_G SC Y_E_escape X M (fm_rv (-1) M) 7 [some (.inr 0), some (.inl (nI m)), some (.inl (nI i))] [] M
    refine fm_aload_n hX d_E_escape_7 rfl rfl rfl ?_
    refine fm_getr (q := 1) hX fE_11 rfl rfl d_E_escape_8 rfl ?_
    refine fm_iload_n hX d_E_escape_11 rfl rfl rfl ?_
    refine fm_aald (q := kC m) hX rfl (by decide) rfl rfl rfl (by omega) (by decide) (r_C (by omega)) d_E_escape_12 rfl ?_
    refine fm_iload_n hX d_E_escape_13 rfl rfl rfl ?_
    refine fm_callV_i (as := [.inl (nI i)]) (st := []) (pq := 17) hX (s_C (by omega)) rfl cE_95 rfl im_C_has se_C_has (k_C_has (by omega) M hP hw (nI i)) rfl rfl (Nat.le_of_ble_eq_true rfl) (Nat.le_of_ble_eq_true rfl) d_E_escape_14 rfl ?_
    refine fm_p1_eq (tgt := 34) (pq := 20) hX d_E_escape_17 rfl rfl (fun h17 => ?_) (fun h17 => ?_)
    · exact absurd ⟨nI_pos' (by omega), nI_lt hi (by omega)⟩ h17
    · show fm_G SC Y_E_escape X M (fm_rv (-1) M) 20 [some (.inr 0), some (.inl (nI m)), some (.inl (nI i))] [] M
      refine fm_aload_n hX d_E_escape_20 rfl rfl rfl ?_
      refine fm_getr (q := 1) hX fE_11 rfl rfl d_E_escape_21 rfl ?_
      refine fm_iload_n hX d_E_escape_24 rfl rfl rfl ?_
      refine fm_aald (q := kC m) hX rfl (by decide) rfl rfl rfl (by omega) (by decide) (r_C (by omega)) d_E_escape_25 rfl ?_
      refine fm_getr (q := kCa m 0) hX fE_98 (s_C (by omega)) rfl d_E_escape_26 rfl ?_
      refine fm_iload_n hX d_E_escape_29 rfl rfl rfl ?_
      refine fm_iald (v := nI ((P.2.2 m i).1)) hX (s_Ca0 (by omega)) rfl rfl (by omega) (by decide) ((hP m (by omega)).2.2 i (by omega)).1 d_E_escape_30 rfl ?_
      refine fm_z_eq (tgt := 36) (pq := 34) hX d_E_escape_31 rfl rfl (by omega) (fun h31 => ?_) (fun h31 => ?_)
      · exact absurd h31 ho
      · show fm_G SC Y_E_escape X M (fm_rv (-1) M) 34 [some (.inr 0), some (.inl (nI m)), some (.inl (nI i))] [] M
        refine fm_iconst (v := (-1)) hX d_E_escape_34 (by decide) rfl ?_
        refine fm_iret hX rfl d_E_escape_35 ?_
        exact fm_rvi rfl
