/-! what is asked of the reference from outside (written by program) -/
def qI (P : pr_T) (v w : Int32) (m i : Nat) : Prop := m < 5 ∧ i < P.1 m ∧ v = nI m ∧ w = nI i
theorem nI_uq {a b : Nat} (ha : a < 5) (hb : b < 5) (h : nI a = nI b) : a = b := (nI_eq (by omega) (by omega)).mp h
theorem qI_m {P : pr_T} {v w : Int32} {m i a : Nat} (h : qI P v w m i) (ha : a < 5) (e : v = nI a) : a = m := (nI_eq (by omega) (by have := h.1; omega)).mp (e.symm.trans h.2.2.1)
theorem qI_i {P : pr_T} {v w : Int32} {m i a : Nat} (h : qI P v w m i) (ha : a < 24 ∧ P.1 m ≤ 24) (e : w = nI a) : a = i := (nI_eq (by omega) (by have := h.2.1; omega)).mp (e.symm.trans h.2.2.2)
theorem inR_out {v : Int32} (h : ¬ inR 5 v) : v.toInt < 0 ∨ 4 < v.toInt := by
  by_cases h1 : v < 0
  · left
    have := Int32.lt_iff_toInt_lt.mp h1
    simpa using this
  · right
    obtain ⟨k, hk, e⟩ := nI_of (x := v) h1
    subst e
    rw [nI_toInt hk]
    have : ¬ k < 5 := fun q => h ⟨k, q, rfl⟩
    omega
/-- what 'know' leaves -/
def rKn (P : pr_T) (M M' : fm_M) : Prop := rT P M' ∧ M' 0 8 = 1 ∧ ∀ a j, ¬ (8 ≤ a ∧ a ≤ 12) → ¬ (a = 0 ∧ (j = 0 ∨ j = 8)) → M' a j = M a j
theorem rKn_0 {P : pr_T} {M M1 : fm_M} (h : rT P M1 ∧ M1 0 8 = 1 ∧ rFr (fm_up M 0 0 (nI 0)) M1) : rKn P M M1 :=
  ⟨h.1, h.2.1, fun a j h1 h2 => by rw [h.2.2 a j (by omega) (by omega), fm_up_n (by omega)]⟩
theorem rKn_12 {P : pr_T} {M M1 M2 : fm_M} (hi : ∀ n, n < 5 → P.2.1 n ≤ 2) (h : rKn P M M1) (k : fr12 M1 M2) : rKn P M M2 :=
  ⟨rT_cg hi h.1 (fun a j h1 h2 => k a j (by omega)), (k 0 8 (by decide)).trans h.2.1, fun a j h1 h2 => (k a j (by omega)).trans (h.2.2 a j h1 h2)⟩
def rl_f (k : Nat) : Nat := if k = 0 then 24 else if k = 1 then 25 else if k = 2 then 26 else if k = 3 then 22 else 27
set_option maxRecDepth 100000 in
set_option maxHeartbeats 4000000 in
theorem k_R_isM (v : Int32) (M : fm_M) : fm_ct SR y_R_isMethod b_R_isMethod 1 (some .boolean) 1 [.inl v] M (fm_br (inR 5 v) M) := by
  refine fm_of (ls := [some (.inl v)]) (by decide) wsA_good (Nat.le_of_ble_eq_true rfl) rfl (fun X hX => ?_)
  show fm_G SR Y_R_isMethod X M (fm_br (inR 5 v) M) 0 [some (.inl v)] [] M
  refine fm_iload_n (pq := 1) hX d_R_isMethod_0 rfl rfl rfl ?_
  refine fm_if_lt (tgt := 13) (pq := 4) hX d_R_isMethod_1 rfl rfl (fun h1 => ?_) (fun h1 => ?_)
  · show fm_G SR Y_R_isMethod X M (fm_br (inR 5 v) M) 13 [some (.inl v)] [] M
    refine fm_iconst (pq := 14) (v := nI 0) hX d_R_isMethod_13 (by decide) rfl ?_
    refine fm_zret hX rfl (by decide) d_R_isMethod_14 ?_
    first | exact fm_br1 (inR_g (n := 4) (by decide) h1 h6) | exact fm_br0 (inR_n3 (n := 4) (by decide) h6) | exact fm_br0 (inR_n0 (by decide) h1)
  · show fm_G SR Y_R_isMethod X M (fm_br (inR 5 v) M) 4 [some (.inl v)] [] M
    refine fm_iload_n (pq := 5) hX d_R_isMethod_4 rfl rfl rfl ?_
    refine fm_iconst (pq := 6) (v := nI 4) hX d_R_isMethod_5 (by decide) rfl ?_
    refine fm_icmp_gt (tgt := 13) (pq := 9) hX d_R_isMethod_6 rfl rfl (fun h6 => ?_) (fun h6 => ?_)
    · show fm_G SR Y_R_isMethod X M (fm_br (inR 5 v) M) 13 [some (.inl v)] [] M
      refine fm_iconst (pq := 14) (v := nI 0) hX d_R_isMethod_13 (by decide) rfl ?_
      refine fm_zret hX rfl (by decide) d_R_isMethod_14 ?_
      first | exact fm_br1 (inR_g (n := 4) (by decide) h1 h6) | exact fm_br0 (inR_n3 (n := 4) (by decide) h6) | exact fm_br0 (inR_n0 (by decide) h1)
    · show fm_G SR Y_R_isMethod X M (fm_br (inR 5 v) M) 9 [some (.inl v)] [] M
      refine fm_iconst (pq := 10) (v := nI 1) hX d_R_isMethod_9 (by decide) rfl ?_
      refine fm_goto (tgt := 14) hX d_R_isMethod_10 rfl ?_
      refine fm_zret hX rfl (by decide) d_R_isMethod_14 ?_
      first | exact fm_br1 (inR_g (n := 4) (by decide) h1 h6) | exact fm_br0 (inR_n3 (n := 4) (by decide) h6) | exact fm_br0 (inR_n0 (by decide) h1)
abbrev Y_R_four : fm_Y := ("EscapeMillModel", b_R_four, 1, (some .boolean), 1)
set_option maxRecDepth 100000 in
set_option maxHeartbeats 4000000 in
theorem k_R_four (v : Int32) (M : fm_M) : fm_ct SR y_R_four b_R_four 1 (some .boolean) 1 [.inl v] M (fm_br (inR 4 v) M) := by
  refine fm_of (ls := [some (.inl v)]) (by decide) wsA_good (Nat.le_of_ble_eq_true rfl) rfl (fun X hX => ?_)
  show fm_G SR Y_R_four X M (fm_br (inR 4 v) M) 0 [some (.inl v)] [] M
  refine fm_iload_n (pq := 1) hX d_R_four_0 rfl rfl rfl ?_
  refine fm_if_lt (tgt := 13) (pq := 4) hX d_R_four_1 rfl rfl (fun h1 => ?_) (fun h1 => ?_)
  · show fm_G SR Y_R_four X M (fm_br (inR 4 v) M) 13 [some (.inl v)] [] M
    refine fm_iconst (pq := 14) (v := nI 0) hX d_R_four_13 (by decide) rfl ?_
    refine fm_zret hX rfl (by decide) d_R_four_14 ?_
    first | exact fm_br1 (inR_g (n := 3) (by decide) h1 h6) | exact fm_br0 (inR_n3 (n := 3) (by decide) h6) | exact fm_br0 (inR_n0 (by decide) h1)
  · show fm_G SR Y_R_four X M (fm_br (inR 4 v) M) 4 [some (.inl v)] [] M
    refine fm_iload_n (pq := 5) hX d_R_four_4 rfl rfl rfl ?_
    refine fm_iconst (pq := 6) (v := nI 3) hX d_R_four_5 (by decide) rfl ?_
    refine fm_icmp_gt (tgt := 13) (pq := 9) hX d_R_four_6 rfl rfl (fun h6 => ?_) (fun h6 => ?_)
    · show fm_G SR Y_R_four X M (fm_br (inR 4 v) M) 13 [some (.inl v)] [] M
      refine fm_iconst (pq := 14) (v := nI 0) hX d_R_four_13 (by decide) rfl ?_
      refine fm_zret hX rfl (by decide) d_R_four_14 ?_
      first | exact fm_br1 (inR_g (n := 3) (by decide) h1 h6) | exact fm_br0 (inR_n3 (n := 3) (by decide) h6) | exact fm_br0 (inR_n0 (by decide) h1)
    · show fm_G SR Y_R_four X M (fm_br (inR 4 v) M) 9 [some (.inl v)] [] M
      refine fm_iconst (pq := 10) (v := nI 1) hX d_R_four_9 (by decide) rfl ?_
      refine fm_goto (tgt := 14) hX d_R_four_10 rfl ?_
      refine fm_zret hX rfl (by decide) d_R_four_14 ?_
      first | exact fm_br1 (inR_g (n := 3) (by decide) h1 h6) | exact fm_br0 (inR_n3 (n := 3) (by decide) h6) | exact fm_br0 (inR_n0 (by decide) h1)
set_option maxRecDepth 100000 in
set_option maxHeartbeats 4000000 in
theorem k_R_isIn {P : pr_T} (M : fm_M) (hP : rP M P) (hw : pr_wf P) (v w : Int32) : fm_ct SR y_R_isInstruction b_R_isInstruction 3 (some .boolean) 2 [.inr 0, .inl v, .inl w] M (fm_br (∃ m i, qI P v w m i) M) := by
  refine fm_of (ls := [some (.inr 0), some (.inl v), some (.inl w)]) (by decide) wsA_good (Nat.le_of_ble_eq_true rfl) rfl (fun X hX => ?_)
  show fm_G SR Y_R_isInstruction X M (fm_br (∃ m i, qI P v w m i) M) 0 [some (.inr 0), some (.inl v), some (.inl w)] [] M
  refine fm_iload_n (pq := 1) hX d_R_isInstruction_0 rfl rfl rfl ?_
  refine fm_callS_b (as := [.inl v]) (st := []) (pq := 4) hX cR_81 st_R_isMethod (k_R_isM v M) rfl rfl (Nat.le_of_ble_eq_true rfl) (Nat.le_of_ble_eq_true rfl) d_R_isInstruction_1 rfl (fun b1 c1 => ?_)
  refine fm_b1_eq (tgt := 25) (pq := 7) hX d_R_isInstruction_4 rfl rfl (fun h4 => ?_) (fun h4 => ?_)
  · show fm_G SR Y_R_isInstruction X M (fm_br (∃ m i, qI P v w m i) M) 25 [some (.inr 0), some (.inl v), some (.inl w)] [] M
    refine fm_iconst (pq := 26) (v := nI 0) hX d_R_isInstruction_25 (by decide) rfl ?_
    refine fm_zret hX rfl (by decide) d_R_isInstruction_26 ?_
    first | (obtain ⟨i, hi, ew⟩ := inR_y (n := P.1 m) (by omega) h8 (Int32.not_le.mp h18); exact fm_br1 ⟨m, i, hm, hi, em, ew⟩) | exact fm_br0 (fun ⟨m2, i2, q⟩ => absurd (c1.mpr ⟨m2, q.1, q.2.2.1⟩) (by rw [h4]; decide)) | exact fm_br0 (fun ⟨m2, i2, q⟩ => inR_n0 (n := P.1 m2) (by have := (hw m2 q.1).1; omega) h8 ⟨i2, q.2.1, q.2.2.2⟩) | exact fm_br0 (fun ⟨m2, i2, q⟩ => inR_n1 (n := P.1 m) (by omega) (Int32.not_lt.mpr h18) (by rw [qI_m q hm em]; exact ⟨i2, q.2.1, q.2.2.2⟩))
  · show fm_G SR Y_R_isInstruction X M (fm_br (∃ m i, qI P v w m i) M) 7 [some (.inr 0), some (.inl v), some (.inl w)] [] M
    obtain ⟨m, hm, em⟩ := c1.mp h4
    have wl := (hw m hm).1
    have wi := (hw m hm).2.1
    refine fm_lse (ls1 := [some (.inr 0), some (.inl (nI m)), some (.inl w)]) (by rw [em]) ?_
    refine fm_iload_n (pq := 8) hX d_R_isInstruction_7 rfl rfl rfl ?_
    refine fm_if_lt (tgt := 25) (pq := 11) hX d_R_isInstruction_8 rfl rfl (fun h8 => ?_) (fun h8 => ?_)
    · show fm_G SR Y_R_isInstruction X M (fm_br (∃ m i, qI P v w m i) M) 25 [some (.inr 0), some (.inl (nI m)), some (.inl w)] [] M
      refine fm_iconst (pq := 26) (v := nI 0) hX d_R_isInstruction_25 (by decide) rfl ?_
      refine fm_zret hX rfl (by decide) d_R_isInstruction_26 ?_
      first | (obtain ⟨i, hi, ew⟩ := inR_y (n := P.1 m) (by omega) h8 (Int32.not_le.mp h18); exact fm_br1 ⟨m, i, hm, hi, em, ew⟩) | exact fm_br0 (fun ⟨m2, i2, q⟩ => absurd (c1.mpr ⟨m2, q.1, q.2.2.1⟩) (by rw [h4]; decide)) | exact fm_br0 (fun ⟨m2, i2, q⟩ => inR_n0 (n := P.1 m2) (by have := (hw m2 q.1).1; omega) h8 ⟨i2, q.2.1, q.2.2.2⟩) | exact fm_br0 (fun ⟨m2, i2, q⟩ => inR_n1 (n := P.1 m) (by omega) (Int32.not_lt.mpr h18) (by rw [qI_m q hm em]; exact ⟨i2, q.2.1, q.2.2.2⟩))
    · show fm_G SR Y_R_isInstruction X M (fm_br (∃ m i, qI P v w m i) M) 11 [some (.inr 0), some (.inl (nI m)), some (.inl w)] [] M
      refine fm_iload_n (pq := 12) hX d_R_isInstruction_11 rfl rfl rfl ?_
      refine fm_aload_n (pq := 13) hX d_R_isInstruction_12 rfl rfl rfl ?_
      refine fm_getr (pq := 16) (q := 2) hX fR_13 rfl rfl d_R_isInstruction_13 rfl ?_
      refine fm_iload_n (pq := 17) hX d_R_isInstruction_16 rfl rfl rfl ?_
      refine fm_iald (pq := 18) (v := nI (P.1 m)) hX rfl rfl rfl (by omega) (by decide) (hP m (by omega)).1 d_R_isInstruction_17 rfl ?_
      refine fm_icmp_ge (tgt := 25) (pq := 21) hX d_R_isInstruction_18 rfl rfl (fun h18 => ?_) (fun h18 => ?_)
      · show fm_G SR Y_R_isInstruction X M (fm_br (∃ m i, qI P v w m i) M) 25 [some (.inr 0), some (.inl (nI m)), some (.inl w)] [] M
        refine fm_iconst (pq := 26) (v := nI 0) hX d_R_isInstruction_25 (by decide) rfl ?_
        refine fm_zret hX rfl (by decide) d_R_isInstruction_26 ?_
        first | (obtain ⟨i, hi, ew⟩ := inR_y (n := P.1 m) (by omega) h8 (Int32.not_le.mp h18); exact fm_br1 ⟨m, i, hm, hi, em, ew⟩) | exact fm_br0 (fun ⟨m2, i2, q⟩ => absurd (c1.mpr ⟨m2, q.1, q.2.2.1⟩) (by rw [h4]; decide)) | exact fm_br0 (fun ⟨m2, i2, q⟩ => inR_n0 (n := P.1 m2) (by have := (hw m2 q.1).1; omega) h8 ⟨i2, q.2.1, q.2.2.2⟩) | exact fm_br0 (fun ⟨m2, i2, q⟩ => inR_n1 (n := P.1 m) (by omega) (Int32.not_lt.mpr h18) (by rw [qI_m q hm em]; exact ⟨i2, q.2.1, q.2.2.2⟩))
      · show fm_G SR Y_R_isInstruction X M (fm_br (∃ m i, qI P v w m i) M) 21 [some (.inr 0), some (.inl (nI m)), some (.inl w)] [] M
        refine fm_iconst (pq := 22) (v := nI 1) hX d_R_isInstruction_21 (by decide) rfl ?_
        refine fm_goto (tgt := 26) hX d_R_isInstruction_22 rfl ?_
        refine fm_zret hX rfl (by decide) d_R_isInstruction_26 ?_
        first | (obtain ⟨i, hi, ew⟩ := inR_y (n := P.1 m) (by omega) h8 (Int32.not_le.mp h18); exact fm_br1 ⟨m, i, hm, hi, em, ew⟩) | exact fm_br0 (fun ⟨m2, i2, q⟩ => absurd (c1.mpr ⟨m2, q.1, q.2.2.1⟩) (by rw [h4]; decide)) | exact fm_br0 (fun ⟨m2, i2, q⟩ => inR_n0 (n := P.1 m2) (by have := (hw m2 q.1).1; omega) h8 ⟨i2, q.2.1, q.2.2.2⟩) | exact fm_br0 (fun ⟨m2, i2, q⟩ => inR_n1 (n := P.1 m) (by omega) (Int32.not_lt.mpr h18) (by rw [qI_m q hm em]; exact ⟨i2, q.2.1, q.2.2.2⟩))
abbrev Y_R_thrown : fm_Y := ("EscapeMillModel", b_R_thrown, 1, (some .int), 1)
set_option maxRecDepth 100000 in
set_option maxHeartbeats 4000000 in
theorem k_R_thrown (M : fm_M) : fm_ct SR y_R_thrown b_R_thrown 1 (some .int) 1 [.inr 0] M (fm_rv (M 0 0) M) := by
  refine fm_of (ls := [some (.inr 0)]) (by decide) wsA_good (Nat.le_of_ble_eq_true rfl) rfl (fun X hX => ?_)
  show fm_G SR Y_R_thrown X M (fm_rv (M 0 0) M) 0 [some (.inr 0)] [] M
  refine fm_aload_n (pq := 1) hX d_R_thrown_0 rfl rfl rfl ?_
  refine fm_geti (pq := 4) (v := M 0 0) hX fR_77 rfl rfl rfl d_R_thrown_1 rfl ?_
  refine fm_iret hX rfl d_R_thrown_4 ?_
  exact fm_rvi rfl
abbrev Y_R_length : fm_Y := ("EscapeMillModel", b_R_length, 2, (some .int), 2)
set_option maxRecDepth 100000 in
set_option maxHeartbeats 4000000 in
theorem k_R_length {P : pr_T} (M : fm_M) (hP : rP M P) (hw : pr_wf P) (v : Int32) : fm_ct SR y_R_length b_R_length 2 (some .int) 2 [.inr 0, .inl v] M (fm_ir (fun x M' => M' = fm_up M 0 0 (nI 0) ∧ ((∃ m, m < 5 ∧ v = nI m ∧ x = nI (P.1 m)) ∨ (¬ inR 5 v ∧ x = -1)))) := by
  refine fm_of (ls := [some (.inr 0), some (.inl v)]) (by decide) wsA_good (Nat.le_of_ble_eq_true rfl) rfl (fun X hX => ?_)
  show fm_G SR Y_R_length X M (fm_ir (fun x M' => M' = fm_up M 0 0 (nI 0) ∧ ((∃ m, m < 5 ∧ v = nI m ∧ x = nI (P.1 m)) ∨ (¬ inR 5 v ∧ x = -1)))) 0 [some (.inr 0), some (.inl v)] [] M
  refine fm_aload_n (pq := 1) hX d_R_length_0 rfl rfl rfl ?_
  refine fm_iconst (pq := 2) (v := nI 0) hX d_R_length_1 (by decide) rfl ?_
  refine fm_puti (pq := 5) hX fR_77 pR_0 rfl rfl rfl rfl d_R_length_2 rfl ?_
  refine fm_iload_n (pq := 6) hX d_R_length_5 rfl rfl rfl ?_
  refine fm_callS_b (as := [.inl v]) (st := []) (pq := 9) hX cR_81 st_R_isMethod (k_R_isM v (fm_up M 0 0 (nI 0))) rfl rfl (Nat.le_of_ble_eq_true rfl) (Nat.le_of_ble_eq_true rfl) d_R_length_6 rfl (fun b6 c6 => ?_)
  refine fm_b1_eq (tgt := 21) (pq := 12) hX d_R_length_9 rfl rfl (fun h9 => ?_) (fun h9 => ?_)
  · show fm_G SR Y_R_length X M (fm_ir (fun x M' => M' = fm_up M 0 0 (nI 0) ∧ ((∃ m, m < 5 ∧ v = nI m ∧ x = nI (P.1 m)) ∨ (¬ inR 5 v ∧ x = -1)))) 21 [some (.inr 0), some (.inl v)] [] (fm_up M 0 0 (nI 0))
    refine fm_iconst (pq := 22) (v := (-1)) hX d_R_length_21 (by decide) rfl ?_
    refine fm_iret hX rfl d_R_length_22 ?_
    first | exact ⟨_, rfl, rfl, Or.inl ⟨m, hm, em, rfl⟩⟩ | exact ⟨_, rfl, rfl, Or.inr ⟨fun z => absurd (c6.mpr z) (by rw [h9]; decide), rfl⟩⟩
  · show fm_G SR Y_R_length X M (fm_ir (fun x M' => M' = fm_up M 0 0 (nI 0) ∧ ((∃ m, m < 5 ∧ v = nI m ∧ x = nI (P.1 m)) ∨ (¬ inR 5 v ∧ x = -1)))) 12 [some (.inr 0), some (.inl v)] [] (fm_up M 0 0 (nI 0))
    obtain ⟨m, hm, em⟩ := c6.mp h9
    have wl := (hw m hm).1
    have wi := (hw m hm).2.1
    refine fm_lse (ls1 := [some (.inr 0), some (.inl (nI m))]) (by rw [em]) ?_
    refine fm_aload_n (pq := 13) hX d_R_length_12 rfl rfl rfl ?_
    refine fm_getr (pq := 16) (q := 2) hX fR_13 rfl rfl d_R_length_13 rfl ?_
    refine fm_iload_n (pq := 17) hX d_R_length_16 rfl rfl rfl ?_
    refine fm_iald (pq := 18) (v := nI (P.1 m)) hX rfl rfl rfl (by omega) (by decide) ((rP_cg hP (fun a j h1 h2 => fm_up_a (by omega))) m (by omega)).1 d_R_length_17 rfl ?_
    refine fm_goto (tgt := 22) hX d_R_length_18 rfl ?_
    refine fm_iret hX rfl d_R_length_22 ?_
    first | exact ⟨_, rfl, rfl, Or.inl ⟨m, hm, em, rfl⟩⟩ | exact ⟨_, rfl, rfl, Or.inr ⟨fun z => absurd (c6.mpr z) (by rw [h9]; decide), rfl⟩⟩
abbrev Y_R_may : fm_Y := ("EscapeMillModel", b_R_may, 3, (some .int), 6)
set_option maxRecDepth 100000 in
set_option maxHeartbeats 4000000 in
theorem k_R_may {P : pr_T} (M : fm_M) (hP : rP M P) (hw : pr_wf P) (b : Bool) (hb : M 0 8 = bI b) (hT : b = true → rT P M) (v w : Int32) : fm_ct SR y_R_may b_R_may 3 (some .int) 6 [.inr 0, .inl v, .inl w] M (fm_ir (fun x M' => rKn P M M' ∧ ((∃ m r, m < 5 ∧ r < 4 ∧ v = nI m ∧ w = nI r ∧ x = M' 8 (4 * m + r)) ∨ (¬ (inR 5 v ∧ inR 4 w) ∧ x = -1)))) := by
  refine fm_of (ls := [some (.inr 0), some (.inl v), some (.inl w)]) (by decide) wsA_good (Nat.le_of_ble_eq_true rfl) rfl (fun X hX => ?_)
  have hi2 : ∀ n, n < 5 → P.2.1 n ≤ 2 := fun n hn => (hw n hn).2.1
  show fm_G SR Y_R_may X M (fm_ir (fun x M' => rKn P M M' ∧ ((∃ m r, m < 5 ∧ r < 4 ∧ v = nI m ∧ w = nI r ∧ x = M' 8 (4 * m + r)) ∨ (¬ (inR 5 v ∧ inR 4 w) ∧ x = -1)))) 0 [some (.inr 0), some (.inl v), some (.inl w)] [] M
  refine fm_aload_n (pq := 1) hX d_R_may_0 rfl rfl rfl ?_
  refine fm_iconst (pq := 2) (v := nI 0) hX d_R_may_1 (by decide) rfl ?_
  refine fm_puti (pq := 5) hX fR_77 pR_0 rfl rfl rfl rfl d_R_may_2 rfl ?_
  refine fm_aload_n (pq := 6) hX d_R_may_5 rfl rfl rfl ?_
  refine fm_callV_r (as := []) (st := []) (pq := 9) hX rfl rfl cR_195 rfl im_R_know se_R_know (k_R_know (fm_up M 0 0 (nI 0)) (rP_cg hP (fun a j h1 h2 => fm_up_a (by omega))) hw b (by rw [fm_up_n (by omega)]; exact hb) (fun z => rT_cg hi2 (hT z) (fun a j h1 h2 => fm_up_a (by omega)))) rfl rfl (Nat.le_of_ble_eq_true rfl) (Nat.le_of_ble_eq_true rfl) d_R_may_6 rfl (fun M6 c6 => ?_)
  have hP6 : rP M6 P := rP_cg hP (fun a j h1 h2 => by rw [c6.2.2 a j (by omega) (by omega), fm_up_a (by omega)])
  have hk6 := rKn_0 c6
  refine fm_iload_n (pq := 10) hX d_R_may_9 rfl rfl rfl ?_
  refine fm_callS_b (as := [.inl v]) (st := []) (pq := 13) hX cR_81 st_R_isMethod (k_R_isM v M6) rfl rfl (Nat.le_of_ble_eq_true rfl) (Nat.le_of_ble_eq_true rfl) d_R_may_10 rfl (fun b10 c10 => ?_)
  refine fm_b1_eq (tgt := 23) (pq := 16) hX d_R_may_13 rfl rfl (fun h13 => ?_) (fun h13 => ?_)
  · show fm_G SR Y_R_may X M (fm_ir (fun x M' => rKn P M M' ∧ ((∃ m r, m < 5 ∧ r < 4 ∧ v = nI m ∧ w = nI r ∧ x = M' 8 (4 * m + r)) ∨ (¬ (inR 5 v ∧ inR 4 w) ∧ x = -1)))) 23 [some (.inr 0), some (.inl v), some (.inl w)] [] M6
    refine fm_iconst (pq := 24) (v := (-1)) hX d_R_may_23 (by decide) rfl ?_
    refine fm_goto (tgt := 37) hX d_R_may_24 rfl ?_
    refine fm_iret hX rfl d_R_may_37 ?_
    first | exact ⟨_, rfl, hk6, Or.inl ⟨m, r, hm, hr, em, er, rfl⟩⟩ | exact ⟨_, rfl, hk6, Or.inr ⟨fun z => absurd (c10.mpr z.1) (by rw [h13]; decide), rfl⟩⟩ | exact ⟨_, rfl, hk6, Or.inr ⟨fun z => absurd (c17.mpr z.2) (by rw [h20]; decide), rfl⟩⟩
  · show fm_G SR Y_R_may X M (fm_ir (fun x M' => rKn P M M' ∧ ((∃ m r, m < 5 ∧ r < 4 ∧ v = nI m ∧ w = nI r ∧ x = M' 8 (4 * m + r)) ∨ (¬ (inR 5 v ∧ inR 4 w) ∧ x = -1)))) 16 [some (.inr 0), some (.inl v), some (.inl w)] [] M6
    obtain ⟨m, hm, em⟩ := c10.mp h13
    have wl := (hw m hm).1
    have wi := (hw m hm).2.1
    refine fm_lse (ls1 := [some (.inr 0), some (.inl (nI m)), some (.inl w)]) (by rw [em]) ?_
    refine fm_iload_n (pq := 17) hX d_R_may_16 rfl rfl rfl ?_
    refine fm_callS_b (as := [.inl w]) (st := []) (pq := 20) hX cR_89 st_R_four (k_R_four w M6) rfl rfl (Nat.le_of_ble_eq_true rfl) (Nat.le_of_ble_eq_true rfl) d_R_may_17 rfl (fun b17 c17 => ?_)
    refine fm_b1_ne (tgt := 27) (pq := 23) hX d_R_may_20 rfl rfl (fun h20 => ?_) (fun h20 => ?_)
    · show fm_G SR Y_R_may X M (fm_ir (fun x M' => rKn P M M' ∧ ((∃ m r, m < 5 ∧ r < 4 ∧ v = nI m ∧ w = nI r ∧ x = M' 8 (4 * m + r)) ∨ (¬ (inR 5 v ∧ inR 4 w) ∧ x = -1)))) 27 [some (.inr 0), some (.inl (nI m)), some (.inl w)] [] M6
      obtain ⟨r, hr, er⟩ := c17.mp h20
      refine fm_lse (ls1 := [some (.inr 0), some (.inl (nI m)), some (.inl (nI r))]) (by rw [er]) ?_
      refine fm_aload_n (pq := 28) hX d_R_may_27 rfl rfl rfl ?_
      refine fm_getr (pq := 31) (q := 8) hX fR_31 rfl rfl d_R_may_28 rfl ?_
      refine fm_iconst (pq := 32) (v := nI 4) hX d_R_may_31 (by decide) rfl ?_
      refine fm_iload_n (pq := 33) hX d_R_may_32 rfl rfl rfl ?_
      refine fm_imul (pq := 34) (v := nI (4 * m)) hX d_R_may_33 (pk_mul _ _) rfl ?_
      refine fm_iload_n (pq := 35) hX d_R_may_34 rfl rfl rfl ?_
      refine fm_iadd (pq := 36) (v := nI (4 * m + r)) hX d_R_may_35 (nI_add _ _) rfl ?_
      refine fm_iald (pq := 37) (v := M6 8 (4 * m + r)) hX rfl rfl rfl (by omega) (by decide) rfl d_R_may_36 rfl ?_
      refine fm_iret hX rfl d_R_may_37 ?_
      first | exact ⟨_, rfl, hk6, Or.inl ⟨m, r, hm, hr, em, er, rfl⟩⟩ | exact ⟨_, rfl, hk6, Or.inr ⟨fun z => absurd (c10.mpr z.1) (by rw [h13]; decide), rfl⟩⟩ | exact ⟨_, rfl, hk6, Or.inr ⟨fun z => absurd (c17.mpr z.2) (by rw [h20]; decide), rfl⟩⟩
    · show fm_G SR Y_R_may X M (fm_ir (fun x M' => rKn P M M' ∧ ((∃ m r, m < 5 ∧ r < 4 ∧ v = nI m ∧ w = nI r ∧ x = M' 8 (4 * m + r)) ∨ (¬ (inR 5 v ∧ inR 4 w) ∧ x = -1)))) 23 [some (.inr 0), some (.inl (nI m)), some (.inl w)] [] M6
      refine fm_iconst (pq := 24) (v := (-1)) hX d_R_may_23 (by decide) rfl ?_
      refine fm_goto (tgt := 37) hX d_R_may_24 rfl ?_
      refine fm_iret hX rfl d_R_may_37 ?_
      first | exact ⟨_, rfl, hk6, Or.inl ⟨m, r, hm, hr, em, er, rfl⟩⟩ | exact ⟨_, rfl, hk6, Or.inr ⟨fun z => absurd (c10.mpr z.1) (by rw [h13]; decide), rfl⟩⟩ | exact ⟨_, rfl, hk6, Or.inr ⟨fun z => absurd (c17.mpr z.2) (by rw [h20]; decide), rfl⟩⟩
abbrev Y_R_summary : fm_Y := ("EscapeMillModel", b_R_summary, 3, (some .int), 6)
set_option maxRecDepth 100000 in
set_option maxHeartbeats 4000000 in
theorem k_R_summary {P : pr_T} (M : fm_M) (hP : rP M P) (hw : pr_wf P) (b : Bool) (hb : M 0 8 = bI b) (hT : b = true → rT P M) (v w : Int32) : fm_ct SR y_R_summary b_R_summary 3 (some .int) 6 [.inr 0, .inl v, .inl w] M (fm_ir (fun x M' => rKn P M M' ∧ ((∃ m p, m < 5 ∧ p < P.2.1 m ∧ v = nI m ∧ w = nI p ∧ x = M' 11 (2 * m + p)) ∨ (¬ (∃ m p, m < 5 ∧ p < P.2.1 m ∧ v = nI m ∧ w = nI p) ∧ x = -1)))) := by
  refine fm_of (ls := [some (.inr 0), some (.inl v), some (.inl w)]) (by decide) wsA_good (Nat.le_of_ble_eq_true rfl) rfl (fun X hX => ?_)
  have hi2 : ∀ n, n < 5 → P.2.1 n ≤ 2 := fun n hn => (hw n hn).2.1
  show fm_G SR Y_R_summary X M (fm_ir (fun x M' => rKn P M M' ∧ ((∃ m p, m < 5 ∧ p < P.2.1 m ∧ v = nI m ∧ w = nI p ∧ x = M' 11 (2 * m + p)) ∨ (¬ (∃ m p, m < 5 ∧ p < P.2.1 m ∧ v = nI m ∧ w = nI p) ∧ x = -1)))) 0 [some (.inr 0), some (.inl v), some (.inl w)] [] M
  refine fm_aload_n (pq := 1) hX d_R_summary_0 rfl rfl rfl ?_
  refine fm_iconst (pq := 2) (v := nI 0) hX d_R_summary_1 (by decide) rfl ?_
  refine fm_puti (pq := 5) hX fR_77 pR_0 rfl rfl rfl rfl d_R_summary_2 rfl ?_
  refine fm_aload_n (pq := 6) hX d_R_summary_5 rfl rfl rfl ?_
  refine fm_callV_r (as := []) (st := []) (pq := 9) hX rfl rfl cR_195 rfl im_R_know se_R_know (k_R_know (fm_up M 0 0 (nI 0)) (rP_cg hP (fun a j h1 h2 => fm_up_a (by omega))) hw b (by rw [fm_up_n (by omega)]; exact hb) (fun z => rT_cg hi2 (hT z) (fun a j h1 h2 => fm_up_a (by omega)))) rfl rfl (Nat.le_of_ble_eq_true rfl) (Nat.le_of_ble_eq_true rfl) d_R_summary_6 rfl (fun M6 c6 => ?_)
  have hP6 : rP M6 P := rP_cg hP (fun a j h1 h2 => by rw [c6.2.2 a j (by omega) (by omega), fm_up_a (by omega)])
  have hk6 := rKn_0 c6
  refine fm_iload_n (pq := 10) hX d_R_summary_9 rfl rfl rfl ?_
  refine fm_callS_b (as := [.inl v]) (st := []) (pq := 13) hX cR_81 st_R_isMethod (k_R_isM v M6) rfl rfl (Nat.le_of_ble_eq_true rfl) (Nat.le_of_ble_eq_true rfl) d_R_summary_10 rfl (fun b10 c10 => ?_)
  refine fm_b1_eq (tgt := 30) (pq := 16) hX d_R_summary_13 rfl rfl (fun h13 => ?_) (fun h13 => ?_)
  · show fm_G SR Y_R_summary X M (fm_ir (fun x M' => rKn P M M' ∧ ((∃ m p, m < 5 ∧ p < P.2.1 m ∧ v = nI m ∧ w = nI p ∧ x = M' 11 (2 * m + p)) ∨ (¬ (∃ m p, m < 5 ∧ p < P.2.1 m ∧ v = nI m ∧ w = nI p) ∧ x = -1)))) 30 [some (.inr 0), some (.inl v), some (.inl w)] [] M6
    refine fm_iconst (pq := 31) (v := (-1)) hX d_R_summary_30 (by decide) rfl ?_
    refine fm_goto (tgt := 44) hX d_R_summary_31 rfl ?_
    refine fm_iret hX rfl d_R_summary_44 ?_
    first | exact ⟨_, rfl, hk6, Or.inl ⟨m, p, hm, hp, em, ep, rfl⟩⟩ | exact ⟨_, rfl, hk6, Or.inr ⟨fun ⟨m2, p2, q⟩ => absurd (c10.mpr ⟨m2, q.1, q.2.2.1⟩) (by rw [h13]; decide), rfl⟩⟩ | exact ⟨_, rfl, hk6, Or.inr ⟨fun ⟨m2, p2, q⟩ => inR_n0 (n := P.2.1 m2) (by have := (hw m2 q.1).2.1; omega) h17 ⟨p2, q.2.1, q.2.2.2⟩, rfl⟩⟩ | exact ⟨_, rfl, hk6, Or.inr ⟨fun ⟨m2, p2, q⟩ => inR_n1 (n := P.2.1 m) (by omega) h27 (by rw [nI_uq q.1 hm (q.2.2.1.symm.trans em)] at q; exact ⟨p2, q.2.1, q.2.2.2⟩), rfl⟩⟩
  · show fm_G SR Y_R_summary X M (fm_ir (fun x M' => rKn P M M' ∧ ((∃ m p, m < 5 ∧ p < P.2.1 m ∧ v = nI m ∧ w = nI p ∧ x = M' 11 (2 * m + p)) ∨ (¬ (∃ m p, m < 5 ∧ p < P.2.1 m ∧ v = nI m ∧ w = nI p) ∧ x = -1)))) 16 [some (.inr 0), some (.inl v), some (.inl w)] [] M6
    obtain ⟨m, hm, em⟩ := c10.mp h13
    have wl := (hw m hm).1
    have wi := (hw m hm).2.1
    refine fm_lse (ls1 := [some (.inr 0), some (.inl (nI m)), some (.inl w)]) (by rw [em]) ?_
    refine fm_iload_n (pq := 17) hX d_R_summary_16 rfl rfl rfl ?_
    refine fm_if_lt (tgt := 30) (pq := 20) hX d_R_summary_17 rfl rfl (fun h17 => ?_) (fun h17 => ?_)
    · show fm_G SR Y_R_summary X M (fm_ir (fun x M' => rKn P M M' ∧ ((∃ m p, m < 5 ∧ p < P.2.1 m ∧ v = nI m ∧ w = nI p ∧ x = M' 11 (2 * m + p)) ∨ (¬ (∃ m p, m < 5 ∧ p < P.2.1 m ∧ v = nI m ∧ w = nI p) ∧ x = -1)))) 30 [some (.inr 0), some (.inl (nI m)), some (.inl w)] [] M6
      refine fm_iconst (pq := 31) (v := (-1)) hX d_R_summary_30 (by decide) rfl ?_
      refine fm_goto (tgt := 44) hX d_R_summary_31 rfl ?_
      refine fm_iret hX rfl d_R_summary_44 ?_
      first | exact ⟨_, rfl, hk6, Or.inl ⟨m, p, hm, hp, em, ep, rfl⟩⟩ | exact ⟨_, rfl, hk6, Or.inr ⟨fun ⟨m2, p2, q⟩ => absurd (c10.mpr ⟨m2, q.1, q.2.2.1⟩) (by rw [h13]; decide), rfl⟩⟩ | exact ⟨_, rfl, hk6, Or.inr ⟨fun ⟨m2, p2, q⟩ => inR_n0 (n := P.2.1 m2) (by have := (hw m2 q.1).2.1; omega) h17 ⟨p2, q.2.1, q.2.2.2⟩, rfl⟩⟩ | exact ⟨_, rfl, hk6, Or.inr ⟨fun ⟨m2, p2, q⟩ => inR_n1 (n := P.2.1 m) (by omega) h27 (by rw [nI_uq q.1 hm (q.2.2.1.symm.trans em)] at q; exact ⟨p2, q.2.1, q.2.2.2⟩), rfl⟩⟩
    · show fm_G SR Y_R_summary X M (fm_ir (fun x M' => rKn P M M' ∧ ((∃ m p, m < 5 ∧ p < P.2.1 m ∧ v = nI m ∧ w = nI p ∧ x = M' 11 (2 * m + p)) ∨ (¬ (∃ m p, m < 5 ∧ p < P.2.1 m ∧ v = nI m ∧ w = nI p) ∧ x = -1)))) 20 [some (.inr 0), some (.inl (nI m)), some (.inl w)] [] M6
      refine fm_iload_n (pq := 21) hX d_R_summary_20 rfl rfl rfl ?_
      refine fm_aload_n (pq := 22) hX d_R_summary_21 rfl rfl rfl ?_
      refine fm_getr (pq := 25) (q := 1) hX fR_7 rfl rfl d_R_summary_22 rfl ?_
      refine fm_iload_n (pq := 26) hX d_R_summary_25 rfl rfl rfl ?_
      refine fm_iald (pq := 27) (v := nI (P.2.1 m)) hX rfl rfl rfl (by omega) (by decide) (hP6 m (by omega)).2.1 d_R_summary_26 rfl ?_
      refine fm_icmp_lt (tgt := 34) (pq := 30) hX d_R_summary_27 rfl rfl (fun h27 => ?_) (fun h27 => ?_)
      · show fm_G SR Y_R_summary X M (fm_ir (fun x M' => rKn P M M' ∧ ((∃ m p, m < 5 ∧ p < P.2.1 m ∧ v = nI m ∧ w = nI p ∧ x = M' 11 (2 * m + p)) ∨ (¬ (∃ m p, m < 5 ∧ p < P.2.1 m ∧ v = nI m ∧ w = nI p) ∧ x = -1)))) 34 [some (.inr 0), some (.inl (nI m)), some (.inl w)] [] M6
        obtain ⟨p, hp, ep⟩ := inR_y (n := P.2.1 m) (by omega) h17 h27
        refine fm_lse (ls1 := [some (.inr 0), some (.inl (nI m)), some (.inl (nI p))]) (by rw [ep]) ?_
        refine fm_aload_n (pq := 35) hX d_R_summary_34 rfl rfl rfl ?_
        refine fm_getr (pq := 38) (q := 11) hX fR_40 rfl rfl d_R_summary_35 rfl ?_
        refine fm_iconst (pq := 39) (v := nI 2) hX d_R_summary_38 (by decide) rfl ?_
        refine fm_iload_n (pq := 40) hX d_R_summary_39 rfl rfl rfl ?_
        refine fm_imul (pq := 41) (v := nI (2 * m)) hX d_R_summary_40 (pk_mul _ _) rfl ?_
        refine fm_iload_n (pq := 42) hX d_R_summary_41 rfl rfl rfl ?_
        refine fm_iadd (pq := 43) (v := nI (2 * m + p)) hX d_R_summary_42 (nI_add _ _) rfl ?_
        refine fm_iald (pq := 44) (v := M6 11 (2 * m + p)) hX rfl rfl rfl (by omega) (by decide) rfl d_R_summary_43 rfl ?_
        refine fm_iret hX rfl d_R_summary_44 ?_
        first | exact ⟨_, rfl, hk6, Or.inl ⟨m, p, hm, hp, em, ep, rfl⟩⟩ | exact ⟨_, rfl, hk6, Or.inr ⟨fun ⟨m2, p2, q⟩ => absurd (c10.mpr ⟨m2, q.1, q.2.2.1⟩) (by rw [h13]; decide), rfl⟩⟩ | exact ⟨_, rfl, hk6, Or.inr ⟨fun ⟨m2, p2, q⟩ => inR_n0 (n := P.2.1 m2) (by have := (hw m2 q.1).2.1; omega) h17 ⟨p2, q.2.1, q.2.2.2⟩, rfl⟩⟩ | exact ⟨_, rfl, hk6, Or.inr ⟨fun ⟨m2, p2, q⟩ => inR_n1 (n := P.2.1 m) (by omega) h27 (by rw [nI_uq q.1 hm (q.2.2.1.symm.trans em)] at q; exact ⟨p2, q.2.1, q.2.2.2⟩), rfl⟩⟩
      · show fm_G SR Y_R_summary X M (fm_ir (fun x M' => rKn P M M' ∧ ((∃ m p, m < 5 ∧ p < P.2.1 m ∧ v = nI m ∧ w = nI p ∧ x = M' 11 (2 * m + p)) ∨ (¬ (∃ m p, m < 5 ∧ p < P.2.1 m ∧ v = nI m ∧ w = nI p) ∧ x = -1)))) 30 [some (.inr 0), some (.inl (nI m)), some (.inl w)] [] M6
        refine fm_iconst (pq := 31) (v := (-1)) hX d_R_summary_30 (by decide) rfl ?_
        refine fm_goto (tgt := 44) hX d_R_summary_31 rfl ?_
        refine fm_iret hX rfl d_R_summary_44 ?_
        first | exact ⟨_, rfl, hk6, Or.inl ⟨m, p, hm, hp, em, ep, rfl⟩⟩ | exact ⟨_, rfl, hk6, Or.inr ⟨fun ⟨m2, p2, q⟩ => absurd (c10.mpr ⟨m2, q.1, q.2.2.1⟩) (by rw [h13]; decide), rfl⟩⟩ | exact ⟨_, rfl, hk6, Or.inr ⟨fun ⟨m2, p2, q⟩ => inR_n0 (n := P.2.1 m2) (by have := (hw m2 q.1).2.1; omega) h17 ⟨p2, q.2.1, q.2.2.2⟩, rfl⟩⟩ | exact ⟨_, rfl, hk6, Or.inr ⟨fun ⟨m2, p2, q⟩ => inR_n1 (n := P.2.1 m) (by omega) h27 (by rw [nI_uq q.1 hm (q.2.2.1.symm.trans em)] at q; exact ⟨p2, q.2.1, q.2.2.2⟩), rfl⟩⟩
abbrev Y_R_escape : fm_Y := ("EscapeMillModel", b_R_escape, 3, (some .int), 6)
set_option maxRecDepth 100000 in
set_option maxHeartbeats 4000000 in
theorem k_R_escape {P : pr_T} (M : fm_M) (hP : rP M P) (hw : pr_wf P) (b : Bool) (hb : M 0 8 = bI b) (hT : b = true → rT P M) (v w : Int32) : fm_ct SR y_R_escape b_R_escape 3 (some .int) 6 [.inr 0, .inl v, .inl w] M (fm_ir (fun x M' => rKn P M M' ∧ ((∃ m i, qI P v w m i ∧ (P.2.2 m i).1 = 0 ∧ x = (if bt (an_rc (rA M' m).2.1 an_W) i = true then nI 2 else bI (bt (an_rc (rA M' m).2.1 (an_as (P.2.1 m) ||| (rA M' m).2.2)) i))) ∨ (¬ (∃ m i, qI P v w m i ∧ (P.2.2 m i).1 = 0) ∧ x = -1)))) := by
  refine fm_of (ls := [some (.inr 0), some (.inl v), some (.inl w)]) (by decide) wsA_good (Nat.le_of_ble_eq_true rfl) rfl (fun X hX => ?_)
  have hi2 : ∀ n, n < 5 → P.2.1 n ≤ 2 := fun n hn => (hw n hn).2.1
  show fm_G SR Y_R_escape X M (fm_ir (fun x M' => rKn P M M' ∧ ((∃ m i, qI P v w m i ∧ (P.2.2 m i).1 = 0 ∧ x = (if bt (an_rc (rA M' m).2.1 an_W) i = true then nI 2 else bI (bt (an_rc (rA M' m).2.1 (an_as (P.2.1 m) ||| (rA M' m).2.2)) i))) ∨ (¬ (∃ m i, qI P v w m i ∧ (P.2.2 m i).1 = 0) ∧ x = -1)))) 0 [some (.inr 0), some (.inl v), some (.inl w)] [] M
  refine fm_aload_n (pq := 1) hX d_R_escape_0 rfl rfl rfl ?_
  refine fm_iconst (pq := 2) (v := nI 0) hX d_R_escape_1 (by decide) rfl ?_
  refine fm_puti (pq := 5) hX fR_77 pR_0 rfl rfl rfl rfl d_R_escape_2 rfl ?_
  refine fm_aload_n (pq := 6) hX d_R_escape_5 rfl rfl rfl ?_
  refine fm_callV_r (as := []) (st := []) (pq := 9) hX rfl rfl cR_195 rfl im_R_know se_R_know (k_R_know (fm_up M 0 0 (nI 0)) (rP_cg hP (fun a j h1 h2 => fm_up_a (by omega))) hw b (by rw [fm_up_n (by omega)]; exact hb) (fun z => rT_cg hi2 (hT z) (fun a j h1 h2 => fm_up_a (by omega)))) rfl rfl (Nat.le_of_ble_eq_true rfl) (Nat.le_of_ble_eq_true rfl) d_R_escape_6 rfl (fun M6 c6 => ?_)
  have hP6 : rP M6 P := rP_cg hP (fun a j h1 h2 => by rw [c6.2.2 a j (by omega) (by omega), fm_up_a (by omega)])
  have hk6 := rKn_0 c6
  refine fm_aload_n (pq := 10) hX d_R_escape_9 rfl rfl rfl ?_
  refine fm_iload_n (pq := 11) hX d_R_escape_10 rfl rfl rfl ?_
  refine fm_iload_n (pq := 12) hX d_R_escape_11 rfl rfl rfl ?_
  refine fm_callV_b (as := [.inl v, .inl w]) (st := []) (pq := 15) hX rfl rfl cR_128 rfl im_R_isInstruction se_R_isInstruction (k_R_isIn M6 hP6 hw v w) rfl rfl (Nat.le_of_ble_eq_true rfl) (Nat.le_of_ble_eq_true rfl) d_R_escape_12 rfl (fun b12 c12 => ?_)
  refine fm_b1_eq (tgt := 32) (pq := 18) hX d_R_escape_15 rfl rfl (fun h15 => ?_) (fun h15 => ?_)
  · show fm_G SR Y_R_escape X M (fm_ir (fun x M' => rKn P M M' ∧ ((∃ m i, qI P v w m i ∧ (P.2.2 m i).1 = 0 ∧ x = (if bt (an_rc (rA M' m).2.1 an_W) i = true then nI 2 else bI (bt (an_rc (rA M' m).2.1 (an_as (P.2.1 m) ||| (rA M' m).2.2)) i))) ∨ (¬ (∃ m i, qI P v w m i ∧ (P.2.2 m i).1 = 0) ∧ x = -1)))) 32 [some (.inr 0), some (.inl v), some (.inl w)] [] M6
    refine fm_iconst (pq := 33) (v := (-1)) hX d_R_escape_32 (by decide) rfl ?_
    refine fm_goto (tgt := 42) hX d_R_escape_33 rfl ?_
    refine fm_iret hX rfl d_R_escape_42 ?_
    first | exact ⟨_, rfl, hk6, Or.inl ⟨m, i, ⟨hm, hi, em, ei⟩, h29, rfl⟩⟩ | exact ⟨_, rfl, hk6, Or.inr ⟨fun ⟨m2, i2, q, _⟩ => absurd (c12.mpr ⟨m2, i2, q⟩) (by rw [h15]; decide), rfl⟩⟩ | exact ⟨_, rfl, hk6, Or.inr ⟨fun ⟨m2, i2, q, q0⟩ => by
      rw [qI_m q hm em] at h29
      rw [qI_i q ⟨by omega, (hw m2 q.1).1⟩ ei] at h29
      exact h29 q0, rfl⟩⟩
  · show fm_G SR Y_R_escape X M (fm_ir (fun x M' => rKn P M M' ∧ ((∃ m i, qI P v w m i ∧ (P.2.2 m i).1 = 0 ∧ x = (if bt (an_rc (rA M' m).2.1 an_W) i = true then nI 2 else bI (bt (an_rc (rA M' m).2.1 (an_as (P.2.1 m) ||| (rA M' m).2.2)) i))) ∨ (¬ (∃ m i, qI P v w m i ∧ (P.2.2 m i).1 = 0) ∧ x = -1)))) 18 [some (.inr 0), some (.inl v), some (.inl w)] [] M6
    obtain ⟨m, i, hm, hi, em, ei⟩ := c12.mp h15
    have wl := (hw m hm).1
    have wo := ((hw m hm).2.2 i hi).1
    refine fm_lse (ls1 := [some (.inr 0), some (.inl (nI m)), some (.inl w)]) (by rw [em]) ?_
    refine fm_lse (ls1 := [some (.inr 0), some (.inl (nI m)), some (.inl (nI i))]) (by rw [ei]) ?_
    refine fm_aload_n (pq := 19) hX d_R_escape_18 rfl rfl rfl ?_
    refine fm_getr (pq := 22) (q := 3) hX fR_16 rfl rfl d_R_escape_19 rfl ?_
    refine fm_bipush (pq := 24) (v := nI 24) hX d_R_escape_22 (by decide) rfl ?_
    refine fm_iload_n (pq := 25) hX d_R_escape_24 rfl rfl rfl ?_
    refine fm_imul (pq := 26) (v := nI (24 * m)) hX d_R_escape_25 (pk_mul _ _) rfl ?_
    refine fm_iload_n (pq := 27) hX d_R_escape_26 rfl rfl rfl ?_
    refine fm_iadd (pq := 28) (v := nI (24 * m + i)) hX d_R_escape_27 (nI_add _ _) rfl ?_
    refine fm_iald (pq := 29) (v := nI ((P.2.2 m i).1)) hX rfl rfl rfl (by omega) (by decide) ((hP6 m (by omega)).2.2 i (by omega)).1 d_R_escape_28 rfl ?_
    refine fm_z_eq (tgt := 36) (pq := 32) hX d_R_escape_29 rfl rfl (by omega) (fun h29 => ?_) (fun h29 => ?_)
    · show fm_G SR Y_R_escape X M (fm_ir (fun x M' => rKn P M M' ∧ ((∃ m i, qI P v w m i ∧ (P.2.2 m i).1 = 0 ∧ x = (if bt (an_rc (rA M' m).2.1 an_W) i = true then nI 2 else bI (bt (an_rc (rA M' m).2.1 (an_as (P.2.1 m) ||| (rA M' m).2.2)) i))) ∨ (¬ (∃ m i, qI P v w m i ∧ (P.2.2 m i).1 = 0) ∧ x = -1)))) 36 [some (.inr 0), some (.inl (nI m)), some (.inl (nI i))] [] M6
      refine fm_aload_n (pq := 37) hX d_R_escape_36 rfl rfl rfl ?_
      refine fm_iload_n (pq := 38) hX d_R_escape_37 rfl rfl rfl ?_
      refine fm_iload_n (pq := 39) hX d_R_escape_38 rfl rfl rfl ?_
      refine fm_callV_i (as := [.inl (nI m), .inl (nI i)]) (st := []) (pq := 42) hX rfl rfl cR_151 rfl im_R_escapeOf se_R_escapeOf (k_R_escapeOf (m := m) hm M6 hP6 hw (i := i) (by omega)) rfl rfl (Nat.le_of_ble_eq_true rfl) (Nat.le_of_ble_eq_true rfl) d_R_escape_39 rfl ?_
      refine fm_iret hX rfl d_R_escape_42 ?_
      first | exact ⟨_, rfl, hk6, Or.inl ⟨m, i, ⟨hm, hi, em, ei⟩, h29, rfl⟩⟩ | exact ⟨_, rfl, hk6, Or.inr ⟨fun ⟨m2, i2, q, _⟩ => absurd (c12.mpr ⟨m2, i2, q⟩) (by rw [h15]; decide), rfl⟩⟩ | exact ⟨_, rfl, hk6, Or.inr ⟨fun ⟨m2, i2, q, q0⟩ => by
        rw [qI_m q hm em] at h29
        rw [qI_i q ⟨by omega, (hw m2 q.1).1⟩ ei] at h29
        exact h29 q0, rfl⟩⟩
    · show fm_G SR Y_R_escape X M (fm_ir (fun x M' => rKn P M M' ∧ ((∃ m i, qI P v w m i ∧ (P.2.2 m i).1 = 0 ∧ x = (if bt (an_rc (rA M' m).2.1 an_W) i = true then nI 2 else bI (bt (an_rc (rA M' m).2.1 (an_as (P.2.1 m) ||| (rA M' m).2.2)) i))) ∨ (¬ (∃ m i, qI P v w m i ∧ (P.2.2 m i).1 = 0) ∧ x = -1)))) 32 [some (.inr 0), some (.inl (nI m)), some (.inl (nI i))] [] M6
      refine fm_iconst (pq := 33) (v := (-1)) hX d_R_escape_32 (by decide) rfl ?_
      refine fm_goto (tgt := 42) hX d_R_escape_33 rfl ?_
      refine fm_iret hX rfl d_R_escape_42 ?_
      first | exact ⟨_, rfl, hk6, Or.inl ⟨m, i, ⟨hm, hi, em, ei⟩, h29, rfl⟩⟩ | exact ⟨_, rfl, hk6, Or.inr ⟨fun ⟨m2, i2, q, _⟩ => absurd (c12.mpr ⟨m2, i2, q⟩) (by rw [h15]; decide), rfl⟩⟩ | exact ⟨_, rfl, hk6, Or.inr ⟨fun ⟨m2, i2, q, q0⟩ => by
        rw [qI_m q hm em] at h29
        rw [qI_i q ⟨by omega, (hw m2 q.1).1⟩ ei] at h29
        exact h29 q0, rfl⟩⟩
abbrev Y_R_fate : fm_Y := ("EscapeMillModel", b_R_fate, 3, (some .int), 7)
set_option maxRecDepth 100000 in
set_option maxHeartbeats 4000000 in
theorem k_R_fate {P : pr_T} (M : fm_M) (hP : rP M P) (hw : pr_wf P) (b : Bool) (hb : M 0 8 = bI b) (hT : b = true → rT P M) (v w : Int32) : fm_ct SR y_R_fate b_R_fate 3 (some .int) 7 [.inr 0, .inl v, .inl w] M (fm_ir (fun x M' => rKn P M M' ∧ ((∃ m i, qI P v w m i ∧ fa_is P m (rEs P M' m) i x) ∨ (¬ (∃ m i, qI P v w m i) ∧ x = -1)))) := by
  refine fm_of (ls := [some (.inr 0), some (.inl v), some (.inl w)]) (by decide) wsA_good (Nat.le_of_ble_eq_true rfl) rfl (fun X hX => ?_)
  have hi2 : ∀ n, n < 5 → P.2.1 n ≤ 2 := fun n hn => (hw n hn).2.1
  show fm_G SR Y_R_fate X M (fm_ir (fun x M' => rKn P M M' ∧ ((∃ m i, qI P v w m i ∧ fa_is P m (rEs P M' m) i x) ∨ (¬ (∃ m i, qI P v w m i) ∧ x = -1)))) 0 [some (.inr 0), some (.inl v), some (.inl w)] [] M
  refine fm_aload_n (pq := 1) hX d_R_fate_0 rfl rfl rfl ?_
  refine fm_iconst (pq := 2) (v := nI 0) hX d_R_fate_1 (by decide) rfl ?_
  refine fm_puti (pq := 5) hX fR_77 pR_0 rfl rfl rfl rfl d_R_fate_2 rfl ?_
  refine fm_aload_n (pq := 6) hX d_R_fate_5 rfl rfl rfl ?_
  refine fm_callV_r (as := []) (st := []) (pq := 9) hX rfl rfl cR_195 rfl im_R_know se_R_know (k_R_know (fm_up M 0 0 (nI 0)) (rP_cg hP (fun a j h1 h2 => fm_up_a (by omega))) hw b (by rw [fm_up_n (by omega)]; exact hb) (fun z => rT_cg hi2 (hT z) (fun a j h1 h2 => fm_up_a (by omega)))) rfl rfl (Nat.le_of_ble_eq_true rfl) (Nat.le_of_ble_eq_true rfl) d_R_fate_6 rfl (fun M6 c6 => ?_)
  have hP6 : rP M6 P := rP_cg hP (fun a j h1 h2 => by rw [c6.2.2 a j (by omega) (by omega), fm_up_a (by omega)])
  have hk6 := rKn_0 c6
  refine fm_aload_n (pq := 10) hX d_R_fate_9 rfl rfl rfl ?_
  refine fm_iload_n (pq := 11) hX d_R_fate_10 rfl rfl rfl ?_
  refine fm_iload_n (pq := 12) hX d_R_fate_11 rfl rfl rfl ?_
  refine fm_callV_b (as := [.inl v, .inl w]) (st := []) (pq := 15) hX rfl rfl cR_128 rfl im_R_isInstruction se_R_isInstruction (k_R_isIn M6 hP6 hw v w) rfl rfl (Nat.le_of_ble_eq_true rfl) (Nat.le_of_ble_eq_true rfl) d_R_fate_12 rfl (fun b12 c12 => ?_)
  refine fm_b1_eq (tgt := 27) (pq := 18) hX d_R_fate_15 rfl rfl (fun h15 => ?_) (fun h15 => ?_)
  · show fm_G SR Y_R_fate X M (fm_ir (fun x M' => rKn P M M' ∧ ((∃ m i, qI P v w m i ∧ fa_is P m (rEs P M' m) i x) ∨ (¬ (∃ m i, qI P v w m i) ∧ x = -1)))) 27 [some (.inr 0), some (.inl v), some (.inl w)] [] M6
    refine fm_iconst (pq := 28) (v := (-1)) hX d_R_fate_27 (by decide) rfl ?_
    refine fm_iret hX rfl d_R_fate_28 ?_
    first | exact ⟨_, rfl, hk21, Or.inl ⟨m, i, ⟨hm, hi, em, ei⟩, by rw [rEs_cg c21.2]; exact c21.1⟩⟩ | exact ⟨_, rfl, hk6, Or.inr ⟨fun ⟨m2, i2, q⟩ => absurd (c12.mpr ⟨m2, i2, q⟩) (by rw [h15]; decide), rfl⟩⟩
  · show fm_G SR Y_R_fate X M (fm_ir (fun x M' => rKn P M M' ∧ ((∃ m i, qI P v w m i ∧ fa_is P m (rEs P M' m) i x) ∨ (¬ (∃ m i, qI P v w m i) ∧ x = -1)))) 18 [some (.inr 0), some (.inl v), some (.inl w)] [] M6
    obtain ⟨m, i, hm, hi, em, ei⟩ := c12.mp h15
    have wl := (hw m hm).1
    have wo := ((hw m hm).2.2 i hi).1
    refine fm_lse (ls1 := [some (.inr 0), some (.inl (nI m)), some (.inl w)]) (by rw [em]) ?_
    refine fm_lse (ls1 := [some (.inr 0), some (.inl (nI m)), some (.inl (nI i))]) (by rw [ei]) ?_
    refine fm_aload_n (pq := 19) hX d_R_fate_18 rfl rfl rfl ?_
    refine fm_iload_n (pq := 20) hX d_R_fate_19 rfl rfl rfl ?_
    refine fm_iload_n (pq := 21) hX d_R_fate_20 rfl rfl rfl ?_
    refine fm_callV_x (as := [.inl (nI m), .inl (nI i)]) (st := []) (pq := 24) hX rfl rfl cR_198 rfl im_R_fateOf se_R_fateOf (k_R_fateOf (m := m) (by omega) M6 hP6 hw (i := i) (by omega)) rfl rfl (Nat.le_of_ble_eq_true rfl) (Nat.le_of_ble_eq_true rfl) d_R_fate_21 rfl (fun v21 M21 c21 => ?_)
    have hk21 := rKn_12 hi2 hk6 c21.2
    refine fm_goto (tgt := 28) hX d_R_fate_24 rfl ?_
    refine fm_iret hX rfl d_R_fate_28 ?_
    first | exact ⟨_, rfl, hk21, Or.inl ⟨m, i, ⟨hm, hi, em, ei⟩, by rw [rEs_cg c21.2]; exact c21.1⟩⟩ | exact ⟨_, rfl, hk6, Or.inr ⟨fun ⟨m2, i2, q⟩ => absurd (c12.mpr ⟨m2, i2, q⟩) (by rw [h15]; decide), rfl⟩⟩
abbrev Y_R_latest : fm_Y := ("EscapeMillModel", b_R_latest, 2, (some .int), 1)
set_option maxRecDepth 100000 in
set_option maxHeartbeats 4000000 in
theorem k_R_latest (M : fm_M) (v : Int32) : fm_ct SR y_R_latest b_R_latest 2 (some .int) 1 [.inr 0, .inl v] M (fm_ir (fun x M' => M' = fm_up M 0 0 (nI 0) ∧ ((∃ k, k < 5 ∧ v = nI k ∧ x = M 0 (rl_f k)) ∨ (¬ inR 5 v ∧ x = -1)))) := by
  refine fm_of (ls := [some (.inr 0), some (.inl v)]) (by decide) wsA_good (Nat.le_of_ble_eq_true rfl) rfl (fun X hX => ?_)
  show fm_G SR Y_R_latest X M (fm_ir (fun x M' => M' = fm_up M 0 0 (nI 0) ∧ ((∃ k, k < 5 ∧ v = nI k ∧ x = M 0 (rl_f k)) ∨ (¬ inR 5 v ∧ x = -1)))) 0 [some (.inr 0), some (.inl v)] [] M
  refine fm_aload_n (pq := 1) hX d_R_latest_0 rfl rfl rfl ?_
  refine fm_iconst (pq := 2) (v := nI 0) hX d_R_latest_1 (by decide) rfl ?_
  refine fm_puti (pq := 5) hX fR_77 pR_0 rfl rfl rfl rfl d_R_latest_2 rfl ?_
  refine fm_iload_n (pq := 6) hX d_R_latest_5 rfl rfl rfl ?_
  by_cases hv : inR 5 v
  · obtain ⟨k, hk, ev⟩ := hv
    rcases (by omega : k = 0 ∨ k = 1 ∨ k = 2 ∨ k = 3 ∨ k = 4) with e | e | e | e | e
    · refine fm_table (tgt := 40) (off := 34) hX d_R_latest_6 (by decide) (by rw [ev, e]; decide) (by decide) ?_
      refine fm_aload_n (pq := 41) hX d_R_latest_40 rfl rfl rfl ?_
      refine fm_geti (pq := 44) (v := (fm_up M 0 0 (nI 0)) 0 24) hX fR_160 rfl rfl rfl d_R_latest_41 rfl ?_
      refine fm_iret hX rfl d_R_latest_44 ?_
      first | exact ⟨_, rfl, rfl, Or.inr ⟨hv, rfl⟩⟩ | exact ⟨_, rfl, rfl, Or.inl ⟨k, hk, ev, by rw [e]; exact fm_up_b (by decide)⟩⟩
    · refine fm_table (tgt := 45) (off := 39) hX d_R_latest_6 (by decide) (by rw [ev, e]; decide) (by decide) ?_
      refine fm_aload_n (pq := 46) hX d_R_latest_45 rfl rfl rfl ?_
      refine fm_geti (pq := 49) (v := (fm_up M 0 0 (nI 0)) 0 25) hX fR_179 rfl rfl rfl d_R_latest_46 rfl ?_
      refine fm_iret hX rfl d_R_latest_49 ?_
      first | exact ⟨_, rfl, rfl, Or.inr ⟨hv, rfl⟩⟩ | exact ⟨_, rfl, rfl, Or.inl ⟨k, hk, ev, by rw [e]; exact fm_up_b (by decide)⟩⟩
    · refine fm_table (tgt := 50) (off := 44) hX d_R_latest_6 (by decide) (by rw [ev, e]; decide) (by decide) ?_
      refine fm_aload_n (pq := 51) hX d_R_latest_50 rfl rfl rfl ?_
      refine fm_geti (pq := 54) (v := (fm_up M 0 0 (nI 0)) 0 26) hX fR_201 rfl rfl rfl d_R_latest_51 rfl ?_
      refine fm_iret hX rfl d_R_latest_54 ?_
      first | exact ⟨_, rfl, rfl, Or.inr ⟨hv, rfl⟩⟩ | exact ⟨_, rfl, rfl, Or.inl ⟨k, hk, ev, by rw [e]; exact fm_up_b (by decide)⟩⟩
    · refine fm_table (tgt := 55) (off := 49) hX d_R_latest_6 (by decide) (by rw [ev, e]; decide) (by decide) ?_
      refine fm_aload_n (pq := 56) hX d_R_latest_55 rfl rfl rfl ?_
      refine fm_geti (pq := 59) (v := (fm_up M 0 0 (nI 0)) 0 22) hX fR_170 rfl rfl rfl d_R_latest_56 rfl ?_
      refine fm_iret hX rfl d_R_latest_59 ?_
      first | exact ⟨_, rfl, rfl, Or.inr ⟨hv, rfl⟩⟩ | exact ⟨_, rfl, rfl, Or.inl ⟨k, hk, ev, by rw [e]; exact fm_up_b (by decide)⟩⟩
    · refine fm_table (tgt := 60) (off := 54) hX d_R_latest_6 (by decide) (by rw [ev, e]; decide) (by decide) ?_
      refine fm_aload_n (pq := 61) hX d_R_latest_60 rfl rfl rfl ?_
      refine fm_geti (pq := 64) (v := (fm_up M 0 0 (nI 0)) 0 27) hX fR_167 rfl rfl rfl d_R_latest_61 rfl ?_
      refine fm_iret hX rfl d_R_latest_64 ?_
      first | exact ⟨_, rfl, rfl, Or.inr ⟨hv, rfl⟩⟩ | exact ⟨_, rfl, rfl, Or.inl ⟨k, hk, ev, by rw [e]; exact fm_up_b (by decide)⟩⟩
  · refine fm_tableOut (tgt := 65) hX d_R_latest_6 (inR_out hv) (by decide) ?_
    refine fm_iconst (pq := 66) (v := (-1)) hX d_R_latest_65 (by decide) rfl ?_
    refine fm_iret hX rfl d_R_latest_66 ?_
    first | exact ⟨_, rfl, rfl, Or.inr ⟨hv, rfl⟩⟩ | exact ⟨_, rfl, rfl, Or.inl ⟨k, hk, ev, by rw [e]; exact fm_up_b (by decide)⟩⟩
abbrev Y_R_clear : fm_Y := ("EscapeMillModel", b_R_clear, 3, (some .int), 2)
set_option maxRecDepth 100000 in
set_option maxHeartbeats 4000000 in
theorem k_R_clear {P : pr_T} (M : fm_M) (hP : rP M P) (hw : pr_wf P) (v : Int32) : fm_ct SR y_R_clear b_R_clear 3 (some .int) 2 [.inr 0, .inl v] M (fm_ir (fun x M' => (∃ m, m < 5 ∧ v = nI m ∧ x = nI (P.1 m) ∧ M' = rp_clr M m) ∨ (¬ inR 5 v ∧ x = 0 ∧ M' = fm_up M 0 0 (nI 1)))) := by
  refine fm_of (ls := [some (.inr 0), some (.inl v), none]) (by decide) wsA_good (Nat.le_of_ble_eq_true rfl) rfl (fun X hX => ?_)
  show fm_G SR Y_R_clear X M (fm_ir (fun x M' => (∃ m, m < 5 ∧ v = nI m ∧ x = nI (P.1 m) ∧ M' = rp_clr M m) ∨ (¬ inR 5 v ∧ x = 0 ∧ M' = fm_up M 0 0 (nI 1)))) 0 [some (.inr 0), some (.inl v), none] [] M
  refine fm_aload_n (pq := 1) hX d_R_clear_0 rfl rfl rfl ?_
  refine fm_iload_n (pq := 2) hX d_R_clear_1 rfl rfl rfl ?_
  refine fm_callS_b (as := [.inl v]) (st := [.inr 0]) (pq := 5) hX cR_81 st_R_isMethod (k_R_isM v M) rfl rfl (Nat.le_of_ble_eq_true rfl) (Nat.le_of_ble_eq_true rfl) d_R_clear_2 rfl (fun b2 c2 => ?_)
  refine fm_b1_eq (tgt := 12) (pq := 8) hX d_R_clear_5 rfl rfl (fun h5 => ?_) (fun h5 => ?_)
  · show fm_G SR Y_R_clear X M (fm_ir (fun x M' => (∃ m, m < 5 ∧ v = nI m ∧ x = nI (P.1 m) ∧ M' = rp_clr M m) ∨ (¬ inR 5 v ∧ x = 0 ∧ M' = fm_up M 0 0 (nI 1)))) 12 [some (.inr 0), some (.inl v), none] [.inr 0] M
    refine fm_iconst (pq := 13) (v := nI 1) hX d_R_clear_12 (by decide) rfl ?_
    refine fm_puti (pq := 16) hX fR_77 pR_0 rfl rfl rfl rfl d_R_clear_13 rfl ?_
    refine fm_aload_n (pq := 17) hX d_R_clear_16 rfl rfl rfl ?_
    refine fm_geti (pq := 20) (v := nI 1) hX fR_77 rfl rfl fm_up_s d_R_clear_17 rfl ?_
    refine fm_z_le (tgt := 25) (pq := 23) hX d_R_clear_20 rfl rfl (by omega) (fun h20 => ?_) (fun h20 => ?_)
    · exact absurd h20 (by decide)
    · show fm_G SR Y_R_clear X M (fm_ir (fun x M' => (∃ m, m < 5 ∧ v = nI m ∧ x = nI (P.1 m) ∧ M' = rp_clr M m) ∨ (¬ inR 5 v ∧ x = 0 ∧ M' = fm_up M 0 0 (nI 1)))) 23 [some (.inr 0), some (.inl v), none] [] (fm_up M 0 0 (nI 1))
      refine fm_iconst (pq := 24) (v := nI 0) hX d_R_clear_23 (by decide) rfl ?_
      refine fm_iret hX rfl d_R_clear_24 ?_
      first | exact ⟨_, rfl, Or.inl ⟨m, hm, em, rfl, rfl⟩⟩ | exact ⟨_, rfl, Or.inr ⟨fun z => absurd (c2.mpr z) (by rw [h5]; decide), rfl, rfl⟩⟩
  · show fm_G SR Y_R_clear X M (fm_ir (fun x M' => (∃ m, m < 5 ∧ v = nI m ∧ x = nI (P.1 m) ∧ M' = rp_clr M m) ∨ (¬ inR 5 v ∧ x = 0 ∧ M' = fm_up M 0 0 (nI 1)))) 8 [some (.inr 0), some (.inl v), none] [.inr 0] M
    obtain ⟨m, hm, em⟩ := c2.mp h5
    have wl := (hw m hm).1
    have wi := (hw m hm).2.1
    refine fm_lse (ls1 := [some (.inr 0), some (.inl (nI m)), none]) (by rw [em]) ?_
    refine fm_iconst (pq := 9) (v := nI 0) hX d_R_clear_8 (by decide) rfl ?_
    refine fm_goto (tgt := 13) hX d_R_clear_9 rfl ?_
    refine fm_puti (pq := 16) hX fR_77 pR_0 rfl rfl rfl rfl d_R_clear_13 rfl ?_
    refine fm_aload_n (pq := 17) hX d_R_clear_16 rfl rfl rfl ?_
    refine fm_geti (pq := 20) (v := nI 0) hX fR_77 rfl rfl fm_up_s d_R_clear_17 rfl ?_
    refine fm_z_le (tgt := 25) (pq := 23) hX d_R_clear_20 rfl rfl (by omega) (fun h20 => ?_) (fun h20 => ?_)
    · show fm_G SR Y_R_clear X M (fm_ir (fun x M' => (∃ m, m < 5 ∧ v = nI m ∧ x = nI (P.1 m) ∧ M' = rp_clr M m) ∨ (¬ inR 5 v ∧ x = 0 ∧ M' = fm_up M 0 0 (nI 1)))) 25 [some (.inr 0), some (.inl (nI m)), none] [] (fm_up M 0 0 (nI 0))
      refine fm_aload_n (pq := 26) hX d_R_clear_25 rfl rfl rfl ?_
      refine fm_getr (pq := 29) (q := 2) hX fR_13 rfl rfl d_R_clear_26 rfl ?_
      refine fm_iload_n (pq := 30) hX d_R_clear_29 rfl rfl rfl ?_
      refine fm_iald (pq := 31) (v := nI (P.1 m)) hX rfl rfl rfl (by omega) (by decide) ((rP_cg hP (fun a j h1 h2 => fm_up_a (by omega))) m (by omega)).1 d_R_clear_30 rfl ?_
      refine fm_istore_n (pq := 32) (ls1 := [some (.inr 0), some (.inl (nI m)), some (.inl (nI (P.1 m)))]) hX d_R_clear_31 rfl (by decide) rfl rfl ?_
      refine fm_aload_n (pq := 33) hX d_R_clear_32 rfl rfl rfl ?_
      refine fm_getr (pq := 36) (q := 2) hX fR_13 rfl rfl d_R_clear_33 rfl ?_
      refine fm_iload_n (pq := 37) hX d_R_clear_36 rfl rfl rfl ?_
      refine fm_iconst (pq := 38) (v := nI 0) hX d_R_clear_37 (by decide) rfl ?_
      refine fm_iast (pq := 39) hX rfl rfl rfl (by omega) (by decide) d_R_clear_38 rfl ?_
      refine fm_aload_n (pq := 40) hX d_R_clear_39 rfl rfl rfl ?_
      refine fm_iconst (pq := 41) (v := nI 0) hX d_R_clear_40 (by decide) rfl ?_
      refine fm_puti (pq := 44) hX fR_85 pR_8 rfl rfl (by decide) (by decide) d_R_clear_41 rfl ?_
      refine fm_iload_n (pq := 45) hX d_R_clear_44 rfl rfl rfl ?_
      refine fm_iret hX rfl d_R_clear_45 ?_
      first | exact ⟨_, rfl, Or.inl ⟨m, hm, em, rfl, rfl⟩⟩ | exact ⟨_, rfl, Or.inr ⟨fun z => absurd (c2.mpr z) (by rw [h5]; decide), rfl, rfl⟩⟩
    · exact absurd h20 (by decide)
abbrev Y_R_parameters : fm_Y := ("EscapeMillModel", b_R_parameters, 3, (some .boolean), 2)
set_option maxRecDepth 100000 in
set_option maxHeartbeats 4000000 in
theorem k_R_parameters {P : pr_T} (M : fm_M) (hP : rP M P) (hw : pr_wf P) (v w : Int32) : fm_ct SR y_R_parameters b_R_parameters 3 (some .boolean) 2 [.inr 0, .inl v, .inl w] M (fm_ir (fun x M' => (∃ m k, m < 5 ∧ k ≤ 2 ∧ v = nI m ∧ w = nI k ∧ x = 1 ∧ M' = rp_par M m k) ∨ (¬ (inR 5 v ∧ inR 3 w) ∧ x = 0 ∧ M' = fm_up M 0 0 (nI 1)))) := by
  refine fm_of (ls := [some (.inr 0), some (.inl v), some (.inl w)]) (by decide) wsA_good (Nat.le_of_ble_eq_true rfl) rfl (fun X hX => ?_)
  show fm_G SR Y_R_parameters X M (fm_ir (fun x M' => (∃ m k, m < 5 ∧ k ≤ 2 ∧ v = nI m ∧ w = nI k ∧ x = 1 ∧ M' = rp_par M m k) ∨ (¬ (inR 5 v ∧ inR 3 w) ∧ x = 0 ∧ M' = fm_up M 0 0 (nI 1)))) 0 [some (.inr 0), some (.inl v), some (.inl w)] [] M
  refine fm_aload_n (pq := 1) hX d_R_parameters_0 rfl rfl rfl ?_
  refine fm_iload_n (pq := 2) hX d_R_parameters_1 rfl rfl rfl ?_
  refine fm_callS_b (as := [.inl v]) (st := [.inr 0]) (pq := 5) hX cR_81 st_R_isMethod (k_R_isM v M) rfl rfl (Nat.le_of_ble_eq_true rfl) (Nat.le_of_ble_eq_true rfl) d_R_parameters_2 rfl (fun b2 c2 => ?_)
  refine fm_b1_eq (tgt := 17) (pq := 8) hX d_R_parameters_5 rfl rfl (fun h5 => ?_) (fun h5 => ?_)
  · show fm_G SR Y_R_parameters X M (fm_ir (fun x M' => (∃ m k, m < 5 ∧ k ≤ 2 ∧ v = nI m ∧ w = nI k ∧ x = 1 ∧ M' = rp_par M m k) ∨ (¬ (inR 5 v ∧ inR 3 w) ∧ x = 0 ∧ M' = fm_up M 0 0 (nI 1)))) 17 [some (.inr 0), some (.inl v), some (.inl w)] [.inr 0] M
    refine fm_iconst (pq := 18) (v := nI 1) hX d_R_parameters_17 (by decide) rfl ?_
    refine fm_goto (tgt := 22) hX d_R_parameters_18 rfl ?_
    refine fm_puti (pq := 25) hX fR_77 pR_0 rfl rfl rfl rfl d_R_parameters_22 rfl ?_
    refine fm_aload_n (pq := 26) hX d_R_parameters_25 rfl rfl rfl ?_
    refine fm_geti (pq := 29) (v := nI 1) hX fR_77 rfl rfl fm_up_s d_R_parameters_26 rfl ?_
    refine fm_z_le (tgt := 34) (pq := 32) hX d_R_parameters_29 rfl rfl (by omega) (fun h29 => ?_) (fun h29 => ?_)
    · exact absurd h29 (by decide)
    · show fm_G SR Y_R_parameters X M (fm_ir (fun x M' => (∃ m k, m < 5 ∧ k ≤ 2 ∧ v = nI m ∧ w = nI k ∧ x = 1 ∧ M' = rp_par M m k) ∨ (¬ (inR 5 v ∧ inR 3 w) ∧ x = 0 ∧ M' = fm_up M 0 0 (nI 1)))) 32 [some (.inr 0), some (.inl v), some (.inl w)] [] (fm_up M 0 0 (nI 1))
      refine fm_iconst (pq := 33) (v := nI 0) hX d_R_parameters_32 (by decide) rfl ?_
      refine fm_zret hX rfl (by decide) d_R_parameters_33 ?_
      first | exact ⟨_, rfl, Or.inl ⟨m, k, hm, by omega, em, ek, rfl, rfl⟩⟩ | exact ⟨_, rfl, Or.inr ⟨fun z => absurd (c2.mpr z.1) (by rw [h5]; decide), rfl, rfl⟩⟩ | exact ⟨_, rfl, Or.inr ⟨fun z => inR_n0 (by decide) h9 z.2, rfl, rfl⟩⟩ | exact ⟨_, rfl, Or.inr ⟨fun z => inR_n2 (n := 2) (by decide) h14 z.2, rfl, rfl⟩⟩
  · show fm_G SR Y_R_parameters X M (fm_ir (fun x M' => (∃ m k, m < 5 ∧ k ≤ 2 ∧ v = nI m ∧ w = nI k ∧ x = 1 ∧ M' = rp_par M m k) ∨ (¬ (inR 5 v ∧ inR 3 w) ∧ x = 0 ∧ M' = fm_up M 0 0 (nI 1)))) 8 [some (.inr 0), some (.inl v), some (.inl w)] [.inr 0] M
    obtain ⟨m, hm, em⟩ := c2.mp h5
    have wl := (hw m hm).1
    have wi := (hw m hm).2.1
    refine fm_lse (ls1 := [some (.inr 0), some (.inl (nI m)), some (.inl w)]) (by rw [em]) ?_
    refine fm_iload_n (pq := 9) hX d_R_parameters_8 rfl rfl rfl ?_
    refine fm_if_lt (tgt := 17) (pq := 12) hX d_R_parameters_9 rfl rfl (fun h9 => ?_) (fun h9 => ?_)
    · show fm_G SR Y_R_parameters X M (fm_ir (fun x M' => (∃ m k, m < 5 ∧ k ≤ 2 ∧ v = nI m ∧ w = nI k ∧ x = 1 ∧ M' = rp_par M m k) ∨ (¬ (inR 5 v ∧ inR 3 w) ∧ x = 0 ∧ M' = fm_up M 0 0 (nI 1)))) 17 [some (.inr 0), some (.inl (nI m)), some (.inl w)] [.inr 0] M
      refine fm_iconst (pq := 18) (v := nI 1) hX d_R_parameters_17 (by decide) rfl ?_
      refine fm_goto (tgt := 22) hX d_R_parameters_18 rfl ?_
      refine fm_puti (pq := 25) hX fR_77 pR_0 rfl rfl rfl rfl d_R_parameters_22 rfl ?_
      refine fm_aload_n (pq := 26) hX d_R_parameters_25 rfl rfl rfl ?_
      refine fm_geti (pq := 29) (v := nI 1) hX fR_77 rfl rfl fm_up_s d_R_parameters_26 rfl ?_
      refine fm_z_le (tgt := 34) (pq := 32) hX d_R_parameters_29 rfl rfl (by omega) (fun h29 => ?_) (fun h29 => ?_)
      · exact absurd h29 (by decide)
      · show fm_G SR Y_R_parameters X M (fm_ir (fun x M' => (∃ m k, m < 5 ∧ k ≤ 2 ∧ v = nI m ∧ w = nI k ∧ x = 1 ∧ M' = rp_par M m k) ∨ (¬ (inR 5 v ∧ inR 3 w) ∧ x = 0 ∧ M' = fm_up M 0 0 (nI 1)))) 32 [some (.inr 0), some (.inl (nI m)), some (.inl w)] [] (fm_up M 0 0 (nI 1))
        refine fm_iconst (pq := 33) (v := nI 0) hX d_R_parameters_32 (by decide) rfl ?_
        refine fm_zret hX rfl (by decide) d_R_parameters_33 ?_
        first | exact ⟨_, rfl, Or.inl ⟨m, k, hm, by omega, em, ek, rfl, rfl⟩⟩ | exact ⟨_, rfl, Or.inr ⟨fun z => absurd (c2.mpr z.1) (by rw [h5]; decide), rfl, rfl⟩⟩ | exact ⟨_, rfl, Or.inr ⟨fun z => inR_n0 (by decide) h9 z.2, rfl, rfl⟩⟩ | exact ⟨_, rfl, Or.inr ⟨fun z => inR_n2 (n := 2) (by decide) h14 z.2, rfl, rfl⟩⟩
    · show fm_G SR Y_R_parameters X M (fm_ir (fun x M' => (∃ m k, m < 5 ∧ k ≤ 2 ∧ v = nI m ∧ w = nI k ∧ x = 1 ∧ M' = rp_par M m k) ∨ (¬ (inR 5 v ∧ inR 3 w) ∧ x = 0 ∧ M' = fm_up M 0 0 (nI 1)))) 12 [some (.inr 0), some (.inl (nI m)), some (.inl w)] [.inr 0] M
      refine fm_iload_n (pq := 13) hX d_R_parameters_12 rfl rfl rfl ?_
      refine fm_iconst (pq := 14) (v := nI 2) hX d_R_parameters_13 (by decide) rfl ?_
      refine fm_icmp_le (tgt := 21) (pq := 17) hX d_R_parameters_14 rfl rfl (fun h14 => ?_) (fun h14 => ?_)
      · show fm_G SR Y_R_parameters X M (fm_ir (fun x M' => (∃ m k, m < 5 ∧ k ≤ 2 ∧ v = nI m ∧ w = nI k ∧ x = 1 ∧ M' = rp_par M m k) ∨ (¬ (inR 5 v ∧ inR 3 w) ∧ x = 0 ∧ M' = fm_up M 0 0 (nI 1)))) 21 [some (.inr 0), some (.inl (nI m)), some (.inl w)] [.inr 0] M
        obtain ⟨k, hk, ek⟩ := inR_s (n := 2) (by decide) h9 h14
        refine fm_lse (ls1 := [some (.inr 0), some (.inl (nI m)), some (.inl (nI k))]) (by rw [ek]) ?_
        refine fm_iconst (pq := 22) (v := nI 0) hX d_R_parameters_21 (by decide) rfl ?_
        refine fm_puti (pq := 25) hX fR_77 pR_0 rfl rfl rfl rfl d_R_parameters_22 rfl ?_
        refine fm_aload_n (pq := 26) hX d_R_parameters_25 rfl rfl rfl ?_
        refine fm_geti (pq := 29) (v := nI 0) hX fR_77 rfl rfl fm_up_s d_R_parameters_26 rfl ?_
        refine fm_z_le (tgt := 34) (pq := 32) hX d_R_parameters_29 rfl rfl (by omega) (fun h29 => ?_) (fun h29 => ?_)
        · show fm_G SR Y_R_parameters X M (fm_ir (fun x M' => (∃ m k, m < 5 ∧ k ≤ 2 ∧ v = nI m ∧ w = nI k ∧ x = 1 ∧ M' = rp_par M m k) ∨ (¬ (inR 5 v ∧ inR 3 w) ∧ x = 0 ∧ M' = fm_up M 0 0 (nI 1)))) 34 [some (.inr 0), some (.inl (nI m)), some (.inl (nI k))] [] (fm_up M 0 0 (nI 0))
          refine fm_aload_n (pq := 35) hX d_R_parameters_34 rfl rfl rfl ?_
          refine fm_getr (pq := 38) (q := 1) hX fR_7 rfl rfl d_R_parameters_35 rfl ?_
          refine fm_iload_n (pq := 39) hX d_R_parameters_38 rfl rfl rfl ?_
          refine fm_iload_n (pq := 40) hX d_R_parameters_39 rfl rfl rfl ?_
          refine fm_iast (pq := 41) hX rfl rfl rfl (by omega) (by decide) d_R_parameters_40 rfl ?_
          refine fm_aload_n (pq := 42) hX d_R_parameters_41 rfl rfl rfl ?_
          refine fm_iconst (pq := 43) (v := nI 0) hX d_R_parameters_42 (by decide) rfl ?_
          refine fm_puti (pq := 46) hX fR_85 pR_8 rfl rfl (by decide) (by decide) d_R_parameters_43 rfl ?_
          refine fm_iconst (pq := 47) (v := nI 1) hX d_R_parameters_46 (by decide) rfl ?_
          refine fm_zret hX rfl (by decide) d_R_parameters_47 ?_
          first | exact ⟨_, rfl, Or.inl ⟨m, k, hm, by omega, em, ek, rfl, rfl⟩⟩ | exact ⟨_, rfl, Or.inr ⟨fun z => absurd (c2.mpr z.1) (by rw [h5]; decide), rfl, rfl⟩⟩ | exact ⟨_, rfl, Or.inr ⟨fun z => inR_n0 (by decide) h9 z.2, rfl, rfl⟩⟩ | exact ⟨_, rfl, Or.inr ⟨fun z => inR_n2 (n := 2) (by decide) h14 z.2, rfl, rfl⟩⟩
        · exact absurd h29 (by decide)
      · show fm_G SR Y_R_parameters X M (fm_ir (fun x M' => (∃ m k, m < 5 ∧ k ≤ 2 ∧ v = nI m ∧ w = nI k ∧ x = 1 ∧ M' = rp_par M m k) ∨ (¬ (inR 5 v ∧ inR 3 w) ∧ x = 0 ∧ M' = fm_up M 0 0 (nI 1)))) 17 [some (.inr 0), some (.inl (nI m)), some (.inl w)] [.inr 0] M
        refine fm_iconst (pq := 18) (v := nI 1) hX d_R_parameters_17 (by decide) rfl ?_
        refine fm_goto (tgt := 22) hX d_R_parameters_18 rfl ?_
        refine fm_puti (pq := 25) hX fR_77 pR_0 rfl rfl rfl rfl d_R_parameters_22 rfl ?_
        refine fm_aload_n (pq := 26) hX d_R_parameters_25 rfl rfl rfl ?_
        refine fm_geti (pq := 29) (v := nI 1) hX fR_77 rfl rfl fm_up_s d_R_parameters_26 rfl ?_
        refine fm_z_le (tgt := 34) (pq := 32) hX d_R_parameters_29 rfl rfl (by omega) (fun h29 => ?_) (fun h29 => ?_)
        · exact absurd h29 (by decide)
        · show fm_G SR Y_R_parameters X M (fm_ir (fun x M' => (∃ m k, m < 5 ∧ k ≤ 2 ∧ v = nI m ∧ w = nI k ∧ x = 1 ∧ M' = rp_par M m k) ∨ (¬ (inR 5 v ∧ inR 3 w) ∧ x = 0 ∧ M' = fm_up M 0 0 (nI 1)))) 32 [some (.inr 0), some (.inl (nI m)), some (.inl w)] [] (fm_up M 0 0 (nI 1))
          refine fm_iconst (pq := 33) (v := nI 0) hX d_R_parameters_32 (by decide) rfl ?_
          refine fm_zret hX rfl (by decide) d_R_parameters_33 ?_
          first | exact ⟨_, rfl, Or.inl ⟨m, k, hm, by omega, em, ek, rfl, rfl⟩⟩ | exact ⟨_, rfl, Or.inr ⟨fun z => absurd (c2.mpr z.1) (by rw [h5]; decide), rfl, rfl⟩⟩ | exact ⟨_, rfl, Or.inr ⟨fun z => inR_n0 (by decide) h9 z.2, rfl, rfl⟩⟩ | exact ⟨_, rfl, Or.inr ⟨fun z => inR_n2 (n := 2) (by decide) h14 z.2, rfl, rfl⟩⟩
abbrev Y_R_shown : fm_Y := ("EscapeMillModel", b_R_shown, 2, (some .int), 1)
set_option maxRecDepth 100000 in
set_option maxHeartbeats 4000000 in
theorem k_R_shown (M : fm_M) {sh : Nat} (hsh : M 0 25 = nI sh) (hs4 : sh < 1000) (v : Int32) : fm_ct SR y_R_shown b_R_shown 2 (some .int) 1 [.inr 0, .inl v] M (fm_ir (fun x M' => (∃ k, k < 32 ∧ k < sh ∧ v = nI k ∧ x = M 21 k ∧ M' = fm_up M 0 0 (nI 0)) ∨ (¬ (∃ k, k < 32 ∧ k < sh ∧ v = nI k) ∧ x = 0 ∧ M' = fm_up M 0 0 (nI 1)))) := by
  refine fm_of (ls := [some (.inr 0), some (.inl v)]) (by decide) wsA_good (Nat.le_of_ble_eq_true rfl) rfl (fun X hX => ?_)
  show fm_G SR Y_R_shown X M (fm_ir (fun x M' => (∃ k, k < 32 ∧ k < sh ∧ v = nI k ∧ x = M 21 k ∧ M' = fm_up M 0 0 (nI 0)) ∨ (¬ (∃ k, k < 32 ∧ k < sh ∧ v = nI k) ∧ x = 0 ∧ M' = fm_up M 0 0 (nI 1)))) 0 [some (.inr 0), some (.inl v)] [] M
  refine fm_aload_n (pq := 1) hX d_R_shown_0 rfl rfl rfl ?_
  refine fm_iload_n (pq := 2) hX d_R_shown_1 rfl rfl rfl ?_
  refine fm_if_lt (tgt := 19) (pq := 5) hX d_R_shown_2 rfl rfl (fun h2 => ?_) (fun h2 => ?_)
  · show fm_G SR Y_R_shown X M (fm_ir (fun x M' => (∃ k, k < 32 ∧ k < sh ∧ v = nI k ∧ x = M 21 k ∧ M' = fm_up M 0 0 (nI 0)) ∨ (¬ (∃ k, k < 32 ∧ k < sh ∧ v = nI k) ∧ x = 0 ∧ M' = fm_up M 0 0 (nI 1)))) 19 [some (.inr 0), some (.inl v)] [.inr 0] M
    refine fm_iconst (pq := 20) (v := nI 1) hX d_R_shown_19 (by decide) rfl ?_
    refine fm_goto (tgt := 24) hX d_R_shown_20 rfl ?_
    refine fm_puti (pq := 27) hX fR_77 pR_0 rfl rfl rfl rfl d_R_shown_24 rfl ?_
    refine fm_aload_n (pq := 28) hX d_R_shown_27 rfl rfl rfl ?_
    refine fm_geti (pq := 31) (v := nI 1) hX fR_77 rfl rfl fm_up_s d_R_shown_28 rfl ?_
    refine fm_z_le (tgt := 38) (pq := 34) hX d_R_shown_31 rfl rfl (by omega) (fun h31 => ?_) (fun h31 => ?_)
    · exact absurd h31 (by decide)
    · show fm_G SR Y_R_shown X M (fm_ir (fun x M' => (∃ k, k < 32 ∧ k < sh ∧ v = nI k ∧ x = M 21 k ∧ M' = fm_up M 0 0 (nI 0)) ∨ (¬ (∃ k, k < 32 ∧ k < sh ∧ v = nI k) ∧ x = 0 ∧ M' = fm_up M 0 0 (nI 1)))) 34 [some (.inr 0), some (.inl v)] [] (fm_up M 0 0 (nI 1))
      refine fm_iconst (pq := 35) (v := nI 0) hX d_R_shown_34 (by decide) rfl ?_
      refine fm_goto (tgt := 44) hX d_R_shown_35 rfl ?_
      refine fm_iret hX rfl d_R_shown_44 ?_
      first | exact ⟨_, rfl, Or.inl ⟨k, hk, (nI_ltI (by omega) (by omega)).mp (by rw [← ek]; exact Int32.not_le.mp h10), ek, fm_up_a (by decide), rfl⟩⟩ | exact ⟨_, rfl, Or.inr ⟨fun ⟨k, q1, q2, q3⟩ => inR_n0 (n := 32) (by decide) h2 ⟨k, q1, q3⟩, rfl, rfl⟩⟩ | exact ⟨_, rfl, Or.inr ⟨fun ⟨k, q1, q2, q3⟩ => absurd h10 (by rw [q3, nI_leI (by omega) (by omega)]; omega), rfl, rfl⟩⟩ | exact ⟨_, rfl, Or.inr ⟨fun ⟨k, q1, q2, q3⟩ => inR_n1 (n := 32) (by decide) h16 ⟨k, q1, q3⟩, rfl, rfl⟩⟩
  · show fm_G SR Y_R_shown X M (fm_ir (fun x M' => (∃ k, k < 32 ∧ k < sh ∧ v = nI k ∧ x = M 21 k ∧ M' = fm_up M 0 0 (nI 0)) ∨ (¬ (∃ k, k < 32 ∧ k < sh ∧ v = nI k) ∧ x = 0 ∧ M' = fm_up M 0 0 (nI 1)))) 5 [some (.inr 0), some (.inl v)] [.inr 0] M
    refine fm_iload_n (pq := 6) hX d_R_shown_5 rfl rfl rfl ?_
    refine fm_aload_n (pq := 7) hX d_R_shown_6 rfl rfl rfl ?_
    refine fm_geti (pq := 10) (v := nI sh) hX fR_179 rfl rfl hsh d_R_shown_7 rfl ?_
    refine fm_icmp_ge (tgt := 19) (pq := 13) hX d_R_shown_10 rfl rfl (fun h10 => ?_) (fun h10 => ?_)
    · show fm_G SR Y_R_shown X M (fm_ir (fun x M' => (∃ k, k < 32 ∧ k < sh ∧ v = nI k ∧ x = M 21 k ∧ M' = fm_up M 0 0 (nI 0)) ∨ (¬ (∃ k, k < 32 ∧ k < sh ∧ v = nI k) ∧ x = 0 ∧ M' = fm_up M 0 0 (nI 1)))) 19 [some (.inr 0), some (.inl v)] [.inr 0] M
      refine fm_iconst (pq := 20) (v := nI 1) hX d_R_shown_19 (by decide) rfl ?_
      refine fm_goto (tgt := 24) hX d_R_shown_20 rfl ?_
      refine fm_puti (pq := 27) hX fR_77 pR_0 rfl rfl rfl rfl d_R_shown_24 rfl ?_
      refine fm_aload_n (pq := 28) hX d_R_shown_27 rfl rfl rfl ?_
      refine fm_geti (pq := 31) (v := nI 1) hX fR_77 rfl rfl fm_up_s d_R_shown_28 rfl ?_
      refine fm_z_le (tgt := 38) (pq := 34) hX d_R_shown_31 rfl rfl (by omega) (fun h31 => ?_) (fun h31 => ?_)
      · exact absurd h31 (by decide)
      · show fm_G SR Y_R_shown X M (fm_ir (fun x M' => (∃ k, k < 32 ∧ k < sh ∧ v = nI k ∧ x = M 21 k ∧ M' = fm_up M 0 0 (nI 0)) ∨ (¬ (∃ k, k < 32 ∧ k < sh ∧ v = nI k) ∧ x = 0 ∧ M' = fm_up M 0 0 (nI 1)))) 34 [some (.inr 0), some (.inl v)] [] (fm_up M 0 0 (nI 1))
        refine fm_iconst (pq := 35) (v := nI 0) hX d_R_shown_34 (by decide) rfl ?_
        refine fm_goto (tgt := 44) hX d_R_shown_35 rfl ?_
        refine fm_iret hX rfl d_R_shown_44 ?_
        first | exact ⟨_, rfl, Or.inl ⟨k, hk, (nI_ltI (by omega) (by omega)).mp (by rw [← ek]; exact Int32.not_le.mp h10), ek, fm_up_a (by decide), rfl⟩⟩ | exact ⟨_, rfl, Or.inr ⟨fun ⟨k, q1, q2, q3⟩ => inR_n0 (n := 32) (by decide) h2 ⟨k, q1, q3⟩, rfl, rfl⟩⟩ | exact ⟨_, rfl, Or.inr ⟨fun ⟨k, q1, q2, q3⟩ => absurd h10 (by rw [q3, nI_leI (by omega) (by omega)]; omega), rfl, rfl⟩⟩ | exact ⟨_, rfl, Or.inr ⟨fun ⟨k, q1, q2, q3⟩ => inR_n1 (n := 32) (by decide) h16 ⟨k, q1, q3⟩, rfl, rfl⟩⟩
    · show fm_G SR Y_R_shown X M (fm_ir (fun x M' => (∃ k, k < 32 ∧ k < sh ∧ v = nI k ∧ x = M 21 k ∧ M' = fm_up M 0 0 (nI 0)) ∨ (¬ (∃ k, k < 32 ∧ k < sh ∧ v = nI k) ∧ x = 0 ∧ M' = fm_up M 0 0 (nI 1)))) 13 [some (.inr 0), some (.inl v)] [.inr 0] M
      refine fm_iload_n (pq := 14) hX d_R_shown_13 rfl rfl rfl ?_
      refine fm_bipush (pq := 16) (v := nI 32) hX d_R_shown_14 (by decide) rfl ?_
      refine fm_icmp_lt (tgt := 23) (pq := 19) hX d_R_shown_16 rfl rfl (fun h16 => ?_) (fun h16 => ?_)
      · show fm_G SR Y_R_shown X M (fm_ir (fun x M' => (∃ k, k < 32 ∧ k < sh ∧ v = nI k ∧ x = M 21 k ∧ M' = fm_up M 0 0 (nI 0)) ∨ (¬ (∃ k, k < 32 ∧ k < sh ∧ v = nI k) ∧ x = 0 ∧ M' = fm_up M 0 0 (nI 1)))) 23 [some (.inr 0), some (.inl v)] [.inr 0] M
        obtain ⟨k, hk, ek⟩ := inR_y (n := 32) (by decide) h2 h16
        refine fm_lse (ls1 := [some (.inr 0), some (.inl (nI k))]) (by rw [ek]) ?_
        refine fm_iconst (pq := 24) (v := nI 0) hX d_R_shown_23 (by decide) rfl ?_
        refine fm_puti (pq := 27) hX fR_77 pR_0 rfl rfl rfl rfl d_R_shown_24 rfl ?_
        refine fm_aload_n (pq := 28) hX d_R_shown_27 rfl rfl rfl ?_
        refine fm_geti (pq := 31) (v := nI 0) hX fR_77 rfl rfl fm_up_s d_R_shown_28 rfl ?_
        refine fm_z_le (tgt := 38) (pq := 34) hX d_R_shown_31 rfl rfl (by omega) (fun h31 => ?_) (fun h31 => ?_)
        · show fm_G SR Y_R_shown X M (fm_ir (fun x M' => (∃ k, k < 32 ∧ k < sh ∧ v = nI k ∧ x = M 21 k ∧ M' = fm_up M 0 0 (nI 0)) ∨ (¬ (∃ k, k < 32 ∧ k < sh ∧ v = nI k) ∧ x = 0 ∧ M' = fm_up M 0 0 (nI 1)))) 38 [some (.inr 0), some (.inl (nI k))] [] (fm_up M 0 0 (nI 0))
          refine fm_aload_n (pq := 39) hX d_R_shown_38 rfl rfl rfl ?_
          refine fm_getr (pq := 42) (q := 21) hX fR_71 rfl rfl d_R_shown_39 rfl ?_
          refine fm_iload_n (pq := 43) hX d_R_shown_42 rfl rfl rfl ?_
          refine fm_iald (pq := 44) (v := (fm_up M 0 0 (nI 0)) 21 k) hX rfl rfl rfl (by omega) (by decide) rfl d_R_shown_43 rfl ?_
          refine fm_iret hX rfl d_R_shown_44 ?_
          first | exact ⟨_, rfl, Or.inl ⟨k, hk, (nI_ltI (by omega) (by omega)).mp (by rw [← ek]; exact Int32.not_le.mp h10), ek, fm_up_a (by decide), rfl⟩⟩ | exact ⟨_, rfl, Or.inr ⟨fun ⟨k, q1, q2, q3⟩ => inR_n0 (n := 32) (by decide) h2 ⟨k, q1, q3⟩, rfl, rfl⟩⟩ | exact ⟨_, rfl, Or.inr ⟨fun ⟨k, q1, q2, q3⟩ => absurd h10 (by rw [q3, nI_leI (by omega) (by omega)]; omega), rfl, rfl⟩⟩ | exact ⟨_, rfl, Or.inr ⟨fun ⟨k, q1, q2, q3⟩ => inR_n1 (n := 32) (by decide) h16 ⟨k, q1, q3⟩, rfl, rfl⟩⟩
        · exact absurd h31 (by decide)
      · show fm_G SR Y_R_shown X M (fm_ir (fun x M' => (∃ k, k < 32 ∧ k < sh ∧ v = nI k ∧ x = M 21 k ∧ M' = fm_up M 0 0 (nI 0)) ∨ (¬ (∃ k, k < 32 ∧ k < sh ∧ v = nI k) ∧ x = 0 ∧ M' = fm_up M 0 0 (nI 1)))) 19 [some (.inr 0), some (.inl v)] [.inr 0] M
        refine fm_iconst (pq := 20) (v := nI 1) hX d_R_shown_19 (by decide) rfl ?_
        refine fm_goto (tgt := 24) hX d_R_shown_20 rfl ?_
        refine fm_puti (pq := 27) hX fR_77 pR_0 rfl rfl rfl rfl d_R_shown_24 rfl ?_
        refine fm_aload_n (pq := 28) hX d_R_shown_27 rfl rfl rfl ?_
        refine fm_geti (pq := 31) (v := nI 1) hX fR_77 rfl rfl fm_up_s d_R_shown_28 rfl ?_
        refine fm_z_le (tgt := 38) (pq := 34) hX d_R_shown_31 rfl rfl (by omega) (fun h31 => ?_) (fun h31 => ?_)
        · exact absurd h31 (by decide)
        · show fm_G SR Y_R_shown X M (fm_ir (fun x M' => (∃ k, k < 32 ∧ k < sh ∧ v = nI k ∧ x = M 21 k ∧ M' = fm_up M 0 0 (nI 0)) ∨ (¬ (∃ k, k < 32 ∧ k < sh ∧ v = nI k) ∧ x = 0 ∧ M' = fm_up M 0 0 (nI 1)))) 34 [some (.inr 0), some (.inl v)] [] (fm_up M 0 0 (nI 1))
          refine fm_iconst (pq := 35) (v := nI 0) hX d_R_shown_34 (by decide) rfl ?_
          refine fm_goto (tgt := 44) hX d_R_shown_35 rfl ?_
          refine fm_iret hX rfl d_R_shown_44 ?_
          first | exact ⟨_, rfl, Or.inl ⟨k, hk, (nI_ltI (by omega) (by omega)).mp (by rw [← ek]; exact Int32.not_le.mp h10), ek, fm_up_a (by decide), rfl⟩⟩ | exact ⟨_, rfl, Or.inr ⟨fun ⟨k, q1, q2, q3⟩ => inR_n0 (n := 32) (by decide) h2 ⟨k, q1, q3⟩, rfl, rfl⟩⟩ | exact ⟨_, rfl, Or.inr ⟨fun ⟨k, q1, q2, q3⟩ => absurd h10 (by rw [q3, nI_leI (by omega) (by omega)]; omega), rfl, rfl⟩⟩ | exact ⟨_, rfl, Or.inr ⟨fun ⟨k, q1, q2, q3⟩ => inR_n1 (n := 32) (by decide) h16 ⟨k, q1, q3⟩, rfl, rfl⟩⟩
abbrev Y_R_put : fm_Y := ("EscapeMillModel", b_R_put, 9, (some .int), 2)
set_option maxRecDepth 100000 in
set_option maxHeartbeats 4000000 in
theorem k_R_put {P : pr_T} (M : fm_M) (hP : rP M P) (hw : pr_wf P) (v o x y z n : Int32) : fm_ct SR y_R_put b_R_put 9 (some .int) 2 [.inr 0, .inl v, .inl o, .inl x, .inl y, .inl z, .inl n] M (fm_ir (fun ans M' => (∃ m J, m < 5 ∧ v = nI m ∧ okI o x y z n J ∧ ((P.1 m = 24 ∧ ans = 0 ∧ M' = fm_up M 0 0 (nI 2)) ∨ (P.1 m < 24 ∧ ans = nI (P.1 m) ∧ M' = rp_put M P m J))) ∨ (¬ (inR 5 v ∧ ∃ J, okI o x y z n J) ∧ ans = 0 ∧ M' = fm_up M 0 0 (nI 1)))) := by
  refine fm_of (ls := [some (.inr 0), some (.inl v), some (.inl o), some (.inl x), some (.inl y), some (.inl z), some (.inl n), none, none]) (by decide) wsA_good (Nat.le_of_ble_eq_true rfl) rfl (fun X hX => ?_)
  show fm_G SR Y_R_put X M (fm_ir (fun ans M' => (∃ m J, m < 5 ∧ v = nI m ∧ okI o x y z n J ∧ ((P.1 m = 24 ∧ ans = 0 ∧ M' = fm_up M 0 0 (nI 2)) ∨ (P.1 m < 24 ∧ ans = nI (P.1 m) ∧ M' = rp_put M P m J))) ∨ (¬ (inR 5 v ∧ ∃ J, okI o x y z n J) ∧ ans = 0 ∧ M' = fm_up M 0 0 (nI 1)))) 0 [some (.inr 0), some (.inl v), some (.inl o), some (.inl x), some (.inl y), some (.inl z), some (.inl n), none, none] [] M
  have L76 : ∀ b : Bool, (b = true ↔ (inR 5 v ∧ ∃ J, okI o x y z n J)) → fm_G SR Y_R_put X M (fm_ir (fun ans M' => (∃ m J, m < 5 ∧ v = nI m ∧ okI o x y z n J ∧ ((P.1 m = 24 ∧ ans = 0 ∧ M' = fm_up M 0 0 (nI 2)) ∨ (P.1 m < 24 ∧ ans = nI (P.1 m) ∧ M' = rp_put M P m J))) ∨ (¬ (inR 5 v ∧ ∃ J, okI o x y z n J) ∧ ans = 0 ∧ M' = fm_up M 0 0 (nI 1)))) 76 [some (.inr 0), some (.inl v), some (.inl o), some (.inl x), some (.inl y), some (.inl z), some (.inl n), none, none] [.inl (bI b)] M := by
    intro b76 hb76
    refine fm_istore (pq := 78) (ls1 := [some (.inr 0), some (.inl v), some (.inl o), some (.inl x), some (.inl y), some (.inl z), some (.inl n), some (.inl (bI b76)), none]) hX d_R_put_76 (by decide) rfl rfl ?_
    refine fm_aload_n (pq := 79) hX d_R_put_78 rfl rfl rfl ?_
    refine fm_iload (pq := 81) hX d_R_put_79 rfl rfl ?_
    refine fm_b1_ne (tgt := 88) (pq := 84) hX d_R_put_81 rfl rfl (fun h81 => ?_) (fun h81 => ?_)
    · show fm_G SR Y_R_put X M (fm_ir (fun ans M' => (∃ m J, m < 5 ∧ v = nI m ∧ okI o x y z n J ∧ ((P.1 m = 24 ∧ ans = 0 ∧ M' = fm_up M 0 0 (nI 2)) ∨ (P.1 m < 24 ∧ ans = nI (P.1 m) ∧ M' = rp_put M P m J))) ∨ (¬ (inR 5 v ∧ ∃ J, okI o x y z n J) ∧ ans = 0 ∧ M' = fm_up M 0 0 (nI 1)))) 88 [some (.inr 0), some (.inl v), some (.inl o), some (.inl x), some (.inl y), some (.inl z), some (.inl n), some (.inl (bI b76)), none] [.inr 0] M
      obtain ⟨⟨m, hm, em⟩, J, hJ⟩ := hb76.mp h81
      have wl := (hw m hm).1
      obtain ⟨e2, e3, e4, e5, e6, wJ⟩ := hJ
      refine fm_lse (ls1 := [some (.inr 0), some (.inl (nI m)), some (.inl o), some (.inl x), some (.inl y), some (.inl z), some (.inl n), some (.inl (bI b76)), none]) (by rw [em]) ?_
      refine fm_lse (ls1 := [some (.inr 0), some (.inl (nI m)), some (.inl (nI J.1)), some (.inl x), some (.inl y), some (.inl z), some (.inl n), some (.inl (bI b76)), none]) (by rw [e2]) ?_
      refine fm_lse (ls1 := [some (.inr 0), some (.inl (nI m)), some (.inl (nI J.1)), some (.inl (nI J.2.1)), some (.inl y), some (.inl z), some (.inl n), some (.inl (bI b76)), none]) (by rw [e3]) ?_
      refine fm_lse (ls1 := [some (.inr 0), some (.inl (nI m)), some (.inl (nI J.1)), some (.inl (nI J.2.1)), some (.inl (nI J.2.2.1)), some (.inl z), some (.inl n), some (.inl (bI b76)), none]) (by rw [e4]) ?_
      refine fm_lse (ls1 := [some (.inr 0), some (.inl (nI m)), some (.inl (nI J.1)), some (.inl (nI J.2.1)), some (.inl (nI J.2.2.1)), some (.inl (nI J.2.2.2.1)), some (.inl n), some (.inl (bI b76)), none]) (by rw [e5]) ?_
      refine fm_lse (ls1 := [some (.inr 0), some (.inl (nI m)), some (.inl (nI J.1)), some (.inl (nI J.2.1)), some (.inl (nI J.2.2.1)), some (.inl (nI J.2.2.2.1)), some (.inl J.2.2.2.2), some (.inl (bI b76)), none]) (by rw [e6]) ?_
      refine fm_aload_n (pq := 89) hX d_R_put_88 rfl rfl rfl ?_
      refine fm_getr (pq := 92) (q := 2) hX fR_13 rfl rfl d_R_put_89 rfl ?_
      refine fm_iload_n (pq := 93) hX d_R_put_92 rfl rfl rfl ?_
      refine fm_iald (pq := 94) (v := nI (P.1 m)) hX rfl rfl rfl (by omega) (by decide) (hP m (by omega)).1 d_R_put_93 rfl ?_
      refine fm_bipush (pq := 96) (v := nI 24) hX d_R_put_94 (by decide) rfl ?_
      refine fm_n_ne (tgt := 103) (pq := 99) hX d_R_put_96 rfl rfl (by omega) (by omega) (fun h96 => ?_) (fun h96 => ?_)
      · show fm_G SR Y_R_put X M (fm_ir (fun ans M' => (∃ m J, m < 5 ∧ v = nI m ∧ okI o x y z n J ∧ ((P.1 m = 24 ∧ ans = 0 ∧ M' = fm_up M 0 0 (nI 2)) ∨ (P.1 m < 24 ∧ ans = nI (P.1 m) ∧ M' = rp_put M P m J))) ∨ (¬ (inR 5 v ∧ ∃ J, okI o x y z n J) ∧ ans = 0 ∧ M' = fm_up M 0 0 (nI 1)))) 103 [some (.inr 0), some (.inl (nI m)), some (.inl (nI J.1)), some (.inl (nI J.2.1)), some (.inl (nI J.2.2.1)), some (.inl (nI J.2.2.2.1)), some (.inl J.2.2.2.2), some (.inl (bI b76)), none] [.inr 0] M
        refine fm_iconst (pq := 104) (v := nI 0) hX d_R_put_103 (by decide) rfl ?_
        refine fm_puti (pq := 107) hX fR_77 pR_0 rfl rfl rfl rfl d_R_put_104 rfl ?_
        refine fm_aload_n (pq := 108) hX d_R_put_107 rfl rfl rfl ?_
        refine fm_geti (pq := 111) (v := nI 0) hX fR_77 rfl rfl fm_up_s d_R_put_108 rfl ?_
        refine fm_z_le (tgt := 116) (pq := 114) hX d_R_put_111 rfl rfl (by omega) (fun h111 => ?_) (fun h111 => ?_)
        · show fm_G SR Y_R_put X M (fm_ir (fun ans M' => (∃ m J, m < 5 ∧ v = nI m ∧ okI o x y z n J ∧ ((P.1 m = 24 ∧ ans = 0 ∧ M' = fm_up M 0 0 (nI 2)) ∨ (P.1 m < 24 ∧ ans = nI (P.1 m) ∧ M' = rp_put M P m J))) ∨ (¬ (inR 5 v ∧ ∃ J, okI o x y z n J) ∧ ans = 0 ∧ M' = fm_up M 0 0 (nI 1)))) 116 [some (.inr 0), some (.inl (nI m)), some (.inl (nI J.1)), some (.inl (nI J.2.1)), some (.inl (nI J.2.2.1)), some (.inl (nI J.2.2.2.1)), some (.inl J.2.2.2.2), some (.inl (bI b76)), none] [] (fm_up M 0 0 (nI 0))
          refine fm_bipush (pq := 118) (v := nI 24) hX d_R_put_116 (by decide) rfl ?_
          refine fm_iload_n (pq := 119) hX d_R_put_118 rfl rfl rfl ?_
          refine fm_imul (pq := 120) (v := nI (24 * m)) hX d_R_put_119 (pk_mul _ _) rfl ?_
          refine fm_aload_n (pq := 121) hX d_R_put_120 rfl rfl rfl ?_
          refine fm_getr (pq := 124) (q := 2) hX fR_13 rfl rfl d_R_put_121 rfl ?_
          refine fm_iload_n (pq := 125) hX d_R_put_124 rfl rfl rfl ?_
          refine fm_iald (pq := 126) (v := nI (P.1 m)) hX rfl rfl rfl (by omega) (by decide) ((rP_cg hP (fun a j h1 h2 => fm_up_a (by omega))) m (by omega)).1 d_R_put_125 rfl ?_
          refine fm_iadd (pq := 127) (v := nI (24 * m + (P.1 m))) hX d_R_put_126 (nI_add _ _) rfl ?_
          refine fm_istore (pq := 129) (ls1 := [some (.inr 0), some (.inl (nI m)), some (.inl (nI J.1)), some (.inl (nI J.2.1)), some (.inl (nI J.2.2.1)), some (.inl (nI J.2.2.2.1)), some (.inl J.2.2.2.2), some (.inl (bI b76)), some (.inl (nI (24 * m + (P.1 m))))]) hX d_R_put_127 (by decide) rfl rfl ?_
          refine fm_aload_n (pq := 130) hX d_R_put_129 rfl rfl rfl ?_
          refine fm_getr (pq := 133) (q := 3) hX fR_16 rfl rfl d_R_put_130 rfl ?_
          refine fm_iload (pq := 135) hX d_R_put_133 rfl rfl ?_
          refine fm_iload_n (pq := 136) hX d_R_put_135 rfl rfl rfl ?_
          refine fm_iast (pq := 137) hX rfl rfl rfl (by omega) (by decide) d_R_put_136 rfl ?_
          refine fm_aload_n (pq := 138) hX d_R_put_137 rfl rfl rfl ?_
          refine fm_getr (pq := 141) (q := 4) hX fR_19 rfl rfl d_R_put_138 rfl ?_
          refine fm_iload (pq := 143) hX d_R_put_141 rfl rfl ?_
          refine fm_iload_n (pq := 144) hX d_R_put_143 rfl rfl rfl ?_
          refine fm_iast (pq := 145) hX rfl rfl rfl (by omega) (by decide) d_R_put_144 rfl ?_
          refine fm_aload_n (pq := 146) hX d_R_put_145 rfl rfl rfl ?_
          refine fm_getr (pq := 149) (q := 5) hX fR_22 rfl rfl d_R_put_146 rfl ?_
          refine fm_iload (pq := 151) hX d_R_put_149 rfl rfl ?_
          refine fm_iload (pq := 153) hX d_R_put_151 rfl rfl ?_
          refine fm_iast (pq := 154) hX rfl rfl rfl (by omega) (by decide) d_R_put_153 rfl ?_
          refine fm_aload_n (pq := 155) hX d_R_put_154 rfl rfl rfl ?_
          refine fm_getr (pq := 158) (q := 6) hX fR_25 rfl rfl d_R_put_155 rfl ?_
          refine fm_iload (pq := 160) hX d_R_put_158 rfl rfl ?_
          refine fm_iload (pq := 162) hX d_R_put_160 rfl rfl ?_
          refine fm_iast (pq := 163) hX rfl rfl rfl (by omega) (by decide) d_R_put_162 rfl ?_
          refine fm_aload_n (pq := 164) hX d_R_put_163 rfl rfl rfl ?_
          refine fm_getr (pq := 167) (q := 7) hX fR_28 rfl rfl d_R_put_164 rfl ?_
          refine fm_iload (pq := 169) hX d_R_put_167 rfl rfl ?_
          refine fm_iload (pq := 171) hX d_R_put_169 rfl rfl ?_
          refine fm_iast (pq := 172) hX rfl rfl rfl (by omega) (by decide) d_R_put_171 rfl ?_
          refine fm_aload_n (pq := 173) hX d_R_put_172 rfl rfl rfl ?_
          refine fm_getr (pq := 176) (q := 2) hX fR_13 rfl rfl d_R_put_173 rfl ?_
          refine fm_iload_n (pq := 177) hX d_R_put_176 rfl rfl rfl ?_
          refine fm_dup2 (pq := 178) hX d_R_put_177 rfl ?_
          refine fm_iald (pq := 179) (v := nI (P.1 m)) hX rfl rfl rfl (by omega) (by decide) (by rw [fm_up_a (by decide), fm_up_a (by decide), fm_up_a (by decide), fm_up_a (by decide), fm_up_a (by decide), fm_up_a (by decide)]; exact (hP m hm).1) d_R_put_178 rfl ?_
          refine fm_iconst (pq := 180) (v := nI 1) hX d_R_put_179 (by decide) rfl ?_
          refine fm_iadd (pq := 181) (v := nI (P.1 m + 1)) hX d_R_put_180 (nI_add _ _) rfl ?_
          refine fm_iast (pq := 182) hX rfl rfl rfl (by omega) (by decide) d_R_put_181 rfl ?_
          refine fm_aload_n (pq := 183) hX d_R_put_182 rfl rfl rfl ?_
          refine fm_iconst (pq := 184) (v := nI 0) hX d_R_put_183 (by decide) rfl ?_
          refine fm_puti (pq := 187) hX fR_85 pR_8 rfl rfl (by decide) (by decide) d_R_put_184 rfl ?_
          refine fm_aload_n (pq := 188) hX d_R_put_187 rfl rfl rfl ?_
          refine fm_getr (pq := 191) (q := 2) hX fR_13 rfl rfl d_R_put_188 rfl ?_
          refine fm_iload_n (pq := 192) hX d_R_put_191 rfl rfl rfl ?_
          refine fm_iald (pq := 193) (v := nI (P.1 m + 1)) hX rfl rfl rfl (by omega) (by decide) (by rw [fm_up_a (by decide), fm_up_s]) d_R_put_192 rfl ?_
          refine fm_iconst (pq := 194) (v := nI 1) hX d_R_put_193 (by decide) rfl ?_
          refine fm_isub (pq := 195) (v := nI (P.1 m + 1 - 1)) hX d_R_put_194 (pk_sub (by omega)) rfl ?_
          refine fm_iret hX rfl d_R_put_195 ?_
          first | exact ⟨_, rfl, Or.inl ⟨m, J, hm, em, ⟨e2, e3, e4, e5, e6, wJ⟩, Or.inl ⟨h96, rfl, rfl⟩⟩⟩ | exact ⟨_, rfl, Or.inl ⟨m, J, hm, em, ⟨e2, e3, e4, e5, e6, wJ⟩, Or.inr ⟨by omega, rfl, rfl⟩⟩⟩ | exact ⟨_, rfl, Or.inr ⟨fun z => absurd (hb76.mpr z) (by rw [h81]; decide), rfl, rfl⟩⟩
        · exact absurd h111 (by decide)
      · show fm_G SR Y_R_put X M (fm_ir (fun ans M' => (∃ m J, m < 5 ∧ v = nI m ∧ okI o x y z n J ∧ ((P.1 m = 24 ∧ ans = 0 ∧ M' = fm_up M 0 0 (nI 2)) ∨ (P.1 m < 24 ∧ ans = nI (P.1 m) ∧ M' = rp_put M P m J))) ∨ (¬ (inR 5 v ∧ ∃ J, okI o x y z n J) ∧ ans = 0 ∧ M' = fm_up M 0 0 (nI 1)))) 99 [some (.inr 0), some (.inl (nI m)), some (.inl (nI J.1)), some (.inl (nI J.2.1)), some (.inl (nI J.2.2.1)), some (.inl (nI J.2.2.2.1)), some (.inl J.2.2.2.2), some (.inl (bI b76)), none] [.inr 0] M
        refine fm_iconst (pq := 100) (v := nI 2) hX d_R_put_99 (by decide) rfl ?_
        refine fm_goto (tgt := 104) hX d_R_put_100 rfl ?_
        refine fm_puti (pq := 107) hX fR_77 pR_0 rfl rfl rfl rfl d_R_put_104 rfl ?_
        refine fm_aload_n (pq := 108) hX d_R_put_107 rfl rfl rfl ?_
        refine fm_geti (pq := 111) (v := nI 2) hX fR_77 rfl rfl fm_up_s d_R_put_108 rfl ?_
        refine fm_z_le (tgt := 116) (pq := 114) hX d_R_put_111 rfl rfl (by omega) (fun h111 => ?_) (fun h111 => ?_)
        · exact absurd h111 (by decide)
        · show fm_G SR Y_R_put X M (fm_ir (fun ans M' => (∃ m J, m < 5 ∧ v = nI m ∧ okI o x y z n J ∧ ((P.1 m = 24 ∧ ans = 0 ∧ M' = fm_up M 0 0 (nI 2)) ∨ (P.1 m < 24 ∧ ans = nI (P.1 m) ∧ M' = rp_put M P m J))) ∨ (¬ (inR 5 v ∧ ∃ J, okI o x y z n J) ∧ ans = 0 ∧ M' = fm_up M 0 0 (nI 1)))) 114 [some (.inr 0), some (.inl (nI m)), some (.inl (nI J.1)), some (.inl (nI J.2.1)), some (.inl (nI J.2.2.1)), some (.inl (nI J.2.2.2.1)), some (.inl J.2.2.2.2), some (.inl (bI b76)), none] [] (fm_up M 0 0 (nI 2))
          refine fm_iconst (pq := 115) (v := nI 0) hX d_R_put_114 (by decide) rfl ?_
          refine fm_iret hX rfl d_R_put_115 ?_
          first | exact ⟨_, rfl, Or.inl ⟨m, J, hm, em, ⟨e2, e3, e4, e5, e6, wJ⟩, Or.inl ⟨h96, rfl, rfl⟩⟩⟩ | exact ⟨_, rfl, Or.inl ⟨m, J, hm, em, ⟨e2, e3, e4, e5, e6, wJ⟩, Or.inr ⟨by omega, rfl, rfl⟩⟩⟩ | exact ⟨_, rfl, Or.inr ⟨fun z => absurd (hb76.mpr z) (by rw [h81]; decide), rfl, rfl⟩⟩
    · show fm_G SR Y_R_put X M (fm_ir (fun ans M' => (∃ m J, m < 5 ∧ v = nI m ∧ okI o x y z n J ∧ ((P.1 m = 24 ∧ ans = 0 ∧ M' = fm_up M 0 0 (nI 2)) ∨ (P.1 m < 24 ∧ ans = nI (P.1 m) ∧ M' = rp_put M P m J))) ∨ (¬ (inR 5 v ∧ ∃ J, okI o x y z n J) ∧ ans = 0 ∧ M' = fm_up M 0 0 (nI 1)))) 84 [some (.inr 0), some (.inl v), some (.inl o), some (.inl x), some (.inl y), some (.inl z), some (.inl n), some (.inl (bI b76)), none] [.inr 0] M
      refine fm_iconst (pq := 85) (v := nI 1) hX d_R_put_84 (by decide) rfl ?_
      refine fm_goto (tgt := 104) hX d_R_put_85 rfl ?_
      refine fm_puti (pq := 107) hX fR_77 pR_0 rfl rfl rfl rfl d_R_put_104 rfl ?_
      refine fm_aload_n (pq := 108) hX d_R_put_107 rfl rfl rfl ?_
      refine fm_geti (pq := 111) (v := nI 1) hX fR_77 rfl rfl fm_up_s d_R_put_108 rfl ?_
      refine fm_z_le (tgt := 116) (pq := 114) hX d_R_put_111 rfl rfl (by omega) (fun h111 => ?_) (fun h111 => ?_)
      · exact absurd h111 (by decide)
      · show fm_G SR Y_R_put X M (fm_ir (fun ans M' => (∃ m J, m < 5 ∧ v = nI m ∧ okI o x y z n J ∧ ((P.1 m = 24 ∧ ans = 0 ∧ M' = fm_up M 0 0 (nI 2)) ∨ (P.1 m < 24 ∧ ans = nI (P.1 m) ∧ M' = rp_put M P m J))) ∨ (¬ (inR 5 v ∧ ∃ J, okI o x y z n J) ∧ ans = 0 ∧ M' = fm_up M 0 0 (nI 1)))) 114 [some (.inr 0), some (.inl v), some (.inl o), some (.inl x), some (.inl y), some (.inl z), some (.inl n), some (.inl (bI b76)), none] [] (fm_up M 0 0 (nI 1))
        refine fm_iconst (pq := 115) (v := nI 0) hX d_R_put_114 (by decide) rfl ?_
        refine fm_iret hX rfl d_R_put_115 ?_
        first | exact ⟨_, rfl, Or.inl ⟨m, J, hm, em, ⟨e2, e3, e4, e5, e6, wJ⟩, Or.inl ⟨h96, rfl, rfl⟩⟩⟩ | exact ⟨_, rfl, Or.inl ⟨m, J, hm, em, ⟨e2, e3, e4, e5, e6, wJ⟩, Or.inr ⟨by omega, rfl, rfl⟩⟩⟩ | exact ⟨_, rfl, Or.inr ⟨fun z => absurd (hb76.mpr z) (by rw [h81]; decide), rfl, rfl⟩⟩
  refine fm_iload_n (pq := 1) hX d_R_put_0 rfl rfl rfl ?_
  refine fm_callS_b (as := [.inl v]) (st := []) (pq := 4) hX cR_81 st_R_isMethod (k_R_isM v M) rfl rfl (Nat.le_of_ble_eq_true rfl) (Nat.le_of_ble_eq_true rfl) d_R_put_1 rfl (fun b1 c1 => ?_)
  refine fm_b1_eq (tgt := 75) (pq := 7) hX d_R_put_4 rfl rfl (fun h4 => ?_) (fun h4 => ?_)
  · show fm_G SR Y_R_put X M (fm_ir (fun ans M' => (∃ m J, m < 5 ∧ v = nI m ∧ okI o x y z n J ∧ ((P.1 m = 24 ∧ ans = 0 ∧ M' = fm_up M 0 0 (nI 2)) ∨ (P.1 m < 24 ∧ ans = nI (P.1 m) ∧ M' = rp_put M P m J))) ∨ (¬ (inR 5 v ∧ ∃ J, okI o x y z n J) ∧ ans = 0 ∧ M' = fm_up M 0 0 (nI 1)))) 75 [some (.inr 0), some (.inl v), some (.inl o), some (.inl x), some (.inl y), some (.inl z), some (.inl n), none, none] [] M
    refine fm_iconst (pq := 76) (v := nI 0) hX d_R_put_75 (by decide) rfl ?_
    exact L76 false ⟨fun z => absurd z (by decide), fun z => by
      exfalso
      obtain ⟨z1, J, z2⟩ := z
      first
      | exact absurd (c1.mpr z1) (by rw [h4]; decide)
      | exact inR_n0 (by decide) h8 (okI_o z2)
      | exact inR_n3 (n := 18) (by decide) h14 (okI_o z2)
      | exact absurd (c18.mpr (okI_x z2)) (by rw [h21]; decide)
      | exact absurd (c26.mpr (okI_y z2)) (by rw [h29]; decide)
      | exact absurd (c34.mpr (okI_z z2)) (by rw [h37]; decide)
      | exact okI_f z2 h42 h48 h54
      | exact absurd (c65.mpr (okI_c z2 (Decidable.not_not.mp h60))) (by rw [h68]; decide)
      | exact absurd (c65.mpr (okI_c z2 h60)) (by rw [h68]; decide)⟩
  · show fm_G SR Y_R_put X M (fm_ir (fun ans M' => (∃ m J, m < 5 ∧ v = nI m ∧ okI o x y z n J ∧ ((P.1 m = 24 ∧ ans = 0 ∧ M' = fm_up M 0 0 (nI 2)) ∨ (P.1 m < 24 ∧ ans = nI (P.1 m) ∧ M' = rp_put M P m J))) ∨ (¬ (inR 5 v ∧ ∃ J, okI o x y z n J) ∧ ans = 0 ∧ M' = fm_up M 0 0 (nI 1)))) 7 [some (.inr 0), some (.inl v), some (.inl o), some (.inl x), some (.inl y), some (.inl z), some (.inl n), none, none] [] M
    refine fm_iload_n (pq := 8) hX d_R_put_7 rfl rfl rfl ?_
    refine fm_if_lt (tgt := 75) (pq := 11) hX d_R_put_8 rfl rfl (fun h8 => ?_) (fun h8 => ?_)
    · show fm_G SR Y_R_put X M (fm_ir (fun ans M' => (∃ m J, m < 5 ∧ v = nI m ∧ okI o x y z n J ∧ ((P.1 m = 24 ∧ ans = 0 ∧ M' = fm_up M 0 0 (nI 2)) ∨ (P.1 m < 24 ∧ ans = nI (P.1 m) ∧ M' = rp_put M P m J))) ∨ (¬ (inR 5 v ∧ ∃ J, okI o x y z n J) ∧ ans = 0 ∧ M' = fm_up M 0 0 (nI 1)))) 75 [some (.inr 0), some (.inl v), some (.inl o), some (.inl x), some (.inl y), some (.inl z), some (.inl n), none, none] [] M
      refine fm_iconst (pq := 76) (v := nI 0) hX d_R_put_75 (by decide) rfl ?_
      exact L76 false ⟨fun z => absurd z (by decide), fun z => by
        exfalso
        obtain ⟨z1, J, z2⟩ := z
        first
        | exact absurd (c1.mpr z1) (by rw [h4]; decide)
        | exact inR_n0 (by decide) h8 (okI_o z2)
        | exact inR_n3 (n := 18) (by decide) h14 (okI_o z2)
        | exact absurd (c18.mpr (okI_x z2)) (by rw [h21]; decide)
        | exact absurd (c26.mpr (okI_y z2)) (by rw [h29]; decide)
        | exact absurd (c34.mpr (okI_z z2)) (by rw [h37]; decide)
        | exact okI_f z2 h42 h48 h54
        | exact absurd (c65.mpr (okI_c z2 (Decidable.not_not.mp h60))) (by rw [h68]; decide)
        | exact absurd (c65.mpr (okI_c z2 h60)) (by rw [h68]; decide)⟩
    · show fm_G SR Y_R_put X M (fm_ir (fun ans M' => (∃ m J, m < 5 ∧ v = nI m ∧ okI o x y z n J ∧ ((P.1 m = 24 ∧ ans = 0 ∧ M' = fm_up M 0 0 (nI 2)) ∨ (P.1 m < 24 ∧ ans = nI (P.1 m) ∧ M' = rp_put M P m J))) ∨ (¬ (inR 5 v ∧ ∃ J, okI o x y z n J) ∧ ans = 0 ∧ M' = fm_up M 0 0 (nI 1)))) 11 [some (.inr 0), some (.inl v), some (.inl o), some (.inl x), some (.inl y), some (.inl z), some (.inl n), none, none] [] M
      refine fm_iload_n (pq := 12) hX d_R_put_11 rfl rfl rfl ?_
      refine fm_bipush (pq := 14) (v := nI 18) hX d_R_put_12 (by decide) rfl ?_
      refine fm_icmp_gt (tgt := 75) (pq := 17) hX d_R_put_14 rfl rfl (fun h14 => ?_) (fun h14 => ?_)
      · show fm_G SR Y_R_put X M (fm_ir (fun ans M' => (∃ m J, m < 5 ∧ v = nI m ∧ okI o x y z n J ∧ ((P.1 m = 24 ∧ ans = 0 ∧ M' = fm_up M 0 0 (nI 2)) ∨ (P.1 m < 24 ∧ ans = nI (P.1 m) ∧ M' = rp_put M P m J))) ∨ (¬ (inR 5 v ∧ ∃ J, okI o x y z n J) ∧ ans = 0 ∧ M' = fm_up M 0 0 (nI 1)))) 75 [some (.inr 0), some (.inl v), some (.inl o), some (.inl x), some (.inl y), some (.inl z), some (.inl n), none, none] [] M
        refine fm_iconst (pq := 76) (v := nI 0) hX d_R_put_75 (by decide) rfl ?_
        exact L76 false ⟨fun z => absurd z (by decide), fun z => by
          exfalso
          obtain ⟨z1, J, z2⟩ := z
          first
          | exact absurd (c1.mpr z1) (by rw [h4]; decide)
          | exact inR_n0 (by decide) h8 (okI_o z2)
          | exact inR_n3 (n := 18) (by decide) h14 (okI_o z2)
          | exact absurd (c18.mpr (okI_x z2)) (by rw [h21]; decide)
          | exact absurd (c26.mpr (okI_y z2)) (by rw [h29]; decide)
          | exact absurd (c34.mpr (okI_z z2)) (by rw [h37]; decide)
          | exact okI_f z2 h42 h48 h54
          | exact absurd (c65.mpr (okI_c z2 (Decidable.not_not.mp h60))) (by rw [h68]; decide)
          | exact absurd (c65.mpr (okI_c z2 h60)) (by rw [h68]; decide)⟩
      · show fm_G SR Y_R_put X M (fm_ir (fun ans M' => (∃ m J, m < 5 ∧ v = nI m ∧ okI o x y z n J ∧ ((P.1 m = 24 ∧ ans = 0 ∧ M' = fm_up M 0 0 (nI 2)) ∨ (P.1 m < 24 ∧ ans = nI (P.1 m) ∧ M' = rp_put M P m J))) ∨ (¬ (inR 5 v ∧ ∃ J, okI o x y z n J) ∧ ans = 0 ∧ M' = fm_up M 0 0 (nI 1)))) 17 [some (.inr 0), some (.inl v), some (.inl o), some (.inl x), some (.inl y), some (.inl z), some (.inl n), none, none] [] M
        refine fm_iload_n (pq := 18) hX d_R_put_17 rfl rfl rfl ?_
        refine fm_callS_b (as := [.inl x]) (st := []) (pq := 21) hX cR_89 st_R_four (k_R_four x M) rfl rfl (Nat.le_of_ble_eq_true rfl) (Nat.le_of_ble_eq_true rfl) d_R_put_18 rfl (fun b18 c18 => ?_)
        refine fm_b1_eq (tgt := 75) (pq := 24) hX d_R_put_21 rfl rfl (fun h21 => ?_) (fun h21 => ?_)
        · show fm_G SR Y_R_put X M (fm_ir (fun ans M' => (∃ m J, m < 5 ∧ v = nI m ∧ okI o x y z n J ∧ ((P.1 m = 24 ∧ ans = 0 ∧ M' = fm_up M 0 0 (nI 2)) ∨ (P.1 m < 24 ∧ ans = nI (P.1 m) ∧ M' = rp_put M P m J))) ∨ (¬ (inR 5 v ∧ ∃ J, okI o x y z n J) ∧ ans = 0 ∧ M' = fm_up M 0 0 (nI 1)))) 75 [some (.inr 0), some (.inl v), some (.inl o), some (.inl x), some (.inl y), some (.inl z), some (.inl n), none, none] [] M
          refine fm_iconst (pq := 76) (v := nI 0) hX d_R_put_75 (by decide) rfl ?_
          exact L76 false ⟨fun z => absurd z (by decide), fun z => by
            exfalso
            obtain ⟨z1, J, z2⟩ := z
            first
            | exact absurd (c1.mpr z1) (by rw [h4]; decide)
            | exact inR_n0 (by decide) h8 (okI_o z2)
            | exact inR_n3 (n := 18) (by decide) h14 (okI_o z2)
            | exact absurd (c18.mpr (okI_x z2)) (by rw [h21]; decide)
            | exact absurd (c26.mpr (okI_y z2)) (by rw [h29]; decide)
            | exact absurd (c34.mpr (okI_z z2)) (by rw [h37]; decide)
            | exact okI_f z2 h42 h48 h54
            | exact absurd (c65.mpr (okI_c z2 (Decidable.not_not.mp h60))) (by rw [h68]; decide)
            | exact absurd (c65.mpr (okI_c z2 h60)) (by rw [h68]; decide)⟩
        · show fm_G SR Y_R_put X M (fm_ir (fun ans M' => (∃ m J, m < 5 ∧ v = nI m ∧ okI o x y z n J ∧ ((P.1 m = 24 ∧ ans = 0 ∧ M' = fm_up M 0 0 (nI 2)) ∨ (P.1 m < 24 ∧ ans = nI (P.1 m) ∧ M' = rp_put M P m J))) ∨ (¬ (inR 5 v ∧ ∃ J, okI o x y z n J) ∧ ans = 0 ∧ M' = fm_up M 0 0 (nI 1)))) 24 [some (.inr 0), some (.inl v), some (.inl o), some (.inl x), some (.inl y), some (.inl z), some (.inl n), none, none] [] M
          refine fm_iload (pq := 26) hX d_R_put_24 rfl rfl ?_
          refine fm_callS_b (as := [.inl y]) (st := []) (pq := 29) hX cR_89 st_R_four (k_R_four y M) rfl rfl (Nat.le_of_ble_eq_true rfl) (Nat.le_of_ble_eq_true rfl) d_R_put_26 rfl (fun b26 c26 => ?_)
          refine fm_b1_eq (tgt := 75) (pq := 32) hX d_R_put_29 rfl rfl (fun h29 => ?_) (fun h29 => ?_)
          · show fm_G SR Y_R_put X M (fm_ir (fun ans M' => (∃ m J, m < 5 ∧ v = nI m ∧ okI o x y z n J ∧ ((P.1 m = 24 ∧ ans = 0 ∧ M' = fm_up M 0 0 (nI 2)) ∨ (P.1 m < 24 ∧ ans = nI (P.1 m) ∧ M' = rp_put M P m J))) ∨ (¬ (inR 5 v ∧ ∃ J, okI o x y z n J) ∧ ans = 0 ∧ M' = fm_up M 0 0 (nI 1)))) 75 [some (.inr 0), some (.inl v), some (.inl o), some (.inl x), some (.inl y), some (.inl z), some (.inl n), none, none] [] M
            refine fm_iconst (pq := 76) (v := nI 0) hX d_R_put_75 (by decide) rfl ?_
            exact L76 false ⟨fun z => absurd z (by decide), fun z => by
              exfalso
              obtain ⟨z1, J, z2⟩ := z
              first
              | exact absurd (c1.mpr z1) (by rw [h4]; decide)
              | exact inR_n0 (by decide) h8 (okI_o z2)
              | exact inR_n3 (n := 18) (by decide) h14 (okI_o z2)
              | exact absurd (c18.mpr (okI_x z2)) (by rw [h21]; decide)
              | exact absurd (c26.mpr (okI_y z2)) (by rw [h29]; decide)
              | exact absurd (c34.mpr (okI_z z2)) (by rw [h37]; decide)
              | exact okI_f z2 h42 h48 h54
              | exact absurd (c65.mpr (okI_c z2 (Decidable.not_not.mp h60))) (by rw [h68]; decide)
              | exact absurd (c65.mpr (okI_c z2 h60)) (by rw [h68]; decide)⟩
          · show fm_G SR Y_R_put X M (fm_ir (fun ans M' => (∃ m J, m < 5 ∧ v = nI m ∧ okI o x y z n J ∧ ((P.1 m = 24 ∧ ans = 0 ∧ M' = fm_up M 0 0 (nI 2)) ∨ (P.1 m < 24 ∧ ans = nI (P.1 m) ∧ M' = rp_put M P m J))) ∨ (¬ (inR 5 v ∧ ∃ J, okI o x y z n J) ∧ ans = 0 ∧ M' = fm_up M 0 0 (nI 1)))) 32 [some (.inr 0), some (.inl v), some (.inl o), some (.inl x), some (.inl y), some (.inl z), some (.inl n), none, none] [] M
            refine fm_iload (pq := 34) hX d_R_put_32 rfl rfl ?_
            refine fm_callS_b (as := [.inl z]) (st := []) (pq := 37) hX cR_89 st_R_four (k_R_four z M) rfl rfl (Nat.le_of_ble_eq_true rfl) (Nat.le_of_ble_eq_true rfl) d_R_put_34 rfl (fun b34 c34 => ?_)
            refine fm_b1_eq (tgt := 75) (pq := 40) hX d_R_put_37 rfl rfl (fun h37 => ?_) (fun h37 => ?_)
            · show fm_G SR Y_R_put X M (fm_ir (fun ans M' => (∃ m J, m < 5 ∧ v = nI m ∧ okI o x y z n J ∧ ((P.1 m = 24 ∧ ans = 0 ∧ M' = fm_up M 0 0 (nI 2)) ∨ (P.1 m < 24 ∧ ans = nI (P.1 m) ∧ M' = rp_put M P m J))) ∨ (¬ (inR 5 v ∧ ∃ J, okI o x y z n J) ∧ ans = 0 ∧ M' = fm_up M 0 0 (nI 1)))) 75 [some (.inr 0), some (.inl v), some (.inl o), some (.inl x), some (.inl y), some (.inl z), some (.inl n), none, none] [] M
              refine fm_iconst (pq := 76) (v := nI 0) hX d_R_put_75 (by decide) rfl ?_
              exact L76 false ⟨fun z => absurd z (by decide), fun z => by
                exfalso
                obtain ⟨z1, J, z2⟩ := z
                first
                | exact absurd (c1.mpr z1) (by rw [h4]; decide)
                | exact inR_n0 (by decide) h8 (okI_o z2)
                | exact inR_n3 (n := 18) (by decide) h14 (okI_o z2)
                | exact absurd (c18.mpr (okI_x z2)) (by rw [h21]; decide)
                | exact absurd (c26.mpr (okI_y z2)) (by rw [h29]; decide)
                | exact absurd (c34.mpr (okI_z z2)) (by rw [h37]; decide)
                | exact okI_f z2 h42 h48 h54
                | exact absurd (c65.mpr (okI_c z2 (Decidable.not_not.mp h60))) (by rw [h68]; decide)
                | exact absurd (c65.mpr (okI_c z2 h60)) (by rw [h68]; decide)⟩
            · show fm_G SR Y_R_put X M (fm_ir (fun ans M' => (∃ m J, m < 5 ∧ v = nI m ∧ okI o x y z n J ∧ ((P.1 m = 24 ∧ ans = 0 ∧ M' = fm_up M 0 0 (nI 2)) ∨ (P.1 m < 24 ∧ ans = nI (P.1 m) ∧ M' = rp_put M P m J))) ∨ (¬ (inR 5 v ∧ ∃ J, okI o x y z n J) ∧ ans = 0 ∧ M' = fm_up M 0 0 (nI 1)))) 40 [some (.inr 0), some (.inl v), some (.inl o), some (.inl x), some (.inl y), some (.inl z), some (.inl n), none, none] [] M
              refine fm_iload_n (pq := 41) hX d_R_put_40 rfl rfl rfl ?_
              refine fm_iconst (pq := 42) (v := nI 3) hX d_R_put_41 (by decide) rfl ?_
              refine fm_icmp_lt (tgt := 57) (pq := 45) hX d_R_put_42 rfl rfl (fun h42 => ?_) (fun h42 => ?_)
              · show fm_G SR Y_R_put X M (fm_ir (fun ans M' => (∃ m J, m < 5 ∧ v = nI m ∧ okI o x y z n J ∧ ((P.1 m = 24 ∧ ans = 0 ∧ M' = fm_up M 0 0 (nI 2)) ∨ (P.1 m < 24 ∧ ans = nI (P.1 m) ∧ M' = rp_put M P m J))) ∨ (¬ (inR 5 v ∧ ∃ J, okI o x y z n J) ∧ ans = 0 ∧ M' = fm_up M 0 0 (nI 1)))) 57 [some (.inr 0), some (.inl v), some (.inl o), some (.inl x), some (.inl y), some (.inl z), some (.inl n), none, none] [] M
                refine fm_iload_n (pq := 58) hX d_R_put_57 rfl rfl rfl ?_
                refine fm_bipush (pq := 60) (v := nI 16) hX d_R_put_58 (by decide) rfl ?_
                refine fm_icmp_ne (tgt := 71) (pq := 63) hX d_R_put_60 rfl rfl (fun h60 => ?_) (fun h60 => ?_)
                · show fm_G SR Y_R_put X M (fm_ir (fun ans M' => (∃ m J, m < 5 ∧ v = nI m ∧ okI o x y z n J ∧ ((P.1 m = 24 ∧ ans = 0 ∧ M' = fm_up M 0 0 (nI 2)) ∨ (P.1 m < 24 ∧ ans = nI (P.1 m) ∧ M' = rp_put M P m J))) ∨ (¬ (inR 5 v ∧ ∃ J, okI o x y z n J) ∧ ans = 0 ∧ M' = fm_up M 0 0 (nI 1)))) 71 [some (.inr 0), some (.inl v), some (.inl o), some (.inl x), some (.inl y), some (.inl z), some (.inl n), none, none] [] M
                  refine fm_iconst (pq := 72) (v := nI 1) hX d_R_put_71 (by decide) rfl ?_
                  refine fm_goto (tgt := 76) hX d_R_put_72 rfl ?_
                  exact L76 true ⟨fun _ => ⟨c1.mp h4, okI_mk (inR_g (n := 18) (by decide) h8 h14) (c18.mp h21) (c26.mp h29) (c34.mp h37) (by first | exact Or.inl h42 | exact Or.inr (Or.inl h48) | exact Or.inr (Or.inr h54)) (by first | exact Or.inl h60 | exact Or.inr (c65.mp h68))⟩, fun _ => rfl⟩
                · show fm_G SR Y_R_put X M (fm_ir (fun ans M' => (∃ m J, m < 5 ∧ v = nI m ∧ okI o x y z n J ∧ ((P.1 m = 24 ∧ ans = 0 ∧ M' = fm_up M 0 0 (nI 2)) ∨ (P.1 m < 24 ∧ ans = nI (P.1 m) ∧ M' = rp_put M P m J))) ∨ (¬ (inR 5 v ∧ ∃ J, okI o x y z n J) ∧ ans = 0 ∧ M' = fm_up M 0 0 (nI 1)))) 63 [some (.inr 0), some (.inl v), some (.inl o), some (.inl x), some (.inl y), some (.inl z), some (.inl n), none, none] [] M
                  refine fm_iload (pq := 65) hX d_R_put_63 rfl rfl ?_
                  refine fm_callS_b (as := [.inl n]) (st := []) (pq := 68) hX cR_81 st_R_isMethod (k_R_isM n M) rfl rfl (Nat.le_of_ble_eq_true rfl) (Nat.le_of_ble_eq_true rfl) d_R_put_65 rfl (fun b65 c65 => ?_)
                  refine fm_b1_eq (tgt := 75) (pq := 71) hX d_R_put_68 rfl rfl (fun h68 => ?_) (fun h68 => ?_)
                  · show fm_G SR Y_R_put X M (fm_ir (fun ans M' => (∃ m J, m < 5 ∧ v = nI m ∧ okI o x y z n J ∧ ((P.1 m = 24 ∧ ans = 0 ∧ M' = fm_up M 0 0 (nI 2)) ∨ (P.1 m < 24 ∧ ans = nI (P.1 m) ∧ M' = rp_put M P m J))) ∨ (¬ (inR 5 v ∧ ∃ J, okI o x y z n J) ∧ ans = 0 ∧ M' = fm_up M 0 0 (nI 1)))) 75 [some (.inr 0), some (.inl v), some (.inl o), some (.inl x), some (.inl y), some (.inl z), some (.inl n), none, none] [] M
                    refine fm_iconst (pq := 76) (v := nI 0) hX d_R_put_75 (by decide) rfl ?_
                    exact L76 false ⟨fun z => absurd z (by decide), fun z => by
                      exfalso
                      obtain ⟨z1, J, z2⟩ := z
                      first
                      | exact absurd (c1.mpr z1) (by rw [h4]; decide)
                      | exact inR_n0 (by decide) h8 (okI_o z2)
                      | exact inR_n3 (n := 18) (by decide) h14 (okI_o z2)
                      | exact absurd (c18.mpr (okI_x z2)) (by rw [h21]; decide)
                      | exact absurd (c26.mpr (okI_y z2)) (by rw [h29]; decide)
                      | exact absurd (c34.mpr (okI_z z2)) (by rw [h37]; decide)
                      | exact okI_f z2 h42 h48 h54
                      | exact absurd (c65.mpr (okI_c z2 (Decidable.not_not.mp h60))) (by rw [h68]; decide)
                      | exact absurd (c65.mpr (okI_c z2 h60)) (by rw [h68]; decide)⟩
                  · show fm_G SR Y_R_put X M (fm_ir (fun ans M' => (∃ m J, m < 5 ∧ v = nI m ∧ okI o x y z n J ∧ ((P.1 m = 24 ∧ ans = 0 ∧ M' = fm_up M 0 0 (nI 2)) ∨ (P.1 m < 24 ∧ ans = nI (P.1 m) ∧ M' = rp_put M P m J))) ∨ (¬ (inR 5 v ∧ ∃ J, okI o x y z n J) ∧ ans = 0 ∧ M' = fm_up M 0 0 (nI 1)))) 71 [some (.inr 0), some (.inl v), some (.inl o), some (.inl x), some (.inl y), some (.inl z), some (.inl n), none, none] [] M
                    refine fm_iconst (pq := 72) (v := nI 1) hX d_R_put_71 (by decide) rfl ?_
                    refine fm_goto (tgt := 76) hX d_R_put_72 rfl ?_
                    exact L76 true ⟨fun _ => ⟨c1.mp h4, okI_mk (inR_g (n := 18) (by decide) h8 h14) (c18.mp h21) (c26.mp h29) (c34.mp h37) (by first | exact Or.inl h42 | exact Or.inr (Or.inl h48) | exact Or.inr (Or.inr h54)) (by first | exact Or.inl h60 | exact Or.inr (c65.mp h68))⟩, fun _ => rfl⟩
              · show fm_G SR Y_R_put X M (fm_ir (fun ans M' => (∃ m J, m < 5 ∧ v = nI m ∧ okI o x y z n J ∧ ((P.1 m = 24 ∧ ans = 0 ∧ M' = fm_up M 0 0 (nI 2)) ∨ (P.1 m < 24 ∧ ans = nI (P.1 m) ∧ M' = rp_put M P m J))) ∨ (¬ (inR 5 v ∧ ∃ J, okI o x y z n J) ∧ ans = 0 ∧ M' = fm_up M 0 0 (nI 1)))) 45 [some (.inr 0), some (.inl v), some (.inl o), some (.inl x), some (.inl y), some (.inl z), some (.inl n), none, none] [] M
                refine fm_iload_n (pq := 46) hX d_R_put_45 rfl rfl rfl ?_
                refine fm_bipush (pq := 48) (v := nI 6) hX d_R_put_46 (by decide) rfl ?_
                refine fm_icmp_gt (tgt := 57) (pq := 51) hX d_R_put_48 rfl rfl (fun h48 => ?_) (fun h48 => ?_)
                · show fm_G SR Y_R_put X M (fm_ir (fun ans M' => (∃ m J, m < 5 ∧ v = nI m ∧ okI o x y z n J ∧ ((P.1 m = 24 ∧ ans = 0 ∧ M' = fm_up M 0 0 (nI 2)) ∨ (P.1 m < 24 ∧ ans = nI (P.1 m) ∧ M' = rp_put M P m J))) ∨ (¬ (inR 5 v ∧ ∃ J, okI o x y z n J) ∧ ans = 0 ∧ M' = fm_up M 0 0 (nI 1)))) 57 [some (.inr 0), some (.inl v), some (.inl o), some (.inl x), some (.inl y), some (.inl z), some (.inl n), none, none] [] M
                  refine fm_iload_n (pq := 58) hX d_R_put_57 rfl rfl rfl ?_
                  refine fm_bipush (pq := 60) (v := nI 16) hX d_R_put_58 (by decide) rfl ?_
                  refine fm_icmp_ne (tgt := 71) (pq := 63) hX d_R_put_60 rfl rfl (fun h60 => ?_) (fun h60 => ?_)
                  · show fm_G SR Y_R_put X M (fm_ir (fun ans M' => (∃ m J, m < 5 ∧ v = nI m ∧ okI o x y z n J ∧ ((P.1 m = 24 ∧ ans = 0 ∧ M' = fm_up M 0 0 (nI 2)) ∨ (P.1 m < 24 ∧ ans = nI (P.1 m) ∧ M' = rp_put M P m J))) ∨ (¬ (inR 5 v ∧ ∃ J, okI o x y z n J) ∧ ans = 0 ∧ M' = fm_up M 0 0 (nI 1)))) 71 [some (.inr 0), some (.inl v), some (.inl o), some (.inl x), some (.inl y), some (.inl z), some (.inl n), none, none] [] M
                    refine fm_iconst (pq := 72) (v := nI 1) hX d_R_put_71 (by decide) rfl ?_
                    refine fm_goto (tgt := 76) hX d_R_put_72 rfl ?_
                    exact L76 true ⟨fun _ => ⟨c1.mp h4, okI_mk (inR_g (n := 18) (by decide) h8 h14) (c18.mp h21) (c26.mp h29) (c34.mp h37) (by first | exact Or.inl h42 | exact Or.inr (Or.inl h48) | exact Or.inr (Or.inr h54)) (by first | exact Or.inl h60 | exact Or.inr (c65.mp h68))⟩, fun _ => rfl⟩
                  · show fm_G SR Y_R_put X M (fm_ir (fun ans M' => (∃ m J, m < 5 ∧ v = nI m ∧ okI o x y z n J ∧ ((P.1 m = 24 ∧ ans = 0 ∧ M' = fm_up M 0 0 (nI 2)) ∨ (P.1 m < 24 ∧ ans = nI (P.1 m) ∧ M' = rp_put M P m J))) ∨ (¬ (inR 5 v ∧ ∃ J, okI o x y z n J) ∧ ans = 0 ∧ M' = fm_up M 0 0 (nI 1)))) 63 [some (.inr 0), some (.inl v), some (.inl o), some (.inl x), some (.inl y), some (.inl z), some (.inl n), none, none] [] M
                    refine fm_iload (pq := 65) hX d_R_put_63 rfl rfl ?_
                    refine fm_callS_b (as := [.inl n]) (st := []) (pq := 68) hX cR_81 st_R_isMethod (k_R_isM n M) rfl rfl (Nat.le_of_ble_eq_true rfl) (Nat.le_of_ble_eq_true rfl) d_R_put_65 rfl (fun b65 c65 => ?_)
                    refine fm_b1_eq (tgt := 75) (pq := 71) hX d_R_put_68 rfl rfl (fun h68 => ?_) (fun h68 => ?_)
                    · show fm_G SR Y_R_put X M (fm_ir (fun ans M' => (∃ m J, m < 5 ∧ v = nI m ∧ okI o x y z n J ∧ ((P.1 m = 24 ∧ ans = 0 ∧ M' = fm_up M 0 0 (nI 2)) ∨ (P.1 m < 24 ∧ ans = nI (P.1 m) ∧ M' = rp_put M P m J))) ∨ (¬ (inR 5 v ∧ ∃ J, okI o x y z n J) ∧ ans = 0 ∧ M' = fm_up M 0 0 (nI 1)))) 75 [some (.inr 0), some (.inl v), some (.inl o), some (.inl x), some (.inl y), some (.inl z), some (.inl n), none, none] [] M
                      refine fm_iconst (pq := 76) (v := nI 0) hX d_R_put_75 (by decide) rfl ?_
                      exact L76 false ⟨fun z => absurd z (by decide), fun z => by
                        exfalso
                        obtain ⟨z1, J, z2⟩ := z
                        first
                        | exact absurd (c1.mpr z1) (by rw [h4]; decide)
                        | exact inR_n0 (by decide) h8 (okI_o z2)
                        | exact inR_n3 (n := 18) (by decide) h14 (okI_o z2)
                        | exact absurd (c18.mpr (okI_x z2)) (by rw [h21]; decide)
                        | exact absurd (c26.mpr (okI_y z2)) (by rw [h29]; decide)
                        | exact absurd (c34.mpr (okI_z z2)) (by rw [h37]; decide)
                        | exact okI_f z2 h42 h48 h54
                        | exact absurd (c65.mpr (okI_c z2 (Decidable.not_not.mp h60))) (by rw [h68]; decide)
                        | exact absurd (c65.mpr (okI_c z2 h60)) (by rw [h68]; decide)⟩
                    · show fm_G SR Y_R_put X M (fm_ir (fun ans M' => (∃ m J, m < 5 ∧ v = nI m ∧ okI o x y z n J ∧ ((P.1 m = 24 ∧ ans = 0 ∧ M' = fm_up M 0 0 (nI 2)) ∨ (P.1 m < 24 ∧ ans = nI (P.1 m) ∧ M' = rp_put M P m J))) ∨ (¬ (inR 5 v ∧ ∃ J, okI o x y z n J) ∧ ans = 0 ∧ M' = fm_up M 0 0 (nI 1)))) 71 [some (.inr 0), some (.inl v), some (.inl o), some (.inl x), some (.inl y), some (.inl z), some (.inl n), none, none] [] M
                      refine fm_iconst (pq := 72) (v := nI 1) hX d_R_put_71 (by decide) rfl ?_
                      refine fm_goto (tgt := 76) hX d_R_put_72 rfl ?_
                      exact L76 true ⟨fun _ => ⟨c1.mp h4, okI_mk (inR_g (n := 18) (by decide) h8 h14) (c18.mp h21) (c26.mp h29) (c34.mp h37) (by first | exact Or.inl h42 | exact Or.inr (Or.inl h48) | exact Or.inr (Or.inr h54)) (by first | exact Or.inl h60 | exact Or.inr (c65.mp h68))⟩, fun _ => rfl⟩
                · show fm_G SR Y_R_put X M (fm_ir (fun ans M' => (∃ m J, m < 5 ∧ v = nI m ∧ okI o x y z n J ∧ ((P.1 m = 24 ∧ ans = 0 ∧ M' = fm_up M 0 0 (nI 2)) ∨ (P.1 m < 24 ∧ ans = nI (P.1 m) ∧ M' = rp_put M P m J))) ∨ (¬ (inR 5 v ∧ ∃ J, okI o x y z n J) ∧ ans = 0 ∧ M' = fm_up M 0 0 (nI 1)))) 51 [some (.inr 0), some (.inl v), some (.inl o), some (.inl x), some (.inl y), some (.inl z), some (.inl n), none, none] [] M
                  refine fm_iload (pq := 53) hX d_R_put_51 rfl rfl ?_
                  refine fm_iconst (pq := 54) (v := nI 1) hX d_R_put_53 (by decide) rfl ?_
                  refine fm_icmp_gt (tgt := 75) (pq := 57) hX d_R_put_54 rfl rfl (fun h54 => ?_) (fun h54 => ?_)
                  · show fm_G SR Y_R_put X M (fm_ir (fun ans M' => (∃ m J, m < 5 ∧ v = nI m ∧ okI o x y z n J ∧ ((P.1 m = 24 ∧ ans = 0 ∧ M' = fm_up M 0 0 (nI 2)) ∨ (P.1 m < 24 ∧ ans = nI (P.1 m) ∧ M' = rp_put M P m J))) ∨ (¬ (inR 5 v ∧ ∃ J, okI o x y z n J) ∧ ans = 0 ∧ M' = fm_up M 0 0 (nI 1)))) 75 [some (.inr 0), some (.inl v), some (.inl o), some (.inl x), some (.inl y), some (.inl z), some (.inl n), none, none] [] M
                    refine fm_iconst (pq := 76) (v := nI 0) hX d_R_put_75 (by decide) rfl ?_
                    exact L76 false ⟨fun z => absurd z (by decide), fun z => by
                      exfalso
                      obtain ⟨z1, J, z2⟩ := z
                      first
                      | exact absurd (c1.mpr z1) (by rw [h4]; decide)
                      | exact inR_n0 (by decide) h8 (okI_o z2)
                      | exact inR_n3 (n := 18) (by decide) h14 (okI_o z2)
                      | exact absurd (c18.mpr (okI_x z2)) (by rw [h21]; decide)
                      | exact absurd (c26.mpr (okI_y z2)) (by rw [h29]; decide)
                      | exact absurd (c34.mpr (okI_z z2)) (by rw [h37]; decide)
                      | exact okI_f z2 h42 h48 h54
                      | exact absurd (c65.mpr (okI_c z2 (Decidable.not_not.mp h60))) (by rw [h68]; decide)
                      | exact absurd (c65.mpr (okI_c z2 h60)) (by rw [h68]; decide)⟩
                  · show fm_G SR Y_R_put X M (fm_ir (fun ans M' => (∃ m J, m < 5 ∧ v = nI m ∧ okI o x y z n J ∧ ((P.1 m = 24 ∧ ans = 0 ∧ M' = fm_up M 0 0 (nI 2)) ∨ (P.1 m < 24 ∧ ans = nI (P.1 m) ∧ M' = rp_put M P m J))) ∨ (¬ (inR 5 v ∧ ∃ J, okI o x y z n J) ∧ ans = 0 ∧ M' = fm_up M 0 0 (nI 1)))) 57 [some (.inr 0), some (.inl v), some (.inl o), some (.inl x), some (.inl y), some (.inl z), some (.inl n), none, none] [] M
                    refine fm_iload_n (pq := 58) hX d_R_put_57 rfl rfl rfl ?_
                    refine fm_bipush (pq := 60) (v := nI 16) hX d_R_put_58 (by decide) rfl ?_
                    refine fm_icmp_ne (tgt := 71) (pq := 63) hX d_R_put_60 rfl rfl (fun h60 => ?_) (fun h60 => ?_)
                    · show fm_G SR Y_R_put X M (fm_ir (fun ans M' => (∃ m J, m < 5 ∧ v = nI m ∧ okI o x y z n J ∧ ((P.1 m = 24 ∧ ans = 0 ∧ M' = fm_up M 0 0 (nI 2)) ∨ (P.1 m < 24 ∧ ans = nI (P.1 m) ∧ M' = rp_put M P m J))) ∨ (¬ (inR 5 v ∧ ∃ J, okI o x y z n J) ∧ ans = 0 ∧ M' = fm_up M 0 0 (nI 1)))) 71 [some (.inr 0), some (.inl v), some (.inl o), some (.inl x), some (.inl y), some (.inl z), some (.inl n), none, none] [] M
                      refine fm_iconst (pq := 72) (v := nI 1) hX d_R_put_71 (by decide) rfl ?_
                      refine fm_goto (tgt := 76) hX d_R_put_72 rfl ?_
                      exact L76 true ⟨fun _ => ⟨c1.mp h4, okI_mk (inR_g (n := 18) (by decide) h8 h14) (c18.mp h21) (c26.mp h29) (c34.mp h37) (by first | exact Or.inl h42 | exact Or.inr (Or.inl h48) | exact Or.inr (Or.inr h54)) (by first | exact Or.inl h60 | exact Or.inr (c65.mp h68))⟩, fun _ => rfl⟩
                    · show fm_G SR Y_R_put X M (fm_ir (fun ans M' => (∃ m J, m < 5 ∧ v = nI m ∧ okI o x y z n J ∧ ((P.1 m = 24 ∧ ans = 0 ∧ M' = fm_up M 0 0 (nI 2)) ∨ (P.1 m < 24 ∧ ans = nI (P.1 m) ∧ M' = rp_put M P m J))) ∨ (¬ (inR 5 v ∧ ∃ J, okI o x y z n J) ∧ ans = 0 ∧ M' = fm_up M 0 0 (nI 1)))) 63 [some (.inr 0), some (.inl v), some (.inl o), some (.inl x), some (.inl y), some (.inl z), some (.inl n), none, none] [] M
                      refine fm_iload (pq := 65) hX d_R_put_63 rfl rfl ?_
                      refine fm_callS_b (as := [.inl n]) (st := []) (pq := 68) hX cR_81 st_R_isMethod (k_R_isM n M) rfl rfl (Nat.le_of_ble_eq_true rfl) (Nat.le_of_ble_eq_true rfl) d_R_put_65 rfl (fun b65 c65 => ?_)
                      refine fm_b1_eq (tgt := 75) (pq := 71) hX d_R_put_68 rfl rfl (fun h68 => ?_) (fun h68 => ?_)
                      · show fm_G SR Y_R_put X M (fm_ir (fun ans M' => (∃ m J, m < 5 ∧ v = nI m ∧ okI o x y z n J ∧ ((P.1 m = 24 ∧ ans = 0 ∧ M' = fm_up M 0 0 (nI 2)) ∨ (P.1 m < 24 ∧ ans = nI (P.1 m) ∧ M' = rp_put M P m J))) ∨ (¬ (inR 5 v ∧ ∃ J, okI o x y z n J) ∧ ans = 0 ∧ M' = fm_up M 0 0 (nI 1)))) 75 [some (.inr 0), some (.inl v), some (.inl o), some (.inl x), some (.inl y), some (.inl z), some (.inl n), none, none] [] M
                        refine fm_iconst (pq := 76) (v := nI 0) hX d_R_put_75 (by decide) rfl ?_
                        exact L76 false ⟨fun z => absurd z (by decide), fun z => by
                          exfalso
                          obtain ⟨z1, J, z2⟩ := z
                          first
                          | exact absurd (c1.mpr z1) (by rw [h4]; decide)
                          | exact inR_n0 (by decide) h8 (okI_o z2)
                          | exact inR_n3 (n := 18) (by decide) h14 (okI_o z2)
                          | exact absurd (c18.mpr (okI_x z2)) (by rw [h21]; decide)
                          | exact absurd (c26.mpr (okI_y z2)) (by rw [h29]; decide)
                          | exact absurd (c34.mpr (okI_z z2)) (by rw [h37]; decide)
                          | exact okI_f z2 h42 h48 h54
                          | exact absurd (c65.mpr (okI_c z2 (Decidable.not_not.mp h60))) (by rw [h68]; decide)
                          | exact absurd (c65.mpr (okI_c z2 h60)) (by rw [h68]; decide)⟩
                      · show fm_G SR Y_R_put X M (fm_ir (fun ans M' => (∃ m J, m < 5 ∧ v = nI m ∧ okI o x y z n J ∧ ((P.1 m = 24 ∧ ans = 0 ∧ M' = fm_up M 0 0 (nI 2)) ∨ (P.1 m < 24 ∧ ans = nI (P.1 m) ∧ M' = rp_put M P m J))) ∨ (¬ (inR 5 v ∧ ∃ J, okI o x y z n J) ∧ ans = 0 ∧ M' = fm_up M 0 0 (nI 1)))) 71 [some (.inr 0), some (.inl v), some (.inl o), some (.inl x), some (.inl y), some (.inl z), some (.inl n), none, none] [] M
                        refine fm_iconst (pq := 72) (v := nI 1) hX d_R_put_71 (by decide) rfl ?_
                        refine fm_goto (tgt := 76) hX d_R_put_72 rfl ?_
                        exact L76 true ⟨fun _ => ⟨c1.mp h4, okI_mk (inR_g (n := 18) (by decide) h8 h14) (c18.mp h21) (c26.mp h29) (c34.mp h37) (by first | exact Or.inl h42 | exact Or.inr (Or.inl h48) | exact Or.inr (Or.inr h54)) (by first | exact Or.inl h60 | exact Or.inr (c65.mp h68))⟩, fun _ => rfl⟩
