/-! Machine: leaves (written by program) -/
abbrev Y_M_base : fm_Y := ("EscapeMill$Machine", b_M_base, 1, (some .int), 1)
set_option maxRecDepth 100000 in
set_option maxHeartbeats 4000000 in
theorem k_M_base (M : fm_M) {r : Nat} (hr : M 4 9 = nI r) (h1 : 1 ≤ r) (h8 : r ≤ 8) : fm_ct SC y_M_base b_M_base 1 (some .int) 1 [.inr 4] M (fm_rv (nI ((r - 1) * 4)) M) := by
  refine fm_of (ls := [some (.inr 4)]) (by decide) wsA_good (Nat.le_of_ble_eq_true rfl) rfl (fun X hX => ?_)
  show fm_G SC Y_M_base X M (fm_rv (nI ((r - 1) * 4)) M) 0 [some (.inr 4)] [] M
  refine fm_aload_n hX d_M_base_0 rfl rfl rfl ?_
  refine fm_geti (v := nI r) hX fM_39 rfl rfl (by first | exact hr | simp [fm_up, hr]) d_M_base_1 rfl ?_
  refine fm_iconst (v := nI 1) hX d_M_base_4 (by decide) rfl ?_
  refine fm_isub (v := nI (r - 1)) hX d_M_base_5 (pk_sub (by omega)) rfl ?_
  refine fm_iconst (v := nI 4) hX d_M_base_6 (by decide) rfl ?_
  refine fm_imul (v := nI ((r - 1) * 4)) hX d_M_base_7 (pk_mul _ _) rfl ?_
  refine fm_iret hX rfl d_M_base_8 ?_
  exact fm_rvi rfl
theorem k_M_base1 (M : fm_M) {r : Nat} (hr : M 4 9 = nI (r + 1)) (h8 : r < 8) : fm_ct SC y_M_base b_M_base 1 (some .int) 1 [.inr 4] M (fm_rv (nI (r * 4)) M) := by
  have h := k_M_base M hr (by omega) (by omega)
  rw [show r + 1 - 1 = r by omega] at h
  exact h
abbrev Y_M_cellOf : fm_Y := ("EscapeMill$Machine", b_M_cellOf, 2, (some .int), 2)
set_option maxRecDepth 100000 in
set_option maxHeartbeats 4000000 in
theorem k_M_cellOf (M : fm_M) {r : Nat} (hr : M 4 9 = nI r) (h1 : 1 ≤ r) (h8 : r ≤ 8) {v : Nat} (hv : v < 4) : fm_ct SC y_M_cellOf b_M_cellOf 2 (some .int) 2 [.inr 4, .inl (nI v)] M (fm_rv (M 12 ((r - 1) * 4 + v)) M) := by
  refine fm_of (ls := [some (.inr 4), some (.inl (nI v))]) (by decide) wsA_good (Nat.le_of_ble_eq_true rfl) rfl (fun X hX => ?_)
  show fm_G SC Y_M_cellOf X M (fm_rv (M 12 ((r - 1) * 4 + v)) M) 0 [some (.inr 4), some (.inl (nI v))] [] M
  refine fm_aload_n hX d_M_cellOf_0 rfl rfl rfl ?_
  refine fm_getr (q := 12) hX fM_33 rfl rfl d_M_cellOf_1 rfl ?_
  refine fm_aload_n hX d_M_cellOf_4 rfl rfl rfl ?_
  refine fm_callV_i (as := []) (st := [.inr 12]) (pq := 8) hX rfl rfl cM_124 rfl im_M_base se_M_base (k_M_base M (r := r) hr (by omega) (by omega)) rfl rfl (Nat.le_of_ble_eq_true rfl) (Nat.le_of_ble_eq_true rfl) d_M_cellOf_5 rfl ?_
  refine fm_iload_n hX d_M_cellOf_8 rfl rfl rfl ?_
  refine fm_iadd (v := nI ((r - 1) * 4 + v)) hX d_M_cellOf_9 (nI_add _ _) rfl ?_
  refine fm_iald (v := M 12 ((r - 1) * 4 + v)) hX rfl rfl rfl (by omega) (by decide) rfl d_M_cellOf_10 rfl ?_
  refine fm_iret hX rfl d_M_cellOf_11 ?_
  exact fm_rvi rfl
abbrev Y_M_emptied : fm_Y := ("EscapeMill$Machine", b_M_emptied, 3, (some .int), 1)
set_option maxRecDepth 100000 in
set_option maxHeartbeats 4000000 in
theorem k_M_emptied (M : fm_M) {c : Nat} (hc : c < 433) : fm_ct SC y_M_emptied b_M_emptied 3 (some .int) 1 [.inr 4, .inl (nI c)] M (fm_rv (nI c) (cm_emp M c)) := by
  refine fm_of (ls := [some (.inr 4), some (.inl (nI c)), none]) (by decide) wsA_good (Nat.le_of_ble_eq_true rfl) rfl (fun X hX => ?_)
  have L2 : ∀ f, f ≤ 2 → fm_G SC Y_M_emptied X M (fm_rv (nI c) (cm_emp M c)) 2 [some (.inr 4), some (.inl (nI c)), some (.inl (nI f))] [] (cm_e M c f) := by
    refine fm_ind 2 (fun f hle ih => ?_)
    refine fm_iload_n hX d_M_emptied_2 rfl rfl rfl ?_
    refine fm_iconst (v := nI 2) hX d_M_emptied_3 (by decide) rfl ?_
    refine fm_n_ge (tgt := 35) (pq := 7) hX d_M_emptied_4 rfl rfl (by omega) (by omega) (fun h4 => ?_) (fun h4 => ?_)
    · show fm_G SC Y_M_emptied X M (fm_rv (nI c) (cm_emp M c)) 35 [some (.inr 4), some (.inl (nI c)), some (.inl (nI f))] [] (cm_e M c f)
      refine fm_aload_n hX d_M_emptied_35 rfl rfl rfl ?_
      refine fm_getr (q := 7) hX fM_18 rfl rfl d_M_emptied_36 rfl ?_
      refine fm_iload_n hX d_M_emptied_39 rfl rfl rfl ?_
      refine fm_iconst (v := nI 0) hX d_M_emptied_40 (by decide) rfl ?_
      refine fm_iast hX rfl rfl rfl (by omega) (by decide) d_M_emptied_41 rfl ?_
      refine fm_iload_n hX d_M_emptied_42 rfl rfl rfl ?_
      refine fm_iret hX rfl d_M_emptied_43 ?_
      exact ⟨rfl, by rw [show f = 2 by omega]; rfl⟩
    · show fm_G SC Y_M_emptied X M (fm_rv (nI c) (cm_emp M c)) 7 [some (.inr 4), some (.inl (nI c)), some (.inl (nI f))] [] (cm_e M c f)
      refine fm_aload_n hX d_M_emptied_7 rfl rfl rfl ?_
      refine fm_getr (q := 5) hX fM_11 rfl rfl d_M_emptied_8 rfl ?_
      refine fm_iload_n hX d_M_emptied_11 rfl rfl rfl ?_
      refine fm_iconst (v := nI 2) hX d_M_emptied_12 (by decide) rfl ?_
      refine fm_imul (v := nI (c * 2)) hX d_M_emptied_13 (pk_mul _ _) rfl ?_
      refine fm_iload_n hX d_M_emptied_14 rfl rfl rfl ?_
      refine fm_iadd (v := nI (c * 2 + f)) hX d_M_emptied_15 (nI_add _ _) rfl ?_
      refine fm_iconst (v := nI 0) hX d_M_emptied_16 (by decide) rfl ?_
      refine fm_iast hX rfl rfl rfl (by omega) (by decide) d_M_emptied_17 rfl ?_
      refine fm_aload_n hX d_M_emptied_18 rfl rfl rfl ?_
      refine fm_getr (q := 6) hX fM_15 rfl rfl d_M_emptied_19 rfl ?_
      refine fm_iload_n hX d_M_emptied_22 rfl rfl rfl ?_
      refine fm_iconst (v := nI 2) hX d_M_emptied_23 (by decide) rfl ?_
      refine fm_imul (v := nI (c * 2)) hX d_M_emptied_24 (pk_mul _ _) rfl ?_
      refine fm_iload_n hX d_M_emptied_25 rfl rfl rfl ?_
      refine fm_iadd (v := nI (c * 2 + f)) hX d_M_emptied_26 (nI_add _ _) rfl ?_
      refine fm_iconst (v := nI 0) hX d_M_emptied_27 (by decide) rfl ?_
      refine fm_iast hX rfl rfl rfl (by omega) (by decide) d_M_emptied_28 rfl ?_
      refine fm_mem (M' := cm_e M c (f + 1)) rfl ?_
      refine fm_iinc (v := nI (f + 1)) (ls1 := [some (.inr 4), some (.inl (nI c)), some (.inl (nI (f + 1)))]) hX d_M_emptied_29 rfl (nI_add _ _) (by decide) rfl rfl ?_
      refine fm_goto (tgt := 2) hX d_M_emptied_32 rfl ?_
      exact ih (by omega)
  show fm_G SC Y_M_emptied X M (fm_rv (nI c) (cm_emp M c)) 0 [some (.inr 4), some (.inl (nI c)), none] [] M
  refine fm_iconst (v := nI 0) hX d_M_emptied_0 (by decide) rfl ?_
  refine fm_istore_n (ls1 := [some (.inr 4), some (.inl (nI c)), some (.inl (nI 0))]) hX d_M_emptied_1 rfl (by decide) rfl rfl ?_
  exact L2 0 (by omega)
abbrev Y_M_newObject : fm_Y := ("EscapeMill$Machine", b_M_newObject, 1, (some .int), 2)
set_option maxRecDepth 100000 in
set_option maxHeartbeats 4000000 in
theorem k_M_newObject (M : fm_M) {md : Nat} (hmd : M 4 14 = nI md) (h4 : md < 400) : fm_ct SC y_M_newObject b_M_newObject 1 (some .int) 2 [.inr 4] M (fm_rv (nI (md + 1)) (cm_emp (fm_up M 4 14 (nI (md + 1))) (md + 1))) := by
  refine fm_of (ls := [some (.inr 4)]) (by decide) wsA_good (Nat.le_of_ble_eq_true rfl) rfl (fun X hX => ?_)
  show fm_G SC Y_M_newObject X M (fm_rv (nI (md + 1)) (cm_emp (fm_up M 4 14 (nI (md + 1))) (md + 1))) 0 [some (.inr 4)] [] M
  refine fm_aload_n hX d_M_newObject_0 rfl rfl rfl ?_
  refine fm_dup hX d_M_newObject_1 rfl ?_
  refine fm_geti (v := nI md) hX fM_55 rfl rfl hmd d_M_newObject_2 rfl ?_
  refine fm_iconst (v := nI 1) hX d_M_newObject_5 (by decide) rfl ?_
  refine fm_iadd (v := nI (md + 1)) hX d_M_newObject_6 (nI_add _ _) rfl ?_
  refine fm_puti hX fM_55 pM_14 rfl rfl rfl rfl d_M_newObject_7 rfl ?_
  refine fm_aload_n hX d_M_newObject_10 rfl rfl rfl ?_
  refine fm_aload_n hX d_M_newObject_11 rfl rfl rfl ?_
  refine fm_geti (v := nI (md + 1)) hX fM_55 rfl rfl fm_up_s d_M_newObject_12 rfl ?_
  refine fm_callV_i (as := [.inl (nI (md + 1))]) (st := []) (pq := 18) hX rfl rfl cM_141 rfl im_M_emptied se_M_emptied (k_M_emptied (fm_up M 4 14 (nI (md + 1))) (c := md + 1) (by omega)) rfl rfl (Nat.le_of_ble_eq_true rfl) (Nat.le_of_ble_eq_true rfl) d_M_newObject_15 rfl ?_
  refine fm_iret hX rfl d_M_newObject_18 ?_
  exact fm_rvi rfl
abbrev Y_M_newParts : fm_Y := ("EscapeMill$Machine", b_M_newParts, 2, (some .int), 2)
set_option maxRecDepth 100000 in
set_option maxHeartbeats 4000000 in
theorem k_M_newParts (M : fm_M) {r : Nat} (hr : M 4 9 = nI r) (h1 : 1 ≤ r) (h8 : r ≤ 8) {v : Nat} (hv : v < 4) : fm_ct SC y_M_newParts b_M_newParts 2 (some .int) 2 [.inr 4, .inl (nI v)] M (fm_rv (nI (401 + (r - 1) * 4 + v)) (cm_emp M (401 + (r - 1) * 4 + v))) := by
  refine fm_of (ls := [some (.inr 4), some (.inl (nI v))]) (by decide) wsA_good (Nat.le_of_ble_eq_true rfl) rfl (fun X hX => ?_)
  show fm_G SC Y_M_newParts X M (fm_rv (nI (401 + (r - 1) * 4 + v)) (cm_emp M (401 + (r - 1) * 4 + v))) 0 [some (.inr 4), some (.inl (nI v))] [] M
  refine fm_aload_n hX d_M_newParts_0 rfl rfl rfl ?_
  refine fm_sipush (v := nI 401) hX d_M_newParts_1 (by decide) rfl ?_
  refine fm_aload_n hX d_M_newParts_4 rfl rfl rfl ?_
  refine fm_callV_i (as := []) (st := [.inl (nI 401), .inr 4]) (pq := 8) hX rfl rfl cM_124 rfl im_M_base se_M_base (k_M_base M (r := r) hr (by omega) (by omega)) rfl rfl (Nat.le_of_ble_eq_true rfl) (Nat.le_of_ble_eq_true rfl) d_M_newParts_5 rfl ?_
  refine fm_iadd (v := nI (401 + ((r - 1) * 4))) hX d_M_newParts_8 (nI_add _ _) rfl ?_
  refine fm_iload_n hX d_M_newParts_9 rfl rfl rfl ?_
  refine fm_iadd (v := nI (401 + ((r - 1) * 4) + v)) hX d_M_newParts_10 (nI_add _ _) rfl ?_
  refine fm_callV_i (as := [.inl (nI (401 + ((r - 1) * 4) + v))]) (st := []) (pq := 14) hX rfl rfl cM_141 rfl im_M_emptied se_M_emptied (k_M_emptied M (c := 401 + ((r - 1) * 4) + v) (by omega)) rfl rfl (Nat.le_of_ble_eq_true rfl) (Nat.le_of_ble_eq_true rfl) d_M_newParts_11 rfl ?_
  refine fm_iret hX rfl d_M_newParts_14 ?_
  exact fm_rvi rfl
abbrev Y_M_show : fm_Y := ("EscapeMill$Machine", b_M_show, 2, none, 1)
set_option maxRecDepth 100000 in
set_option maxHeartbeats 4000000 in
theorem k_M_show (M : fm_M) {sh : Nat} (hsh : M 4 12 = nI sh) (h4 : sh < 1000) (v : Int32) : fm_ct SC y_M_show b_M_show 2 none 1 [.inr 4, .inl v] M (fm_vv (cm_show M sh v)) := by
  refine fm_of (ls := [some (.inr 4), some (.inl v)]) (by decide) wsA_good (Nat.le_of_ble_eq_true rfl) rfl (fun X hX => ?_)
  show fm_G SC Y_M_show X M (fm_vv (cm_show M sh v)) 0 [some (.inr 4), some (.inl v)] [] M
  refine fm_aload_n hX d_M_show_0 rfl rfl rfl ?_
  refine fm_geti (v := nI sh) hX fM_49 rfl rfl (by first | exact hsh | simp [fm_up, hsh]) d_M_show_1 rfl ?_
  refine fm_bipush (v := nI 32) hX d_M_show_4 (by decide) rfl ?_
  refine fm_n_ge (tgt := 19) (pq := 9) hX d_M_show_6 rfl rfl (by omega) (by omega) (fun h6 => ?_) (fun h6 => ?_)
  · show fm_G SC Y_M_show X M (fm_vv (cm_show M sh v)) 19 [some (.inr 4), some (.inl v)] [] M
    refine fm_aload_n hX d_M_show_19 rfl rfl rfl ?_
    refine fm_dup hX d_M_show_20 rfl ?_
    refine fm_geti (v := nI sh) hX fM_49 rfl rfl (by first | exact hsh | simp [fm_up, hsh]) d_M_show_21 rfl ?_
    refine fm_iconst (v := nI 1) hX d_M_show_24 (by decide) rfl ?_
    refine fm_iadd (v := nI (sh + 1)) hX d_M_show_25 (nI_add _ _) rfl ?_
    refine fm_puti hX fM_49 pM_12 rfl rfl rfl rfl d_M_show_26 rfl ?_
    refine fm_vret hX rfl d_M_show_29 ?_
    first | exact ⟨rfl, by unfold cm_show; rw [if_neg (by omega)]⟩ | exact ⟨rfl, by unfold cm_show; rw [if_pos (by omega)]⟩
  · show fm_G SC Y_M_show X M (fm_vv (cm_show M sh v)) 9 [some (.inr 4), some (.inl v)] [] M
    refine fm_aload_n hX d_M_show_9 rfl rfl rfl ?_
    refine fm_getr (q := 14) hX fM_43 rfl rfl d_M_show_10 rfl ?_
    refine fm_aload_n hX d_M_show_13 rfl rfl rfl ?_
    refine fm_geti (v := nI sh) hX fM_49 rfl rfl (by first | exact hsh | simp [fm_up, hsh]) d_M_show_14 rfl ?_
    refine fm_iload_n hX d_M_show_17 rfl rfl rfl ?_
    refine fm_iast hX rfl rfl rfl (by omega) (by decide) d_M_show_18 rfl ?_
    refine fm_aload_n hX d_M_show_19 rfl rfl rfl ?_
    refine fm_dup hX d_M_show_20 rfl ?_
    refine fm_geti (v := nI sh) hX fM_49 rfl rfl (by first | exact hsh | simp [fm_up, hsh]) d_M_show_21 rfl ?_
    refine fm_iconst (v := nI 1) hX d_M_show_24 (by decide) rfl ?_
    refine fm_iadd (v := nI (sh + 1)) hX d_M_show_25 (nI_add _ _) rfl ?_
    refine fm_puti hX fM_49 pM_12 rfl rfl rfl rfl d_M_show_26 rfl ?_
    refine fm_vret hX rfl d_M_show_29 ?_
    first | exact ⟨rfl, by unfold cm_show; rw [if_neg (by omega)]⟩ | exact ⟨rfl, by unfold cm_show; rw [if_pos (by omega)]⟩
abbrev Y_M_enter : fm_Y := ("EscapeMill$Machine", b_M_enter, 7, none, 2)
set_option maxRecDepth 100000 in
set_option maxHeartbeats 4000000 in
theorem k_M_enter (M : fm_M) {r : Nat} (hr : M 4 9 = nI r) (h8 : r < 8) {m t : Nat} (hm : m < 5) (ht : t < 4) (x y : Int32) : fm_ct SC y_M_enter b_M_enter 7 none 2 [.inr 4, .inl (nI m), .inl (nI t), .inl x, .inl y] M (fm_vv (cm_enter M r m t x y)) := by
  refine fm_of (ls := [some (.inr 4), some (.inl (nI m)), some (.inl (nI t)), some (.inl x), some (.inl y), none, none]) (by decide) wsA_good (Nat.le_of_ble_eq_true rfl) rfl (fun X hX => ?_)
  have L49 : ∀ v, v ≤ 4 → fm_G SC Y_M_enter X M (fm_vv (cm_enter M r m t x y)) 49 [some (.inr 4), some (.inl (nI m)), some (.inl (nI t)), some (.inl x), some (.inl y), some (.inl (nI (r * 4))), some (.inl (nI v))] [] (cm_z (fm_up (fm_up (fm_up (fm_up M 9 r (nI m)) 10 r (nI 0)) 11 r (nI t)) 4 9 (nI (r + 1))) (r * 4) v) := by
    refine fm_ind 4 (fun v hle ih => ?_)
    refine fm_iload hX d_M_enter_49 rfl rfl ?_
    refine fm_iconst (v := nI 4) hX d_M_enter_51 (by decide) rfl ?_
    refine fm_n_ge (tgt := 83) (pq := 55) hX d_M_enter_52 rfl rfl (by omega) (by omega) (fun h52 => ?_) (fun h52 => ?_)
    · show fm_G SC Y_M_enter X M (fm_vv (cm_enter M r m t x y)) 83 [some (.inr 4), some (.inl (nI m)), some (.inl (nI t)), some (.inl x), some (.inl y), some (.inl (nI (r * 4))), some (.inl (nI v))] [] (cm_z (fm_up (fm_up (fm_up (fm_up M 9 r (nI m)) 10 r (nI 0)) 11 r (nI t)) 4 9 (nI (r + 1))) (r * 4) v)
      refine fm_aload_n hX d_M_enter_83 rfl rfl rfl ?_
      refine fm_getr (q := 12) hX fM_33 rfl rfl d_M_enter_84 rfl ?_
      refine fm_iload hX d_M_enter_87 rfl rfl ?_
      refine fm_iload_n hX d_M_enter_89 rfl rfl rfl ?_
      refine fm_iast hX rfl rfl rfl (by omega) (by decide) d_M_enter_90 rfl ?_
      refine fm_aload_n hX d_M_enter_91 rfl rfl rfl ?_
      refine fm_getr (q := 12) hX fM_33 rfl rfl d_M_enter_92 rfl ?_
      refine fm_iload hX d_M_enter_95 rfl rfl ?_
      refine fm_iconst (v := nI 1) hX d_M_enter_97 (by decide) rfl ?_
      refine fm_iadd (v := nI (r * 4 + 1)) hX d_M_enter_98 (nI_add _ _) rfl ?_
      refine fm_iload hX d_M_enter_99 rfl rfl ?_
      refine fm_iast hX rfl rfl rfl (by omega) (by decide) d_M_enter_101 rfl ?_
      refine fm_vret hX rfl d_M_enter_102 ?_
      exact ⟨rfl, by rw [show v = 4 by omega]; rfl⟩
    · show fm_G SC Y_M_enter X M (fm_vv (cm_enter M r m t x y)) 55 [some (.inr 4), some (.inl (nI m)), some (.inl (nI t)), some (.inl x), some (.inl y), some (.inl (nI (r * 4))), some (.inl (nI v))] [] (cm_z (fm_up (fm_up (fm_up (fm_up M 9 r (nI m)) 10 r (nI 0)) 11 r (nI t)) 4 9 (nI (r + 1))) (r * 4) v)
      refine fm_aload_n hX d_M_enter_55 rfl rfl rfl ?_
      refine fm_getr (q := 12) hX fM_33 rfl rfl d_M_enter_56 rfl ?_
      refine fm_iload hX d_M_enter_59 rfl rfl ?_
      refine fm_iload hX d_M_enter_61 rfl rfl ?_
      refine fm_iadd (v := nI (r * 4 + v)) hX d_M_enter_63 (nI_add _ _) rfl ?_
      refine fm_iconst (v := nI 0) hX d_M_enter_64 (by decide) rfl ?_
      refine fm_iast hX rfl rfl rfl (by omega) (by decide) d_M_enter_65 rfl ?_
      refine fm_aload_n hX d_M_enter_66 rfl rfl rfl ?_
      refine fm_getr (q := 13) hX fM_36 rfl rfl d_M_enter_67 rfl ?_
      refine fm_iload hX d_M_enter_70 rfl rfl ?_
      refine fm_iload hX d_M_enter_72 rfl rfl ?_
      refine fm_iadd (v := nI (r * 4 + v)) hX d_M_enter_74 (nI_add _ _) rfl ?_
      refine fm_iconst (v := nI 0) hX d_M_enter_75 (by decide) rfl ?_
      refine fm_iast hX rfl rfl rfl (by omega) (by decide) d_M_enter_76 rfl ?_
      refine fm_mem (M' := cm_z (fm_up (fm_up (fm_up (fm_up M 9 r (nI m)) 10 r (nI 0)) 11 r (nI t)) 4 9 (nI (r + 1))) (r * 4) (v + 1)) rfl ?_
      refine fm_iinc (v := nI (v + 1)) (ls1 := [some (.inr 4), some (.inl (nI m)), some (.inl (nI t)), some (.inl x), some (.inl y), some (.inl (nI (r * 4))), some (.inl (nI (v + 1)))]) hX d_M_enter_77 rfl (nI_add _ _) (by decide) rfl rfl ?_
      refine fm_goto (tgt := 49) hX d_M_enter_80 rfl ?_
      exact ih (by omega)
  show fm_G SC Y_M_enter X M (fm_vv (cm_enter M r m t x y)) 0 [some (.inr 4), some (.inl (nI m)), some (.inl (nI t)), some (.inl x), some (.inl y), none, none] [] M
  refine fm_aload_n hX d_M_enter_0 rfl rfl rfl ?_
  refine fm_getr (q := 9) hX fM_24 rfl rfl d_M_enter_1 rfl ?_
  refine fm_aload_n hX d_M_enter_4 rfl rfl rfl ?_
  refine fm_geti (v := nI r) hX fM_39 rfl rfl (by first | exact hr | simp [fm_up, hr]) d_M_enter_5 rfl ?_
  refine fm_iload_n hX d_M_enter_8 rfl rfl rfl ?_
  refine fm_iast hX rfl rfl rfl (by omega) (by decide) d_M_enter_9 rfl ?_
  refine fm_aload_n hX d_M_enter_10 rfl rfl rfl ?_
  refine fm_getr (q := 10) hX fM_27 rfl rfl d_M_enter_11 rfl ?_
  refine fm_aload_n hX d_M_enter_14 rfl rfl rfl ?_
  refine fm_geti (v := nI r) hX fM_39 rfl rfl (by first | exact hr | simp [fm_up, hr]) d_M_enter_15 rfl ?_
  refine fm_iconst (v := nI 0) hX d_M_enter_18 (by decide) rfl ?_
  refine fm_iast hX rfl rfl rfl (by omega) (by decide) d_M_enter_19 rfl ?_
  refine fm_aload_n hX d_M_enter_20 rfl rfl rfl ?_
  refine fm_getr (q := 11) hX fM_30 rfl rfl d_M_enter_21 rfl ?_
  refine fm_aload_n hX d_M_enter_24 rfl rfl rfl ?_
  refine fm_geti (v := nI r) hX fM_39 rfl rfl (by first | exact hr | simp [fm_up, hr]) d_M_enter_25 rfl ?_
  refine fm_iload_n hX d_M_enter_28 rfl rfl rfl ?_
  refine fm_iast hX rfl rfl rfl (by omega) (by decide) d_M_enter_29 rfl ?_
  refine fm_aload_n hX d_M_enter_30 rfl rfl rfl ?_
  refine fm_dup hX d_M_enter_31 rfl ?_
  refine fm_geti (v := nI r) hX fM_39 rfl rfl (by first | exact hr | simp [fm_up, hr]) d_M_enter_32 rfl ?_
  refine fm_iconst (v := nI 1) hX d_M_enter_35 (by decide) rfl ?_
  refine fm_iadd (v := nI (r + 1)) hX d_M_enter_36 (nI_add _ _) rfl ?_
  refine fm_puti hX fM_39 pM_9 rfl rfl rfl rfl d_M_enter_37 rfl ?_
  refine fm_aload_n hX d_M_enter_40 rfl rfl rfl ?_
  refine fm_callV_i (as := []) (st := []) (pq := 44) hX rfl rfl cM_124 rfl im_M_base se_M_base (k_M_base1 _ (r := r) fm_up_s (by omega)) rfl rfl (Nat.le_of_ble_eq_true rfl) (Nat.le_of_ble_eq_true rfl) d_M_enter_41 rfl ?_
  refine fm_istore (ls1 := [some (.inr 4), some (.inl (nI m)), some (.inl (nI t)), some (.inl x), some (.inl y), some (.inl (nI (r * 4))), none]) hX d_M_enter_44 (by decide) rfl rfl ?_
  refine fm_iconst (v := nI 0) hX d_M_enter_46 (by decide) rfl ?_
  refine fm_istore (ls1 := [some (.inr 4), some (.inl (nI m)), some (.inl (nI t)), some (.inl x), some (.inl y), some (.inl (nI (r * 4))), some (.inl (nI 0))]) hX d_M_enter_47 (by decide) rfl rfl ?_
  exact L49 0 (by omega)
abbrev Y_M_leave : fm_Y := ("EscapeMill$Machine", b_M_leave, 2, none, 2)
set_option maxRecDepth 100000 in
set_option maxHeartbeats 4000000 in
theorem k_M_leave (M : fm_M) {r : Nat} (hr : M 4 9 = nI r) (h1 : 1 ≤ r) (h8 : r ≤ 8) {t : Nat} (ht : t < 4) (ht0 : 2 ≤ r → M 11 (r - 1) = nI t) (v : Int32) : fm_ct SC y_M_leave b_M_leave 2 none 2 [.inr 4, .inl v] M (fm_vv (cm_leave M r t v)) := by
  refine fm_of (ls := [some (.inr 4), some (.inl v)]) (by decide) wsA_good (Nat.le_of_ble_eq_true rfl) rfl (fun X hX => ?_)
  show fm_G SC Y_M_leave X M (fm_vv (cm_leave M r t v)) 0 [some (.inr 4), some (.inl v)] [] M
  refine fm_aload_n hX d_M_leave_0 rfl rfl rfl ?_
  refine fm_dup hX d_M_leave_1 rfl ?_
  refine fm_geti (v := nI r) hX fM_39 rfl rfl (by first | exact hr | exact fm_up_s) d_M_leave_2 rfl ?_
  refine fm_iconst (v := nI 1) hX d_M_leave_5 (by decide) rfl ?_
  refine fm_isub (v := nI (r - 1)) hX d_M_leave_6 (pk_sub (by omega)) rfl ?_
  refine fm_puti hX fM_39 pM_9 rfl rfl rfl rfl d_M_leave_7 rfl ?_
  refine fm_aload_n hX d_M_leave_10 rfl rfl rfl ?_
  refine fm_geti (v := nI (r - 1)) hX fM_39 rfl rfl (by first | exact hr | exact fm_up_s) d_M_leave_11 rfl ?_
  refine fm_z_le (tgt := 37) (pq := 17) hX d_M_leave_14 rfl rfl (by omega) (fun h14 => ?_) (fun h14 => ?_)
  · show fm_G SC Y_M_leave X M (fm_vv (cm_leave M r t v)) 37 [some (.inr 4), some (.inl v)] [] (fm_up M 4 9 (nI (r - 1)))
    refine fm_vret hX rfl d_M_leave_37 ?_
    first | exact ⟨rfl, (if_pos (by omega)).symm⟩ | exact ⟨rfl, (if_neg (by omega)).symm⟩
  · show fm_G SC Y_M_leave X M (fm_vv (cm_leave M r t v)) 17 [some (.inr 4), some (.inl v)] [] (fm_up M 4 9 (nI (r - 1)))
    refine fm_aload_n hX d_M_leave_17 rfl rfl rfl ?_
    refine fm_getr (q := 12) hX fM_33 rfl rfl d_M_leave_18 rfl ?_
    refine fm_aload_n hX d_M_leave_21 rfl rfl rfl ?_
    refine fm_callV_i (as := []) (st := [.inr 12]) (pq := 25) hX rfl rfl cM_124 rfl im_M_base se_M_base (k_M_base _ (r := r - 1) fm_up_s (by omega) (by omega)) rfl rfl (Nat.le_of_ble_eq_true rfl) (Nat.le_of_ble_eq_true rfl) d_M_leave_22 rfl ?_
    refine fm_aload_n hX d_M_leave_25 rfl rfl rfl ?_
    refine fm_getr (q := 11) hX fM_30 rfl rfl d_M_leave_26 rfl ?_
    refine fm_aload_n hX d_M_leave_29 rfl rfl rfl ?_
    refine fm_geti (v := nI (r - 1)) hX fM_39 rfl rfl (by first | exact hr | exact fm_up_s) d_M_leave_30 rfl ?_
    refine fm_iald (v := nI t) hX rfl rfl rfl (by omega) (by decide) (by first | exact ht0 (by omega) | (rw [fm_up_a (by decide)]; exact ht0 (by omega))) d_M_leave_33 rfl ?_
    refine fm_iadd (v := nI ((r - 1 - 1) * 4 + t)) hX d_M_leave_34 (nI_add _ _) rfl ?_
    refine fm_iload_n hX d_M_leave_35 rfl rfl rfl ?_
    refine fm_iast hX rfl rfl rfl (by omega) (by decide) d_M_leave_36 rfl ?_
    refine fm_vret hX rfl d_M_leave_37 ?_
    first | exact ⟨rfl, (if_pos (by omega)).symm⟩ | exact ⟨rfl, (if_neg (by omega)).symm⟩
abbrev Y_M_workOnField : fm_Y := ("EscapeMill$Machine", b_M_workOnField, 8, none, 2)
set_option maxRecDepth 100000 in
set_option maxHeartbeats 4000000 in
theorem k_M_workOnField (M : fm_M) {r : Nat} (hr : M 4 9 = nI r) (h1 : 1 ≤ r) (h8 : r ≤ 8) {o x y z c : Nat} (ho : o = 3 ∨ o = 4 ∨ o = 5 ∨ o = 6) (hx : x < 4) (hy : y < 4) (hz : z < 2) (hc : c < 433) : fm_ct SC y_M_workOnField b_M_workOnField 8 none 2 [.inr 4, .inl (nI o), .inl (nI x), .inl (nI y), .inl (nI z), .inl (nI c)] M (fm_vv (cm_wof M r o x y z c)) := by
  refine fm_of (ls := [some (.inr 4), some (.inl (nI o)), some (.inl (nI x)), some (.inl (nI y)), some (.inl (nI z)), some (.inl (nI c)), none, none]) (by decide) wsA_good (Nat.le_of_ble_eq_true rfl) rfl (fun X hX => ?_)
  show fm_G SC Y_M_workOnField X M (fm_vv (cm_wof M r o x y z c)) 0 [some (.inr 4), some (.inl (nI o)), some (.inl (nI x)), some (.inl (nI y)), some (.inl (nI z)), some (.inl (nI c)), none, none] [] M
  refine fm_iload hX d_M_workOnField_0 rfl rfl ?_
  refine fm_z_ne (tgt := 11) (pq := 5) hX d_M_workOnField_2 rfl rfl (by omega) (fun h2 => ?_) (fun h2 => ?_)
  · show fm_G SC Y_M_workOnField X M (fm_vv (cm_wof M r o x y z c)) 11 [some (.inr 4), some (.inl (nI o)), some (.inl (nI x)), some (.inl (nI y)), some (.inl (nI z)), some (.inl (nI c)), none, none] [] M
    refine fm_aload_n hX d_M_workOnField_11 rfl rfl rfl ?_
    refine fm_callV_i (as := []) (st := []) (pq := 15) hX rfl rfl cM_124 rfl im_M_base se_M_base (k_M_base M (r := r) hr (by omega) (by omega)) rfl rfl (Nat.le_of_ble_eq_true rfl) (Nat.le_of_ble_eq_true rfl) d_M_workOnField_12 rfl ?_
    refine fm_istore (ls1 := [some (.inr 4), some (.inl (nI o)), some (.inl (nI x)), some (.inl (nI y)), some (.inl (nI z)), some (.inl (nI c)), some (.inl (nI ((r - 1) * 4))), none]) hX d_M_workOnField_15 (by decide) rfl rfl ?_
    refine fm_iload hX d_M_workOnField_17 rfl rfl ?_
    refine fm_iconst (v := nI 2) hX d_M_workOnField_19 (by decide) rfl ?_
    refine fm_imul (v := nI (c * 2)) hX d_M_workOnField_20 (pk_mul _ _) rfl ?_
    refine fm_iload hX d_M_workOnField_21 rfl rfl ?_
    refine fm_iadd (v := nI (c * 2 + z)) hX d_M_workOnField_23 (nI_add _ _) rfl ?_
    refine fm_istore (ls1 := [some (.inr 4), some (.inl (nI o)), some (.inl (nI x)), some (.inl (nI y)), some (.inl (nI z)), some (.inl (nI c)), some (.inl (nI ((r - 1) * 4))), some (.inl (nI (c * 2 + z)))]) hX d_M_workOnField_24 (by decide) rfl rfl ?_
    refine fm_iload_n hX d_M_workOnField_26 rfl rfl rfl ?_
    refine fm_iconst (v := nI 3) hX d_M_workOnField_27 (by decide) rfl ?_
    refine fm_n_ne (tgt := 50) (pq := 31) hX d_M_workOnField_28 rfl rfl (by omega) (by omega) (fun h28 => ?_) (fun h28 => ?_)
    · show fm_G SC Y_M_workOnField X M (fm_vv (cm_wof M r o x y z c)) 50 [some (.inr 4), some (.inl (nI o)), some (.inl (nI x)), some (.inl (nI y)), some (.inl (nI z)), some (.inl (nI c)), some (.inl (nI ((r - 1) * 4))), some (.inl (nI (c * 2 + z)))] [] M
      refine fm_iload_n hX d_M_workOnField_50 rfl rfl rfl ?_
      refine fm_iconst (v := nI 5) hX d_M_workOnField_51 (by decide) rfl ?_
      refine fm_n_ne (tgt := 74) (pq := 55) hX d_M_workOnField_52 rfl rfl (by omega) (by omega) (fun h52 => ?_) (fun h52 => ?_)
      · show fm_G SC Y_M_workOnField X M (fm_vv (cm_wof M r o x y z c)) 74 [some (.inr 4), some (.inl (nI o)), some (.inl (nI x)), some (.inl (nI y)), some (.inl (nI z)), some (.inl (nI c)), some (.inl (nI ((r - 1) * 4))), some (.inl (nI (c * 2 + z)))] [] M
        refine fm_iload_n hX d_M_workOnField_74 rfl rfl rfl ?_
        refine fm_iconst (v := nI 4) hX d_M_workOnField_75 (by decide) rfl ?_
        refine fm_n_ne (tgt := 98) (pq := 79) hX d_M_workOnField_76 rfl rfl (by omega) (by omega) (fun h76 => ?_) (fun h76 => ?_)
        · show fm_G SC Y_M_workOnField X M (fm_vv (cm_wof M r o x y z c)) 98 [some (.inr 4), some (.inl (nI o)), some (.inl (nI x)), some (.inl (nI y)), some (.inl (nI z)), some (.inl (nI c)), some (.inl (nI ((r - 1) * 4))), some (.inl (nI (c * 2 + z)))] [] M
          refine fm_aload_n hX d_M_workOnField_98 rfl rfl rfl ?_
          refine fm_getr (q := 6) hX fM_15 rfl rfl d_M_workOnField_99 rfl ?_
          refine fm_iload hX d_M_workOnField_102 rfl rfl ?_
          refine fm_aload_n hX d_M_workOnField_104 rfl rfl rfl ?_
          refine fm_getr (q := 13) hX fM_36 rfl rfl d_M_workOnField_105 rfl ?_
          refine fm_iload hX d_M_workOnField_108 rfl rfl ?_
          refine fm_iload_n hX d_M_workOnField_110 rfl rfl rfl ?_
          refine fm_iadd (v := nI ((r - 1) * 4 + y)) hX d_M_workOnField_111 (nI_add _ _) rfl ?_
          refine fm_iald (v := M 13 ((r - 1) * 4 + y)) hX rfl rfl rfl (by omega) (by decide) rfl d_M_workOnField_112 rfl ?_
          refine fm_iast hX rfl rfl rfl (by omega) (by decide) d_M_workOnField_113 rfl ?_
          refine fm_vret hX rfl d_M_workOnField_114 ?_
          refine ⟨rfl, ?_⟩
          unfold cm_wof
          first | rw [if_neg h2, if_neg h28, if_neg h52, if_neg h76] | rw [if_neg h2, if_neg h28, if_neg h52, if_pos h76] | rw [if_neg h2, if_neg h28, if_pos h52] | rw [if_neg h2, if_pos h28] | rw [if_pos h2]
        · show fm_G SC Y_M_workOnField X M (fm_vv (cm_wof M r o x y z c)) 79 [some (.inr 4), some (.inl (nI o)), some (.inl (nI x)), some (.inl (nI y)), some (.inl (nI z)), some (.inl (nI c)), some (.inl (nI ((r - 1) * 4))), some (.inl (nI (c * 2 + z)))] [] M
          refine fm_aload_n hX d_M_workOnField_79 rfl rfl rfl ?_
          refine fm_getr (q := 5) hX fM_11 rfl rfl d_M_workOnField_80 rfl ?_
          refine fm_iload hX d_M_workOnField_83 rfl rfl ?_
          refine fm_aload_n hX d_M_workOnField_85 rfl rfl rfl ?_
          refine fm_getr (q := 12) hX fM_33 rfl rfl d_M_workOnField_86 rfl ?_
          refine fm_iload hX d_M_workOnField_89 rfl rfl ?_
          refine fm_iload_n hX d_M_workOnField_91 rfl rfl rfl ?_
          refine fm_iadd (v := nI ((r - 1) * 4 + y)) hX d_M_workOnField_92 (nI_add _ _) rfl ?_
          refine fm_iald (v := M 12 ((r - 1) * 4 + y)) hX rfl rfl rfl (by omega) (by decide) rfl d_M_workOnField_93 rfl ?_
          refine fm_iast hX rfl rfl rfl (by omega) (by decide) d_M_workOnField_94 rfl ?_
          refine fm_goto (tgt := 114) hX d_M_workOnField_95 rfl ?_
          refine fm_vret hX rfl d_M_workOnField_114 ?_
          refine ⟨rfl, ?_⟩
          unfold cm_wof
          first | rw [if_neg h2, if_neg h28, if_neg h52, if_neg h76] | rw [if_neg h2, if_neg h28, if_neg h52, if_pos h76] | rw [if_neg h2, if_neg h28, if_pos h52] | rw [if_neg h2, if_pos h28] | rw [if_pos h2]
      · show fm_G SC Y_M_workOnField X M (fm_vv (cm_wof M r o x y z c)) 55 [some (.inr 4), some (.inl (nI o)), some (.inl (nI x)), some (.inl (nI y)), some (.inl (nI z)), some (.inl (nI c)), some (.inl (nI ((r - 1) * 4))), some (.inl (nI (c * 2 + z)))] [] M
        refine fm_aload_n hX d_M_workOnField_55 rfl rfl rfl ?_
        refine fm_getr (q := 13) hX fM_36 rfl rfl d_M_workOnField_56 rfl ?_
        refine fm_iload hX d_M_workOnField_59 rfl rfl ?_
        refine fm_iload_n hX d_M_workOnField_61 rfl rfl rfl ?_
        refine fm_iadd (v := nI ((r - 1) * 4 + x)) hX d_M_workOnField_62 (nI_add _ _) rfl ?_
        refine fm_aload_n hX d_M_workOnField_63 rfl rfl rfl ?_
        refine fm_getr (q := 6) hX fM_15 rfl rfl d_M_workOnField_64 rfl ?_
        refine fm_iload hX d_M_workOnField_67 rfl rfl ?_
        refine fm_iald (v := M 6 (c * 2 + z)) hX rfl rfl rfl (by omega) (by decide) rfl d_M_workOnField_69 rfl ?_
        refine fm_iast hX rfl rfl rfl (by omega) (by decide) d_M_workOnField_70 rfl ?_
        refine fm_goto (tgt := 114) hX d_M_workOnField_71 rfl ?_
        refine fm_vret hX rfl d_M_workOnField_114 ?_
        refine ⟨rfl, ?_⟩
        unfold cm_wof
        first | rw [if_neg h2, if_neg h28, if_neg h52, if_neg h76] | rw [if_neg h2, if_neg h28, if_neg h52, if_pos h76] | rw [if_neg h2, if_neg h28, if_pos h52] | rw [if_neg h2, if_pos h28] | rw [if_pos h2]
    · show fm_G SC Y_M_workOnField X M (fm_vv (cm_wof M r o x y z c)) 31 [some (.inr 4), some (.inl (nI o)), some (.inl (nI x)), some (.inl (nI y)), some (.inl (nI z)), some (.inl (nI c)), some (.inl (nI ((r - 1) * 4))), some (.inl (nI (c * 2 + z)))] [] M
      refine fm_aload_n hX d_M_workOnField_31 rfl rfl rfl ?_
      refine fm_getr (q := 12) hX fM_33 rfl rfl d_M_workOnField_32 rfl ?_
      refine fm_iload hX d_M_workOnField_35 rfl rfl ?_
      refine fm_iload_n hX d_M_workOnField_37 rfl rfl rfl ?_
      refine fm_iadd (v := nI ((r - 1) * 4 + x)) hX d_M_workOnField_38 (nI_add _ _) rfl ?_
      refine fm_aload_n hX d_M_workOnField_39 rfl rfl rfl ?_
      refine fm_getr (q := 5) hX fM_11 rfl rfl d_M_workOnField_40 rfl ?_
      refine fm_iload hX d_M_workOnField_43 rfl rfl ?_
      refine fm_iald (v := M 5 (c * 2 + z)) hX rfl rfl rfl (by omega) (by decide) rfl d_M_workOnField_45 rfl ?_
      refine fm_iast hX rfl rfl rfl (by omega) (by decide) d_M_workOnField_46 rfl ?_
      refine fm_goto (tgt := 114) hX d_M_workOnField_47 rfl ?_
      refine fm_vret hX rfl d_M_workOnField_114 ?_
      refine ⟨rfl, ?_⟩
      unfold cm_wof
      first | rw [if_neg h2, if_neg h28, if_neg h52, if_neg h76] | rw [if_neg h2, if_neg h28, if_neg h52, if_pos h76] | rw [if_neg h2, if_neg h28, if_pos h52] | rw [if_neg h2, if_pos h28] | rw [if_pos h2]
  · show fm_G SC Y_M_workOnField X M (fm_vv (cm_wof M r o x y z c)) 5 [some (.inr 4), some (.inl (nI o)), some (.inl (nI x)), some (.inl (nI y)), some (.inl (nI z)), some (.inl (nI c)), none, none] [] M
    refine fm_aload_n hX d_M_workOnField_5 rfl rfl rfl ?_
    refine fm_iconst (v := nI 1) hX d_M_workOnField_6 (by decide) rfl ?_
    refine fm_puti hX fM_46 pM_11 rfl rfl rfl rfl d_M_workOnField_7 rfl ?_
    refine fm_vret hX rfl d_M_workOnField_10 ?_
    refine ⟨rfl, ?_⟩
    unfold cm_wof
    first | rw [if_neg h2, if_neg h28, if_neg h52, if_neg h76] | rw [if_neg h2, if_neg h28, if_neg h52, if_pos h76] | rw [if_neg h2, if_neg h28, if_pos h52] | rw [if_neg h2, if_pos h28] | rw [if_pos h2]
abbrev Y_M_changeCount : fm_Y := ("EscapeMill$Machine", b_M_changeCount, 3, none, 1)
set_option maxRecDepth 100000 in
set_option maxHeartbeats 4000000 in
theorem k_M_changeCount (M : fm_M) {o c : Nat} (ho : o = 10 ∨ o = 11) (hc : c < 433) : fm_ct SC y_M_changeCount b_M_changeCount 3 none 1 [.inr 4, .inl (nI o), .inl (nI c)] M (fm_vv (cm_cnt M o c)) := by
  refine fm_of (ls := [some (.inr 4), some (.inl (nI o)), some (.inl (nI c))]) (by decide) wsA_good (Nat.le_of_ble_eq_true rfl) rfl (fun X hX => ?_)
  show fm_G SC Y_M_changeCount X M (fm_vv (cm_cnt M o c)) 0 [some (.inr 4), some (.inl (nI o)), some (.inl (nI c))] [] M
  refine fm_iload_n hX d_M_changeCount_0 rfl rfl rfl ?_
  refine fm_z_ne (tgt := 12) (pq := 4) hX d_M_changeCount_1 rfl rfl (by omega) (fun h1 => ?_) (fun h1 => ?_)
  · show fm_G SC Y_M_changeCount X M (fm_vv (cm_cnt M o c)) 12 [some (.inr 4), some (.inl (nI o)), some (.inl (nI c))] [] M
    refine fm_iload_n hX d_M_changeCount_12 rfl rfl rfl ?_
    refine fm_bipush (v := nI 11) hX d_M_changeCount_13 (by decide) rfl ?_
    refine fm_n_ne (tgt := 35) (pq := 18) hX d_M_changeCount_15 rfl rfl (by omega) (by omega) (fun h15 => ?_) (fun h15 => ?_)
    · show fm_G SC Y_M_changeCount X M (fm_vv (cm_cnt M o c)) 35 [some (.inr 4), some (.inl (nI o)), some (.inl (nI c))] [] M
      refine fm_aload_n hX d_M_changeCount_35 rfl rfl rfl ?_
      refine fm_getr (q := 7) hX fM_18 rfl rfl d_M_changeCount_36 rfl ?_
      refine fm_iload_n hX d_M_changeCount_39 rfl rfl rfl ?_
      refine fm_dup2 hX d_M_changeCount_40 rfl ?_
      refine fm_iald (v := M 7 c) hX rfl rfl rfl (by omega) (by decide) rfl d_M_changeCount_41 rfl ?_
      refine fm_iload_n hX d_M_changeCount_42 rfl rfl rfl ?_
      refine fm_bipush (v := nI 10) hX d_M_changeCount_43 (by decide) rfl ?_
      refine fm_n_ne (tgt := 52) (pq := 48) hX d_M_changeCount_45 rfl rfl (by omega) (by omega) (fun h45 => ?_) (fun h45 => ?_)
      · show fm_G SC Y_M_changeCount X M (fm_vv (cm_cnt M o c)) 52 [some (.inr 4), some (.inl (nI o)), some (.inl (nI c))] [.inl (M 7 c), .inl (nI c), .inr 7] M
        refine fm_iconst (v := (-1)) hX d_M_changeCount_52 (by decide) rfl ?_
        refine fm_iadd (v := (M 7 c) + ((-1))) hX d_M_changeCount_53 rfl rfl ?_
        refine fm_iast hX rfl rfl rfl (by omega) (by decide) d_M_changeCount_54 rfl ?_
        refine fm_aload_n hX d_M_changeCount_55 rfl rfl rfl ?_
        refine fm_dup hX d_M_changeCount_56 rfl ?_
        refine fm_geti (v := M 4 15) hX fM_58 rfl rfl (by first | rfl | simp [fm_up]) d_M_changeCount_57 rfl ?_
        refine fm_iload_n hX d_M_changeCount_60 rfl rfl rfl ?_
        refine fm_sipush (v := nI 401) hX d_M_changeCount_61 (by decide) rfl ?_
        refine fm_n_ge (tgt := 71) (pq := 67) hX d_M_changeCount_64 rfl rfl (by omega) (by omega) (fun h64 => ?_) (fun h64 => ?_)
        · show fm_G SC Y_M_changeCount X M (fm_vv (cm_cnt M o c)) 71 [some (.inr 4), some (.inl (nI o)), some (.inl (nI c))] [.inl (M 4 15), .inr 4] (fm_up M 7 c ((M 7 c) + ((-1))))
          refine fm_iconst (v := nI 0) hX d_M_changeCount_71 (by decide) rfl ?_
          refine fm_iadd (v := (M 4 15) + (nI 0)) hX d_M_changeCount_72 rfl rfl ?_
          refine fm_puti hX fM_58 pM_15 rfl rfl rfl rfl d_M_changeCount_73 rfl ?_
          refine fm_vret hX rfl d_M_changeCount_76 ?_
          refine ⟨rfl, ?_⟩
          unfold cm_cnt
          first
          | (exfalso; omega)
          | (rw [if_neg h1, if_neg (by first | exact fun q => h15 q.1 | exact fun q => h24 q.2)]; first | rw [if_pos h45, if_pos (by omega)] | rw [if_pos h45, if_neg (by omega)] | rw [if_neg h45, if_pos (by omega)] | rw [if_neg h45, if_neg (by omega)])
          | rw [if_neg h1, if_pos ⟨h15, h24⟩]
          | rw [if_pos h1]
        · show fm_G SC Y_M_changeCount X M (fm_vv (cm_cnt M o c)) 67 [some (.inr 4), some (.inl (nI o)), some (.inl (nI c))] [.inl (M 4 15), .inr 4] (fm_up M 7 c ((M 7 c) + ((-1))))
          refine fm_iconst (v := nI 1) hX d_M_changeCount_67 (by decide) rfl ?_
          refine fm_goto (tgt := 72) hX d_M_changeCount_68 rfl ?_
          refine fm_iadd (v := (M 4 15) + (nI 1)) hX d_M_changeCount_72 rfl rfl ?_
          refine fm_puti hX fM_58 pM_15 rfl rfl rfl rfl d_M_changeCount_73 rfl ?_
          refine fm_vret hX rfl d_M_changeCount_76 ?_
          refine ⟨rfl, ?_⟩
          unfold cm_cnt
          first
          | (exfalso; omega)
          | (rw [if_neg h1, if_neg (by first | exact fun q => h15 q.1 | exact fun q => h24 q.2)]; first | rw [if_pos h45, if_pos (by omega)] | rw [if_pos h45, if_neg (by omega)] | rw [if_neg h45, if_pos (by omega)] | rw [if_neg h45, if_neg (by omega)])
          | rw [if_neg h1, if_pos ⟨h15, h24⟩]
          | rw [if_pos h1]
      · show fm_G SC Y_M_changeCount X M (fm_vv (cm_cnt M o c)) 48 [some (.inr 4), some (.inl (nI o)), some (.inl (nI c))] [.inl (M 7 c), .inl (nI c), .inr 7] M
        refine fm_iconst (v := nI 1) hX d_M_changeCount_48 (by decide) rfl ?_
        refine fm_goto (tgt := 53) hX d_M_changeCount_49 rfl ?_
        refine fm_iadd (v := (M 7 c) + (nI 1)) hX d_M_changeCount_53 rfl rfl ?_
        refine fm_iast hX rfl rfl rfl (by omega) (by decide) d_M_changeCount_54 rfl ?_
        refine fm_aload_n hX d_M_changeCount_55 rfl rfl rfl ?_
        refine fm_dup hX d_M_changeCount_56 rfl ?_
        refine fm_geti (v := M 4 15) hX fM_58 rfl rfl (by first | rfl | simp [fm_up]) d_M_changeCount_57 rfl ?_
        refine fm_iload_n hX d_M_changeCount_60 rfl rfl rfl ?_
        refine fm_sipush (v := nI 401) hX d_M_changeCount_61 (by decide) rfl ?_
        refine fm_n_ge (tgt := 71) (pq := 67) hX d_M_changeCount_64 rfl rfl (by omega) (by omega) (fun h64 => ?_) (fun h64 => ?_)
        · show fm_G SC Y_M_changeCount X M (fm_vv (cm_cnt M o c)) 71 [some (.inr 4), some (.inl (nI o)), some (.inl (nI c))] [.inl (M 4 15), .inr 4] (fm_up M 7 c ((M 7 c) + (nI 1)))
          refine fm_iconst (v := nI 0) hX d_M_changeCount_71 (by decide) rfl ?_
          refine fm_iadd (v := (M 4 15) + (nI 0)) hX d_M_changeCount_72 rfl rfl ?_
          refine fm_puti hX fM_58 pM_15 rfl rfl rfl rfl d_M_changeCount_73 rfl ?_
          refine fm_vret hX rfl d_M_changeCount_76 ?_
          refine ⟨rfl, ?_⟩
          unfold cm_cnt
          first
          | (exfalso; omega)
          | (rw [if_neg h1, if_neg (by first | exact fun q => h15 q.1 | exact fun q => h24 q.2)]; first | rw [if_pos h45, if_pos (by omega)] | rw [if_pos h45, if_neg (by omega)] | rw [if_neg h45, if_pos (by omega)] | rw [if_neg h45, if_neg (by omega)])
          | rw [if_neg h1, if_pos ⟨h15, h24⟩]
          | rw [if_pos h1]
        · show fm_G SC Y_M_changeCount X M (fm_vv (cm_cnt M o c)) 67 [some (.inr 4), some (.inl (nI o)), some (.inl (nI c))] [.inl (M 4 15), .inr 4] (fm_up M 7 c ((M 7 c) + (nI 1)))
          refine fm_iconst (v := nI 1) hX d_M_changeCount_67 (by decide) rfl ?_
          refine fm_goto (tgt := 72) hX d_M_changeCount_68 rfl ?_
          refine fm_iadd (v := (M 4 15) + (nI 1)) hX d_M_changeCount_72 rfl rfl ?_
          refine fm_puti hX fM_58 pM_15 rfl rfl rfl rfl d_M_changeCount_73 rfl ?_
          refine fm_vret hX rfl d_M_changeCount_76 ?_
          refine ⟨rfl, ?_⟩
          unfold cm_cnt
          first
          | (exfalso; omega)
          | (rw [if_neg h1, if_neg (by first | exact fun q => h15 q.1 | exact fun q => h24 q.2)]; first | rw [if_pos h45, if_pos (by omega)] | rw [if_pos h45, if_neg (by omega)] | rw [if_neg h45, if_pos (by omega)] | rw [if_neg h45, if_neg (by omega)])
          | rw [if_neg h1, if_pos ⟨h15, h24⟩]
          | rw [if_pos h1]
    · show fm_G SC Y_M_changeCount X M (fm_vv (cm_cnt M o c)) 18 [some (.inr 4), some (.inl (nI o)), some (.inl (nI c))] [] M
      refine fm_aload_n hX d_M_changeCount_18 rfl rfl rfl ?_
      refine fm_getr (q := 7) hX fM_18 rfl rfl d_M_changeCount_19 rfl ?_
      refine fm_iload_n hX d_M_changeCount_22 rfl rfl rfl ?_
      refine fm_iald (v := M 7 c) hX rfl rfl rfl (by omega) (by decide) rfl d_M_changeCount_23 rfl ?_
      refine fm_if_ne (tgt := 35) (pq := 27) hX d_M_changeCount_24 rfl rfl (fun h24 => ?_) (fun h24 => ?_)
      · show fm_G SC Y_M_changeCount X M (fm_vv (cm_cnt M o c)) 35 [some (.inr 4), some (.inl (nI o)), some (.inl (nI c))] [] M
        refine fm_aload_n hX d_M_changeCount_35 rfl rfl rfl ?_
        refine fm_getr (q := 7) hX fM_18 rfl rfl d_M_changeCount_36 rfl ?_
        refine fm_iload_n hX d_M_changeCount_39 rfl rfl rfl ?_
        refine fm_dup2 hX d_M_changeCount_40 rfl ?_
        refine fm_iald (v := M 7 c) hX rfl rfl rfl (by omega) (by decide) rfl d_M_changeCount_41 rfl ?_
        refine fm_iload_n hX d_M_changeCount_42 rfl rfl rfl ?_
        refine fm_bipush (v := nI 10) hX d_M_changeCount_43 (by decide) rfl ?_
        refine fm_n_ne (tgt := 52) (pq := 48) hX d_M_changeCount_45 rfl rfl (by omega) (by omega) (fun h45 => ?_) (fun h45 => ?_)
        · show fm_G SC Y_M_changeCount X M (fm_vv (cm_cnt M o c)) 52 [some (.inr 4), some (.inl (nI o)), some (.inl (nI c))] [.inl (M 7 c), .inl (nI c), .inr 7] M
          refine fm_iconst (v := (-1)) hX d_M_changeCount_52 (by decide) rfl ?_
          refine fm_iadd (v := (M 7 c) + ((-1))) hX d_M_changeCount_53 rfl rfl ?_
          refine fm_iast hX rfl rfl rfl (by omega) (by decide) d_M_changeCount_54 rfl ?_
          refine fm_aload_n hX d_M_changeCount_55 rfl rfl rfl ?_
          refine fm_dup hX d_M_changeCount_56 rfl ?_
          refine fm_geti (v := M 4 15) hX fM_58 rfl rfl (by first | rfl | simp [fm_up]) d_M_changeCount_57 rfl ?_
          refine fm_iload_n hX d_M_changeCount_60 rfl rfl rfl ?_
          refine fm_sipush (v := nI 401) hX d_M_changeCount_61 (by decide) rfl ?_
          refine fm_n_ge (tgt := 71) (pq := 67) hX d_M_changeCount_64 rfl rfl (by omega) (by omega) (fun h64 => ?_) (fun h64 => ?_)
          · show fm_G SC Y_M_changeCount X M (fm_vv (cm_cnt M o c)) 71 [some (.inr 4), some (.inl (nI o)), some (.inl (nI c))] [.inl (M 4 15), .inr 4] (fm_up M 7 c ((M 7 c) + ((-1))))
            refine fm_iconst (v := nI 0) hX d_M_changeCount_71 (by decide) rfl ?_
            refine fm_iadd (v := (M 4 15) + (nI 0)) hX d_M_changeCount_72 rfl rfl ?_
            refine fm_puti hX fM_58 pM_15 rfl rfl rfl rfl d_M_changeCount_73 rfl ?_
            refine fm_vret hX rfl d_M_changeCount_76 ?_
            refine ⟨rfl, ?_⟩
            unfold cm_cnt
            first
            | (exfalso; omega)
            | (rw [if_neg h1, if_neg (by first | exact fun q => h15 q.1 | exact fun q => h24 q.2)]; first | rw [if_pos h45, if_pos (by omega)] | rw [if_pos h45, if_neg (by omega)] | rw [if_neg h45, if_pos (by omega)] | rw [if_neg h45, if_neg (by omega)])
            | rw [if_neg h1, if_pos ⟨h15, h24⟩]
            | rw [if_pos h1]
          · show fm_G SC Y_M_changeCount X M (fm_vv (cm_cnt M o c)) 67 [some (.inr 4), some (.inl (nI o)), some (.inl (nI c))] [.inl (M 4 15), .inr 4] (fm_up M 7 c ((M 7 c) + ((-1))))
            refine fm_iconst (v := nI 1) hX d_M_changeCount_67 (by decide) rfl ?_
            refine fm_goto (tgt := 72) hX d_M_changeCount_68 rfl ?_
            refine fm_iadd (v := (M 4 15) + (nI 1)) hX d_M_changeCount_72 rfl rfl ?_
            refine fm_puti hX fM_58 pM_15 rfl rfl rfl rfl d_M_changeCount_73 rfl ?_
            refine fm_vret hX rfl d_M_changeCount_76 ?_
            refine ⟨rfl, ?_⟩
            unfold cm_cnt
            first
            | (exfalso; omega)
            | (rw [if_neg h1, if_neg (by first | exact fun q => h15 q.1 | exact fun q => h24 q.2)]; first | rw [if_pos h45, if_pos (by omega)] | rw [if_pos h45, if_neg (by omega)] | rw [if_neg h45, if_pos (by omega)] | rw [if_neg h45, if_neg (by omega)])
            | rw [if_neg h1, if_pos ⟨h15, h24⟩]
            | rw [if_pos h1]
        · show fm_G SC Y_M_changeCount X M (fm_vv (cm_cnt M o c)) 48 [some (.inr 4), some (.inl (nI o)), some (.inl (nI c))] [.inl (M 7 c), .inl (nI c), .inr 7] M
          refine fm_iconst (v := nI 1) hX d_M_changeCount_48 (by decide) rfl ?_
          refine fm_goto (tgt := 53) hX d_M_changeCount_49 rfl ?_
          refine fm_iadd (v := (M 7 c) + (nI 1)) hX d_M_changeCount_53 rfl rfl ?_
          refine fm_iast hX rfl rfl rfl (by omega) (by decide) d_M_changeCount_54 rfl ?_
          refine fm_aload_n hX d_M_changeCount_55 rfl rfl rfl ?_
          refine fm_dup hX d_M_changeCount_56 rfl ?_
          refine fm_geti (v := M 4 15) hX fM_58 rfl rfl (by first | rfl | simp [fm_up]) d_M_changeCount_57 rfl ?_
          refine fm_iload_n hX d_M_changeCount_60 rfl rfl rfl ?_
          refine fm_sipush (v := nI 401) hX d_M_changeCount_61 (by decide) rfl ?_
          refine fm_n_ge (tgt := 71) (pq := 67) hX d_M_changeCount_64 rfl rfl (by omega) (by omega) (fun h64 => ?_) (fun h64 => ?_)
          · show fm_G SC Y_M_changeCount X M (fm_vv (cm_cnt M o c)) 71 [some (.inr 4), some (.inl (nI o)), some (.inl (nI c))] [.inl (M 4 15), .inr 4] (fm_up M 7 c ((M 7 c) + (nI 1)))
            refine fm_iconst (v := nI 0) hX d_M_changeCount_71 (by decide) rfl ?_
            refine fm_iadd (v := (M 4 15) + (nI 0)) hX d_M_changeCount_72 rfl rfl ?_
            refine fm_puti hX fM_58 pM_15 rfl rfl rfl rfl d_M_changeCount_73 rfl ?_
            refine fm_vret hX rfl d_M_changeCount_76 ?_
            refine ⟨rfl, ?_⟩
            unfold cm_cnt
            first
            | (exfalso; omega)
            | (rw [if_neg h1, if_neg (by first | exact fun q => h15 q.1 | exact fun q => h24 q.2)]; first | rw [if_pos h45, if_pos (by omega)] | rw [if_pos h45, if_neg (by omega)] | rw [if_neg h45, if_pos (by omega)] | rw [if_neg h45, if_neg (by omega)])
            | rw [if_neg h1, if_pos ⟨h15, h24⟩]
            | rw [if_pos h1]
          · show fm_G SC Y_M_changeCount X M (fm_vv (cm_cnt M o c)) 67 [some (.inr 4), some (.inl (nI o)), some (.inl (nI c))] [.inl (M 4 15), .inr 4] (fm_up M 7 c ((M 7 c) + (nI 1)))
            refine fm_iconst (v := nI 1) hX d_M_changeCount_67 (by decide) rfl ?_
            refine fm_goto (tgt := 72) hX d_M_changeCount_68 rfl ?_
            refine fm_iadd (v := (M 4 15) + (nI 1)) hX d_M_changeCount_72 rfl rfl ?_
            refine fm_puti hX fM_58 pM_15 rfl rfl rfl rfl d_M_changeCount_73 rfl ?_
            refine fm_vret hX rfl d_M_changeCount_76 ?_
            refine ⟨rfl, ?_⟩
            unfold cm_cnt
            first
            | (exfalso; omega)
            | (rw [if_neg h1, if_neg (by first | exact fun q => h15 q.1 | exact fun q => h24 q.2)]; first | rw [if_pos h45, if_pos (by omega)] | rw [if_pos h45, if_neg (by omega)] | rw [if_neg h45, if_pos (by omega)] | rw [if_neg h45, if_neg (by omega)])
            | rw [if_neg h1, if_pos ⟨h15, h24⟩]
            | rw [if_pos h1]
      · show fm_G SC Y_M_changeCount X M (fm_vv (cm_cnt M o c)) 27 [some (.inr 4), some (.inl (nI o)), some (.inl (nI c))] [] M
        refine fm_aload_n hX d_M_changeCount_27 rfl rfl rfl ?_
        refine fm_iconst (v := nI 2) hX d_M_changeCount_28 (by decide) rfl ?_
        refine fm_puti hX fM_46 pM_11 rfl rfl rfl rfl d_M_changeCount_29 rfl ?_
        refine fm_goto (tgt := 76) hX d_M_changeCount_32 rfl ?_
        refine fm_vret hX rfl d_M_changeCount_76 ?_
        refine ⟨rfl, ?_⟩
        unfold cm_cnt
        first
        | (exfalso; omega)
        | (rw [if_neg h1, if_neg (by first | exact fun q => h15 q.1 | exact fun q => h24 q.2)]; first | rw [if_pos h45, if_pos (by omega)] | rw [if_pos h45, if_neg (by omega)] | rw [if_neg h45, if_pos (by omega)] | rw [if_neg h45, if_neg (by omega)])
        | rw [if_neg h1, if_pos ⟨h15, h24⟩]
        | rw [if_pos h1]
  · show fm_G SC Y_M_changeCount X M (fm_vv (cm_cnt M o c)) 4 [some (.inr 4), some (.inl (nI o)), some (.inl (nI c))] [] M
    refine fm_aload_n hX d_M_changeCount_4 rfl rfl rfl ?_
    refine fm_iconst (v := nI 1) hX d_M_changeCount_5 (by decide) rfl ?_
    refine fm_puti hX fM_46 pM_11 rfl rfl rfl rfl d_M_changeCount_6 rfl ?_
    refine fm_goto (tgt := 76) hX d_M_changeCount_9 rfl ?_
    refine fm_vret hX rfl d_M_changeCount_76 ?_
    refine ⟨rfl, ?_⟩
    unfold cm_cnt
    first
    | (exfalso; omega)
    | (rw [if_neg h1, if_neg (by first | exact fun q => h15 q.1 | exact fun q => h24 q.2)]; first | rw [if_pos h45, if_pos (by omega)] | rw [if_pos h45, if_neg (by omega)] | rw [if_neg h45, if_pos (by omega)] | rw [if_neg h45, if_neg (by omega)])
    | rw [if_neg h1, if_pos ⟨h15, h24⟩]
    | rw [if_pos h1]
