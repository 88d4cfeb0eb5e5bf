/-! Facts: leaves (written by program) -/
abbrev Y_A_fill : fm_Y := ("java/util/Arrays", b_A_fill, 4, none, 1)
set_option maxRecDepth 100000 in
set_option maxHeartbeats 4000000 in
theorem k_A_fill {a n : Nat} (ha : SC.2.1[a]? = some (.inl (0, n, []))) (hn : n < 2 ^ 31) (M : fm_M) (v : Int32) : fm_ct SC y_A_fill b_A_fill 4 none 1 [.inr a, .inl v] M (fm_vv (fm_fill M a n v)) := by
  refine fm_of (ls := [some (.inr a), some (.inl v), none, none]) (by decide) wsA_good (Nat.le_of_ble_eq_true rfl) rfl (fun X hX => ?_)
  have L5 : ∀ i, i ≤ n → fm_G SC Y_A_fill X M (fm_vv (fm_fill M a n v)) 5 [some (.inr a), some (.inl v), some (.inl (nI i)), some (.inl (nI n))] [] (fm_fill M a i v) := by
    refine fm_ind n (fun i hle ih => ?_)
    refine fm_iload_n hX d_A_fill_5 rfl rfl rfl ?_
    refine fm_iload_n hX d_A_fill_6 rfl rfl rfl ?_
    refine fm_n_ge (tgt := 20) (pq := 10) hX d_A_fill_7 rfl rfl (by omega) (by omega) (fun h7 => ?_) (fun h7 => ?_)
    · show fm_G SC Y_A_fill X M (fm_vv (fm_fill M a n v)) 20 [some (.inr a), some (.inl v), some (.inl (nI i)), some (.inl (nI n))] [] (fm_fill M a i v)
      refine fm_vret hX rfl d_A_fill_20 ?_
      exact ⟨rfl, by rw [show i = n by omega]⟩
    · show fm_G SC Y_A_fill X M (fm_vv (fm_fill M a n v)) 10 [some (.inr a), some (.inl v), some (.inl (nI i)), some (.inl (nI n))] [] (fm_fill M a i v)
      refine fm_aload_n hX d_A_fill_10 rfl rfl rfl ?_
      refine fm_iload_n hX d_A_fill_11 rfl rfl rfl ?_
      refine fm_iload_n hX d_A_fill_12 rfl rfl rfl ?_
      refine fm_iast hX ha rfl rfl (by omega) hn d_A_fill_13 rfl ?_
      refine fm_mem (M' := fm_fill M a (i + 1) v) (fm_fill_s M a i v) ?_
      refine fm_iinc (v := nI (i + 1)) (ls1 := [some (.inr a), some (.inl v), some (.inl (nI (i + 1))), some (.inl (nI n))]) hX d_A_fill_14 rfl (nI_add _ _) (by decide) rfl rfl ?_
      refine fm_goto (tgt := 5) hX d_A_fill_17 rfl ?_
      exact ih (by omega)
  show fm_G SC Y_A_fill X M (fm_vv (fm_fill M a n v)) 0 [some (.inr a), some (.inl v), none, none] [] M
  refine fm_iconst (v := nI 0) hX d_A_fill_0 (by decide) rfl ?_
  refine fm_istore_n (ls1 := [some (.inr a), some (.inl v), some (.inl (nI 0)), none]) hX d_A_fill_1 rfl (by decide) rfl rfl ?_
  refine fm_aload_n hX d_A_fill_2 rfl rfl rfl ?_
  refine fm_alen hX ha rfl d_A_fill_3 rfl ?_
  refine fm_istore_n (ls1 := [some (.inr a), some (.inl v), some (.inl (nI 0)), some (.inl (nI n))]) hX d_A_fill_4 rfl (by decide) rfl rfl ?_
  refine fm_mem (fm_fill_0 M a v).symm ?_
  exact L5 0 (by omega)
abbrev Y_F_refer : fm_Y := ("EscapeMill$Facts", b_F_refer, 3, none, 1)
set_option maxRecDepth 100000 in
set_option maxHeartbeats 4000000 in
theorem k_F_refer {m : Nat} (hm : m < 5) (M : fm_M) {r : Nat} (hr : r < 4) (s : Int32) : fm_ct SC y_F_refer b_F_refer 3 none 1 [.inr (kF m), .inl (nI r), .inl s] M (fm_vr (fun M' => cS m M M' (an_m (cA M m) r s))) := by
  refine fm_of (ls := [some (.inr (kF m)), some (.inl (nI r)), some (.inl s)]) (by decide) wsA_good (Nat.le_of_ble_eq_true rfl) rfl (fun X hX => ?_)
  show fm_G SC Y_F_refer X M (fm_vr (fun M' => cS m M M' (an_m (cA M m) r s))) 0 [some (.inr (kF m)), some (.inl (nI r)), some (.inl s)] [] M
  refine fm_aload_n hX d_F_refer_0 rfl rfl rfl ?_
  refine fm_getr (q := kFm m) hX fF_9 (s_F (by omega)) rfl d_F_refer_1 rfl ?_
  refine fm_iload_n hX d_F_refer_4 rfl rfl rfl ?_
  refine fm_iald (v := M (kFm m) r) hX (s_Fm (by omega)) rfl rfl (by omega) (by decide) rfl d_F_refer_5 rfl ?_
  refine fm_iload_n hX d_F_refer_6 rfl rfl rfl ?_
  refine fm_ior (v := (M (kFm m) r) ||| s) hX d_F_refer_7 rfl rfl ?_
  refine fm_aload_n hX d_F_refer_8 rfl rfl rfl ?_
  refine fm_getr (q := kFm m) hX fF_9 (s_F (by omega)) rfl d_F_refer_9 rfl ?_
  refine fm_iload_n hX d_F_refer_12 rfl rfl rfl ?_
  refine fm_iald (v := M (kFm m) r) hX (s_Fm (by omega)) rfl rfl (by omega) (by decide) rfl d_F_refer_13 rfl ?_
  refine fm_icmp_eq (tgt := 32) (pq := 17) hX d_F_refer_14 rfl rfl (fun h14 => ?_) (fun h14 => ?_)
  · show fm_G SC Y_F_refer X M (fm_vr (fun M' => cS m M M' (an_m (cA M m) r s))) 32 [some (.inr (kF m)), some (.inl (nI r)), some (.inl s)] [] M
    refine fm_vret hX rfl d_F_refer_32 ?_
    exact ⟨rfl, cS_m0 hr h14⟩
  · show fm_G SC Y_F_refer X M (fm_vr (fun M' => cS m M M' (an_m (cA M m) r s))) 17 [some (.inr (kF m)), some (.inl (nI r)), some (.inl s)] [] M
    refine fm_aload_n hX d_F_refer_17 rfl rfl rfl ?_
    refine fm_getr (q := kFm m) hX fF_9 (s_F (by omega)) rfl d_F_refer_18 rfl ?_
    refine fm_iload_n hX d_F_refer_21 rfl rfl rfl ?_
    refine fm_dup2 hX d_F_refer_22 rfl ?_
    refine fm_iald (v := M (kFm m) r) hX (s_Fm (by omega)) rfl rfl (by omega) (by decide) rfl d_F_refer_23 rfl ?_
    refine fm_iload_n hX d_F_refer_24 rfl rfl rfl ?_
    refine fm_ior (v := (M (kFm m) r) ||| s) hX d_F_refer_25 rfl rfl ?_
    refine fm_iast hX (s_Fm (by omega)) rfl rfl (by omega) (by decide) d_F_refer_26 rfl ?_
    refine fm_aload_n hX d_F_refer_27 rfl rfl rfl ?_
    refine fm_iconst (v := nI 1) hX d_F_refer_28 (by decide) rfl ?_
    refine fm_puti hX fF_37 pF_7 (s_F (by omega)) rfl (by decide) (by decide) d_F_refer_29 rfl ?_
    refine fm_vret hX rfl d_F_refer_32 ?_
    exact ⟨rfl, cS_m1 hr h14⟩
abbrev Y_F_holdIn : fm_Y := ("EscapeMill$Facts", b_F_holdIn, 6, none, 1)
set_option maxRecDepth 100000 in
set_option maxHeartbeats 4000000 in
theorem k_F_holdIn {m : Nat} (hm : m < 5) (M : fm_M) {f : Nat} (hf : f < 2) (who s : Int32) : fm_ct SC y_F_holdIn b_F_holdIn 6 none 1 [.inr (kF m), .inl (nI f), .inl who, .inl s] M (fm_vr (fun M' => cS m M M' (an_h (cA M m) who (fun _ g => decide (g = f)) s))) := by
  refine fm_of (ls := [some (.inr (kF m)), some (.inl (nI f)), some (.inl who), some (.inl s), none, none]) (by decide) wsA_good (Nat.le_of_ble_eq_true rfl) rfl (fun X hX => ?_)
  have L11 : ∀ i, i ≤ 27 → ∀ M1, cS m M M1 (an_h (cA M m) who (cHn f i) s) → fm_G SC Y_F_holdIn X M (fm_vr (fun M' => cS m M M' (an_h (cA M m) who (fun _ g => decide (g = f)) s))) 11 [some (.inr (kF m)), some (.inl (nI f)), some (.inl who), some (.inl s), some (.inr (kFr m f)), some (.inl (nI i))] [] M1 := by
    refine fm_ind 27 (fun i hle ih => ?_)
    intro M1 hc
    refine fm_iload hX d_F_holdIn_11 rfl rfl ?_
    refine fm_bipush (v := nI 27) hX d_F_holdIn_13 (by decide) rfl ?_
    refine fm_n_ge (tgt := 63) (pq := 18) hX d_F_holdIn_15 rfl rfl (by omega) (by omega) (fun h15 => ?_) (fun h15 => ?_)
    · show fm_G SC Y_F_holdIn X M (fm_vr (fun M' => cS m M M' (an_h (cA M m) who (fun _ g => decide (g = f)) s))) 63 [some (.inr (kF m)), some (.inl (nI f)), some (.inl who), some (.inl s), some (.inr (kFr m f)), some (.inl (nI i))] [] M1
      refine fm_vret hX rfl d_F_holdIn_63 ?_
      exact ⟨rfl, cS_eq hc (by rw [show i = 27 by omega]; exact cHn_27 _ _ _ _)⟩
    · show fm_G SC Y_F_holdIn X M (fm_vr (fun M' => cS m M M' (an_h (cA M m) who (fun _ g => decide (g = f)) s))) 18 [some (.inr (kF m)), some (.inl (nI f)), some (.inl who), some (.inl s), some (.inr (kFr m f)), some (.inl (nI i))] [] M1
      refine fm_iload_n hX d_F_holdIn_18 rfl rfl rfl ?_
      refine fm_iload hX d_F_holdIn_19 rfl rfl ?_
      refine fm_ishr (v := who >>> (nI i &&& 31)) hX d_F_holdIn_21 rfl rfl ?_
      refine fm_iconst (v := nI 1) hX d_F_holdIn_22 (by decide) rfl ?_
      refine fm_iand (v := bI (bt who i)) hX d_F_holdIn_23 (fm_bit _ (by omega)) rfl ?_
      refine fm_iconst (v := nI 1) hX d_F_holdIn_24 (by decide) rfl ?_
      refine fm_b2_ne1 (tgt := 57) (pq := 28) hX d_F_holdIn_25 rfl rfl (fun h25 => ?_) (fun h25 => ?_)
      · show fm_G SC Y_F_holdIn X M (fm_vr (fun M' => cS m M M' (an_h (cA M m) who (fun _ g => decide (g = f)) s))) 57 [some (.inr (kF m)), some (.inl (nI f)), some (.inl who), some (.inl s), some (.inr (kFr m f)), some (.inl (nI i))] [] M1
        refine fm_iinc (v := nI (i + 1)) (ls1 := [some (.inr (kF m)), some (.inl (nI f)), some (.inl who), some (.inl s), some (.inr (kFr m f)), some (.inl (nI (i + 1)))]) hX d_F_holdIn_57 rfl (nI_add _ _) (by decide) rfl rfl ?_
        refine fm_goto (tgt := 11) hX d_F_holdIn_60 rfl ?_
        first | exact ih (by omega) _ (cS_h0 hf (by omega) hc (fun q => q.2 h40)) | exact ih (by omega) _ (cS_h0 hf (by omega) hc (fun q => by rw [h25] at q; exact absurd q.1 (by decide)))
      · show fm_G SC Y_F_holdIn X M (fm_vr (fun M' => cS m M M' (an_h (cA M m) who (fun _ g => decide (g = f)) s))) 28 [some (.inr (kF m)), some (.inl (nI f)), some (.inl who), some (.inl s), some (.inr (kFr m f)), some (.inl (nI i))] [] M1
        refine fm_aload hX d_F_holdIn_28 rfl rfl ?_
        refine fm_iload hX d_F_holdIn_30 rfl rfl ?_
        refine fm_iald (v := M1 (kFr m f) i) hX (s_Fr (by omega) (by omega)) rfl rfl (by omega) (by decide) rfl d_F_holdIn_32 rfl ?_
        refine fm_iload_n hX d_F_holdIn_33 rfl rfl rfl ?_
        refine fm_ior (v := (M1 (kFr m f) i) ||| s) hX d_F_holdIn_34 rfl rfl ?_
        refine fm_aload hX d_F_holdIn_35 rfl rfl ?_
        refine fm_iload hX d_F_holdIn_37 rfl rfl ?_
        refine fm_iald (v := M1 (kFr m f) i) hX (s_Fr (by omega) (by omega)) rfl rfl (by omega) (by decide) rfl d_F_holdIn_39 rfl ?_
        refine fm_icmp_eq (tgt := 57) (pq := 43) hX d_F_holdIn_40 rfl rfl (fun h40 => ?_) (fun h40 => ?_)
        · show fm_G SC Y_F_holdIn X M (fm_vr (fun M' => cS m M M' (an_h (cA M m) who (fun _ g => decide (g = f)) s))) 57 [some (.inr (kF m)), some (.inl (nI f)), some (.inl who), some (.inl s), some (.inr (kFr m f)), some (.inl (nI i))] [] M1
          refine fm_iinc (v := nI (i + 1)) (ls1 := [some (.inr (kF m)), some (.inl (nI f)), some (.inl who), some (.inl s), some (.inr (kFr m f)), some (.inl (nI (i + 1)))]) hX d_F_holdIn_57 rfl (nI_add _ _) (by decide) rfl rfl ?_
          refine fm_goto (tgt := 11) hX d_F_holdIn_60 rfl ?_
          first | exact ih (by omega) _ (cS_h0 hf (by omega) hc (fun q => q.2 h40)) | exact ih (by omega) _ (cS_h0 hf (by omega) hc (fun q => by rw [h25] at q; exact absurd q.1 (by decide)))
        · show fm_G SC Y_F_holdIn X M (fm_vr (fun M' => cS m M M' (an_h (cA M m) who (fun _ g => decide (g = f)) s))) 43 [some (.inr (kF m)), some (.inl (nI f)), some (.inl who), some (.inl s), some (.inr (kFr m f)), some (.inl (nI i))] [] M1
          refine fm_aload hX d_F_holdIn_43 rfl rfl ?_
          refine fm_iload hX d_F_holdIn_45 rfl rfl ?_
          refine fm_dup2 hX d_F_holdIn_47 rfl ?_
          refine fm_iald (v := M1 (kFr m f) i) hX (s_Fr (by omega) (by omega)) rfl rfl (by omega) (by decide) rfl d_F_holdIn_48 rfl ?_
          refine fm_iload_n hX d_F_holdIn_49 rfl rfl rfl ?_
          refine fm_ior (v := (M1 (kFr m f) i) ||| s) hX d_F_holdIn_50 rfl rfl ?_
          refine fm_iast hX (s_Fr (by omega) (by omega)) rfl rfl (by omega) (by decide) d_F_holdIn_51 rfl ?_
          refine fm_aload_n hX d_F_holdIn_52 rfl rfl rfl ?_
          refine fm_iconst (v := nI 1) hX d_F_holdIn_53 (by decide) rfl ?_
          refine fm_puti hX fF_37 pF_7 (s_F (by omega)) rfl (by decide) (by decide) d_F_holdIn_54 rfl ?_
          refine fm_iinc (v := nI (i + 1)) (ls1 := [some (.inr (kF m)), some (.inl (nI f)), some (.inl who), some (.inl s), some (.inr (kFr m f)), some (.inl (nI (i + 1)))]) hX d_F_holdIn_57 rfl (nI_add _ _) (by decide) rfl rfl ?_
          refine fm_goto (tgt := 11) hX d_F_holdIn_60 rfl ?_
          exact ih (by omega) _ (cS_h1 hf (by omega) hc h25 h40)
  show fm_G SC Y_F_holdIn X M (fm_vr (fun M' => cS m M M' (an_h (cA M m) who (fun _ g => decide (g = f)) s))) 0 [some (.inr (kF m)), some (.inl (nI f)), some (.inl who), some (.inl s), none, none] [] M
  refine fm_aload_n hX d_F_holdIn_0 rfl rfl rfl ?_
  refine fm_getr (q := kFh m) hX fF_17 (s_F (by omega)) rfl d_F_holdIn_1 rfl ?_
  refine fm_iload_n hX d_F_holdIn_4 rfl rfl rfl ?_
  refine fm_aald (q := kFr m f) hX (s_Fh (by omega)) (by decide) rfl rfl rfl (by omega) (by decide) (r_Fr (by omega)) d_F_holdIn_5 rfl ?_
  refine fm_astore (ls1 := [some (.inr (kF m)), some (.inl (nI f)), some (.inl who), some (.inl s), some (.inr (kFr m f)), none]) hX d_F_holdIn_6 (by decide) rfl rfl ?_
  refine fm_iconst (v := nI 0) hX d_F_holdIn_8 (by decide) rfl ?_
  refine fm_istore (ls1 := [some (.inr (kF m)), some (.inl (nI f)), some (.inl who), some (.inl s), some (.inr (kFr m f)), some (.inl (nI 0))]) hX d_F_holdIn_9 (by decide) rfl rfl ?_
  exact L11 0 (by omega) M (cS_eq (cS_rf m M) (cHn_0 _ _ _ _).symm)
abbrev Y_F_holdInBoth : fm_Y := ("EscapeMill$Facts", b_F_holdInBoth, 3, none, 2)
set_option maxRecDepth 100000 in
set_option maxHeartbeats 4000000 in
theorem k_F_holdInBoth {m : Nat} (hm : m < 5) (M : fm_M) (who s : Int32) : fm_ct SC y_F_holdInBoth b_F_holdInBoth 3 none 2 [.inr (kF m), .inl who, .inl s] M (fm_vr (fun M' => cS m M M' (an_h (cA M m) who an_al s))) := by
  refine fm_of (ls := [some (.inr (kF m)), some (.inl who), some (.inl s)]) (by decide) wsA_good (Nat.le_of_ble_eq_true rfl) rfl (fun X hX => ?_)
  show fm_G SC Y_F_holdInBoth X M (fm_vr (fun M' => cS m M M' (an_h (cA M m) who an_al s))) 0 [some (.inr (kF m)), some (.inl who), some (.inl s)] [] M
  refine fm_aload_n hX d_F_holdInBoth_0 rfl rfl rfl ?_
  refine fm_iconst (v := nI 0) hX d_F_holdInBoth_1 (by decide) rfl ?_
  refine fm_iload_n hX d_F_holdInBoth_2 rfl rfl rfl ?_
  refine fm_iload_n hX d_F_holdInBoth_3 rfl rfl rfl ?_
  refine fm_callV_r (as := [.inl (nI 0), .inl who, .inl s]) (st := []) (pq := 7) hX (s_F (by omega)) rfl cF_110 rfl im_F_holdIn se_F_holdIn (k_F_holdIn (by omega) M (f := 0) (by omega) who s) rfl rfl (Nat.le_of_ble_eq_true rfl) (Nat.le_of_ble_eq_true rfl) d_F_holdInBoth_4 rfl (fun M4 c4 => ?_)
  refine fm_aload_n hX d_F_holdInBoth_7 rfl rfl rfl ?_
  refine fm_iconst (v := nI 1) hX d_F_holdInBoth_8 (by decide) rfl ?_
  refine fm_iload_n hX d_F_holdInBoth_9 rfl rfl rfl ?_
  refine fm_iload_n hX d_F_holdInBoth_10 rfl rfl rfl ?_
  refine fm_callV_r (as := [.inl (nI 1), .inl who, .inl s]) (st := []) (pq := 14) hX (s_F (by omega)) rfl cF_110 rfl im_F_holdIn se_F_holdIn (k_F_holdIn (by omega) M4 (f := 1) (by omega) who s) rfl rfl (Nat.le_of_ble_eq_true rfl) (Nat.le_of_ble_eq_true rfl) d_F_holdInBoth_11 rfl (fun M11 c11 => ?_)
  refine fm_vret hX rfl d_F_holdInBoth_14 ?_
  exact ⟨rfl, cS_eq (cS_tr c4 c11) (by rw [c4.1]; exact an_h_both _ _ _)⟩
abbrev Y_F_hold : fm_Y := ("EscapeMill$Facts", b_F_hold, 5, none, 3)
set_option maxRecDepth 100000 in
set_option maxHeartbeats 4000000 in
theorem k_F_hold {m : Nat} (hm : m < 5) (M : fm_M) (who : Int32) {f : Nat} (hf : f < 2) (s : Int32) : fm_ct SC y_F_hold b_F_hold 5 none 3 [.inr (kF m), .inl who, .inl (nI f), .inl s] M (fm_vr (fun M' => cS m M M' (an_h (cA M m) who (fun a g => decide (23 < a) || decide (g = f)) s))) := by
  refine fm_of (ls := [some (.inr (kF m)), some (.inl who), some (.inl (nI f)), some (.inl s), none]) (by decide) wsA_good (Nat.le_of_ble_eq_true rfl) rfl (fun X hX => ?_)
  show fm_G SC Y_F_hold X M (fm_vr (fun M' => cS m M M' (an_h (cA M m) who (fun a g => decide (23 < a) || decide (g = f)) s))) 0 [some (.inr (kF m)), some (.inl who), some (.inl (nI f)), some (.inl s), none] [] M
  refine fm_iload_n hX d_F_hold_0 rfl rfl rfl ?_
  refine fm_ldc (v := 16777215) hX d_F_hold_1 kF_109 rfl ?_
  refine fm_iand (v := who &&& 16777215) hX d_F_hold_3 rfl rfl ?_
  refine fm_istore (ls1 := [some (.inr (kF m)), some (.inl who), some (.inl (nI f)), some (.inl s), some (.inl (who &&& 16777215))]) hX d_F_hold_4 (by decide) rfl rfl ?_
  refine fm_aload_n hX d_F_hold_6 rfl rfl rfl ?_
  refine fm_iload_n hX d_F_hold_7 rfl rfl rfl ?_
  refine fm_iload hX d_F_hold_8 rfl rfl ?_
  refine fm_iload_n hX d_F_hold_10 rfl rfl rfl ?_
  refine fm_callV_r (as := [.inl (nI f), .inl (who &&& 16777215), .inl s]) (st := []) (pq := 14) hX (s_F (by omega)) rfl cF_110 rfl im_F_holdIn se_F_holdIn (k_F_holdIn (by omega) M (f := f) (by omega) (who &&& 16777215) s) rfl rfl (Nat.le_of_ble_eq_true rfl) (Nat.le_of_ble_eq_true rfl) d_F_hold_11 rfl (fun M11 c11 => ?_)
  refine fm_aload_n hX d_F_hold_14 rfl rfl rfl ?_
  refine fm_iload_n hX d_F_hold_15 rfl rfl rfl ?_
  refine fm_iload hX d_F_hold_16 rfl rfl ?_
  refine fm_iconst (v := (-1)) hX d_F_hold_18 (by decide) rfl ?_
  refine fm_ixor (v := (who &&& 16777215) ^^^ ((-1))) hX d_F_hold_19 rfl rfl ?_
  refine fm_iand (v := who &&& ((who &&& 16777215) ^^^ ((-1)))) hX d_F_hold_20 rfl rfl ?_
  refine fm_iload_n hX d_F_hold_21 rfl rfl rfl ?_
  refine fm_callV_r (as := [.inl (who &&& ((who &&& 16777215) ^^^ ((-1)))), .inl s]) (st := []) (pq := 25) hX (s_F (by omega)) rfl cF_81 rfl im_F_holdInBoth se_F_holdInBoth (k_F_holdInBoth (by omega) M11 (who &&& ((who &&& 16777215) ^^^ ((-1)))) s) rfl rfl (Nat.le_of_ble_eq_true rfl) (Nat.le_of_ble_eq_true rfl) d_F_hold_22 rfl (fun M22 c22 => ?_)
  refine fm_vret hX rfl d_F_hold_25 ?_
  exact ⟨rfl, cS_eq (cS_tr c11 c22) (by rw [c11.1]; exact an_h_hold _ _ _ _)⟩
abbrev Y_F_heldBy : fm_Y := ("EscapeMill$Facts", b_F_heldBy, 6, (some .int), 1)
set_option maxRecDepth 100000 in
set_option maxHeartbeats 4000000 in
theorem k_F_heldBy {m : Nat} (hm : m < 5) (M : fm_M) (who : Int32) {f : Nat} (hf : f < 2) : fm_ct SC y_F_heldBy b_F_heldBy 6 (some .int) 1 [.inr (kF m), .inl who, .inl (nI f)] M (fm_rv (an_hb (fun a => (cA M m).2.1 a f) who 27) M) := by
  refine fm_of (ls := [some (.inr (kF m)), some (.inl who), some (.inl (nI f)), none, none, none]) (by decide) wsA_good (Nat.le_of_ble_eq_true rfl) rfl (fun X hX => ?_)
  have L13 : ∀ i, i ≤ 27 → ∀ x, x = an_hb (fun a => (cA M m).2.1 a f) who i → fm_G SC Y_F_heldBy X M (fm_rv (an_hb (fun a => (cA M m).2.1 a f) who 27) M) 13 [some (.inr (kF m)), some (.inl who), some (.inl (nI f)), some (.inr (kFr m f)), some (.inl x), some (.inl (nI i))] [] M := by
    refine fm_ind 27 (fun i hle ih => ?_)
    intro x hx0
    refine fm_iload hX d_F_heldBy_13 rfl rfl ?_
    refine fm_bipush (v := nI 27) hX d_F_heldBy_15 (by decide) rfl ?_
    refine fm_n_ge (tgt := 45) (pq := 20) hX d_F_heldBy_17 rfl rfl (by omega) (by omega) (fun h17 => ?_) (fun h17 => ?_)
    · show fm_G SC Y_F_heldBy X M (fm_rv (an_hb (fun a => (cA M m).2.1 a f) who 27) M) 45 [some (.inr (kF m)), some (.inl who), some (.inl (nI f)), some (.inr (kFr m f)), some (.inl x), some (.inl (nI i))] [] M
      refine fm_iload hX d_F_heldBy_45 rfl rfl ?_
      refine fm_iret hX rfl d_F_heldBy_47 ?_
      exact fm_rvi (by rw [hx0, show i = 27 by omega])
    · show fm_G SC Y_F_heldBy X M (fm_rv (an_hb (fun a => (cA M m).2.1 a f) who 27) M) 20 [some (.inr (kF m)), some (.inl who), some (.inl (nI f)), some (.inr (kFr m f)), some (.inl x), some (.inl (nI i))] [] M
      refine fm_iload_n hX d_F_heldBy_20 rfl rfl rfl ?_
      refine fm_iload hX d_F_heldBy_21 rfl rfl ?_
      refine fm_ishr (v := who >>> (nI i &&& 31)) hX d_F_heldBy_23 rfl rfl ?_
      refine fm_iconst (v := nI 1) hX d_F_heldBy_24 (by decide) rfl ?_
      refine fm_iand (v := bI (bt who i)) hX d_F_heldBy_25 (fm_bit _ (by omega)) rfl ?_
      refine fm_iconst (v := nI 1) hX d_F_heldBy_26 (by decide) rfl ?_
      refine fm_b2_ne1 (tgt := 39) (pq := 30) hX d_F_heldBy_27 rfl rfl (fun h27 => ?_) (fun h27 => ?_)
      · show fm_G SC Y_F_heldBy X M (fm_rv (an_hb (fun a => (cA M m).2.1 a f) who 27) M) 39 [some (.inr (kF m)), some (.inl who), some (.inl (nI f)), some (.inr (kFr m f)), some (.inl x), some (.inl (nI i))] [] M
        refine fm_iinc (v := nI (i + 1)) (ls1 := [some (.inr (kF m)), some (.inl who), some (.inl (nI f)), some (.inr (kFr m f)), some (.inl x), some (.inl (nI (i + 1)))]) hX d_F_heldBy_39 rfl (nI_add _ _) (by decide) rfl rfl ?_
        refine fm_goto (tgt := 13) hX d_F_heldBy_42 rfl ?_
        first | exact ih (by omega) _ (by rw [hx0]; exact (an_hb_t h27).symm) | exact ih (by omega) _ (by rw [hx0]; exact (an_hb_f h27).symm)
      · show fm_G SC Y_F_heldBy X M (fm_rv (an_hb (fun a => (cA M m).2.1 a f) who 27) M) 30 [some (.inr (kF m)), some (.inl who), some (.inl (nI f)), some (.inr (kFr m f)), some (.inl x), some (.inl (nI i))] [] M
        refine fm_iload hX d_F_heldBy_30 rfl rfl ?_
        refine fm_aload_n hX d_F_heldBy_32 rfl rfl rfl ?_
        refine fm_iload hX d_F_heldBy_33 rfl rfl ?_
        refine fm_iald (v := (cA M m).2.1 i f) hX (s_Fr (by omega) (by omega)) rfl rfl (by omega) (by decide) (cA_h (by omega) (by omega)).symm d_F_heldBy_35 rfl ?_
        refine fm_ior (v := x ||| ((cA M m).2.1 i f)) hX d_F_heldBy_36 rfl rfl ?_
        refine fm_istore (ls1 := [some (.inr (kF m)), some (.inl who), some (.inl (nI f)), some (.inr (kFr m f)), some (.inl (x ||| ((cA M m).2.1 i f))), some (.inl (nI i))]) hX d_F_heldBy_37 (by decide) rfl rfl ?_
        refine fm_iinc (v := nI (i + 1)) (ls1 := [some (.inr (kF m)), some (.inl who), some (.inl (nI f)), some (.inr (kFr m f)), some (.inl (x ||| ((cA M m).2.1 i f))), some (.inl (nI (i + 1)))]) hX d_F_heldBy_39 rfl (nI_add _ _) (by decide) rfl rfl ?_
        refine fm_goto (tgt := 13) hX d_F_heldBy_42 rfl ?_
        first | exact ih (by omega) _ (by rw [hx0]; exact (an_hb_t h27).symm) | exact ih (by omega) _ (by rw [hx0]; exact (an_hb_f h27).symm)
  show fm_G SC Y_F_heldBy X M (fm_rv (an_hb (fun a => (cA M m).2.1 a f) who 27) M) 0 [some (.inr (kF m)), some (.inl who), some (.inl (nI f)), none, none, none] [] M
  refine fm_aload_n hX d_F_heldBy_0 rfl rfl rfl ?_
  refine fm_getr (q := kFh m) hX fF_17 (s_F (by omega)) rfl d_F_heldBy_1 rfl ?_
  refine fm_iload_n hX d_F_heldBy_4 rfl rfl rfl ?_
  refine fm_aald (q := kFr m f) hX (s_Fh (by omega)) (by decide) rfl rfl rfl (by omega) (by decide) (r_Fr (by omega)) d_F_heldBy_5 rfl ?_
  refine fm_astore_n (ls1 := [some (.inr (kF m)), some (.inl who), some (.inl (nI f)), some (.inr (kFr m f)), none, none]) hX d_F_heldBy_6 rfl (by decide) rfl rfl ?_
  refine fm_iconst (v := nI 0) hX d_F_heldBy_7 (by decide) rfl ?_
  refine fm_istore (ls1 := [some (.inr (kF m)), some (.inl who), some (.inl (nI f)), some (.inr (kFr m f)), some (.inl (nI 0)), none]) hX d_F_heldBy_8 (by decide) rfl rfl ?_
  refine fm_iconst (v := nI 0) hX d_F_heldBy_10 (by decide) rfl ?_
  refine fm_istore (ls1 := [some (.inr (kF m)), some (.inl who), some (.inl (nI f)), some (.inr (kFr m f)), some (.inl (nI 0)), some (.inl (nI 0))]) hX d_F_heldBy_11 (by decide) rfl rfl ?_
  exact L13 0 (by omega) _ rfl
abbrev Y_F_reached : fm_Y := ("EscapeMill$Facts", b_F_reached, 5, (some .int), 2)
set_option maxRecDepth 100000 in
set_option maxHeartbeats 4000000 in
theorem k_F_reached {m : Nat} (hm : m < 5) (M : fm_M) (s0 : Int32) : fm_ct SC y_F_reached b_F_reached 5 (some .int) 2 [.inr (kF m), .inl s0] M (fm_rv (an_rc (cA M m).2.1 s0) M) := by
  refine fm_of (ls := [some (.inr (kF m)), some (.inl s0), none, none, none]) (by decide) wsA_good (Nat.le_of_ble_eq_true rfl) rfl (fun X hX => ?_)
  have L4 : ∀ t, t ≤ 27 → ∀ x, an_rcn (cA M m).2.1 (27 - t) x = an_rc (cA M m).2.1 s0 → fm_G SC Y_F_reached X M (fm_rv (an_rc (cA M m).2.1 s0) M) 4 [some (.inr (kF m)), some (.inl s0), some (.inl x), some (.inl (nI t)), none] [] M := by
    refine fm_ind 27 (fun t hle ih => ?_)
    intro x hx0
    refine fm_iload_n hX d_F_reached_4 rfl rfl rfl ?_
    refine fm_bipush (v := nI 27) hX d_F_reached_5 (by decide) rfl ?_
    refine fm_n_ge (tgt := 45) (pq := 10) hX d_F_reached_7 rfl rfl (by omega) (by omega) (fun h7 => ?_) (fun h7 => ?_)
    · show fm_G SC Y_F_reached X M (fm_rv (an_rc (cA M m).2.1 s0) M) 45 [some (.inr (kF m)), some (.inl s0), some (.inl x), some (.inl (nI t)), none] [] M
      refine fm_iload_n hX d_F_reached_45 rfl rfl rfl ?_
      refine fm_iret hX rfl d_F_reached_46 ?_
      first | exact fm_rvi (by rw [← hx0, show 27 - t = 0 by omega]; rfl) | exact fm_rvi (by rw [← hx0, show 27 - t = (27 - (t + 1)) + 1 by omega]; exact (an_rcn_b h30).symm)
    · show fm_G SC Y_F_reached X M (fm_rv (an_rc (cA M m).2.1 s0) M) 10 [some (.inr (kF m)), some (.inl s0), some (.inl x), some (.inl (nI t)), none] [] M
      refine fm_iload_n hX d_F_reached_10 rfl rfl rfl ?_
      refine fm_aload_n hX d_F_reached_11 rfl rfl rfl ?_
      refine fm_iload_n hX d_F_reached_12 rfl rfl rfl ?_
      refine fm_iconst (v := nI 0) hX d_F_reached_13 (by decide) rfl ?_
      refine fm_callV_i (as := [.inl x, .inl (nI 0)]) (st := [.inl x]) (pq := 17) hX (s_F (by omega)) rfl cF_94 rfl im_F_heldBy se_F_heldBy (k_F_heldBy (by omega) M x (f := 0) (by omega)) rfl rfl (Nat.le_of_ble_eq_true rfl) (Nat.le_of_ble_eq_true rfl) d_F_reached_14 rfl ?_
      refine fm_ior (v := x ||| (an_hb (fun a => (cA M m).2.1 a 0) x 27)) hX d_F_reached_17 rfl rfl ?_
      refine fm_aload_n hX d_F_reached_18 rfl rfl rfl ?_
      refine fm_iload_n hX d_F_reached_19 rfl rfl rfl ?_
      refine fm_iconst (v := nI 1) hX d_F_reached_20 (by decide) rfl ?_
      refine fm_callV_i (as := [.inl x, .inl (nI 1)]) (st := [.inl (x ||| (an_hb (fun a => (cA M m).2.1 a 0) x 27))]) (pq := 24) hX (s_F (by omega)) rfl cF_94 rfl im_F_heldBy se_F_heldBy (k_F_heldBy (by omega) M x (f := 1) (by omega)) rfl rfl (Nat.le_of_ble_eq_true rfl) (Nat.le_of_ble_eq_true rfl) d_F_reached_21 rfl ?_
      refine fm_ior (v := (x ||| (an_hb (fun a => (cA M m).2.1 a 0) x 27)) ||| (an_hb (fun a => (cA M m).2.1 a 1) x 27)) hX d_F_reached_24 rfl rfl ?_
      refine fm_istore (ls1 := [some (.inr (kF m)), some (.inl s0), some (.inl x), some (.inl (nI t)), some (.inl ((x ||| (an_hb (fun a => (cA M m).2.1 a 0) x 27)) ||| (an_hb (fun a => (cA M m).2.1 a 1) x 27)))]) hX d_F_reached_25 (by decide) rfl rfl ?_
      refine fm_iload hX d_F_reached_27 rfl rfl ?_
      refine fm_iload_n hX d_F_reached_29 rfl rfl rfl ?_
      refine fm_icmp_ne (tgt := 36) (pq := 33) hX d_F_reached_30 rfl rfl (fun h30 => ?_) (fun h30 => ?_)
      · show fm_G SC Y_F_reached X M (fm_rv (an_rc (cA M m).2.1 s0) M) 36 [some (.inr (kF m)), some (.inl s0), some (.inl x), some (.inl (nI t)), some (.inl ((x ||| (an_hb (fun a => (cA M m).2.1 a 0) x 27)) ||| (an_hb (fun a => (cA M m).2.1 a 1) x 27)))] [] M
        refine fm_iload hX d_F_reached_36 rfl rfl ?_
        refine fm_istore_n (ls1 := [some (.inr (kF m)), some (.inl s0), some (.inl ((x ||| (an_hb (fun a => (cA M m).2.1 a 0) x 27)) ||| (an_hb (fun a => (cA M m).2.1 a 1) x 27))), some (.inl (nI t)), some (.inl ((x ||| (an_hb (fun a => (cA M m).2.1 a 0) x 27)) ||| (an_hb (fun a => (cA M m).2.1 a 1) x 27)))]) hX d_F_reached_38 rfl (by decide) rfl rfl ?_
        refine fm_iinc (v := nI (t + 1)) (ls1 := [some (.inr (kF m)), some (.inl s0), some (.inl ((x ||| (an_hb (fun a => (cA M m).2.1 a 0) x 27)) ||| (an_hb (fun a => (cA M m).2.1 a 1) x 27))), some (.inl (nI (t + 1))), some (.inl ((x ||| (an_hb (fun a => (cA M m).2.1 a 0) x 27)) ||| (an_hb (fun a => (cA M m).2.1 a 1) x 27)))]) hX d_F_reached_39 rfl (nI_add _ _) (by decide) rfl rfl ?_
        refine fm_goto (tgt := 4) hX d_F_reached_42 rfl ?_
        refine fm_drop 4 (ls1 := [some (.inr (kF m)), some (.inl s0), some (.inl ((x ||| (an_hb (fun a => (cA M m).2.1 a 0) x 27)) ||| (an_hb (fun a => (cA M m).2.1 a 1) x 27))), some (.inl (nI (t + 1))), none]) rfl ?_
        exact ih (by omega) _ (by rw [← hx0, show 27 - t = (27 - (t + 1)) + 1 by omega]; exact (an_rcn_n h30).symm)
      · show fm_G SC Y_F_reached X M (fm_rv (an_rc (cA M m).2.1 s0) M) 33 [some (.inr (kF m)), some (.inl s0), some (.inl x), some (.inl (nI t)), some (.inl ((x ||| (an_hb (fun a => (cA M m).2.1 a 0) x 27)) ||| (an_hb (fun a => (cA M m).2.1 a 1) x 27)))] [] M
        refine fm_goto (tgt := 45) hX d_F_reached_33 rfl ?_
        refine fm_iload_n hX d_F_reached_45 rfl rfl rfl ?_
        refine fm_iret hX rfl d_F_reached_46 ?_
        first | exact fm_rvi (by rw [← hx0, show 27 - t = 0 by omega]; rfl) | exact fm_rvi (by rw [← hx0, show 27 - t = (27 - (t + 1)) + 1 by omega]; exact (an_rcn_b h30).symm)
  show fm_G SC Y_F_reached X M (fm_rv (an_rc (cA M m).2.1 s0) M) 0 [some (.inr (kF m)), some (.inl s0), none, none, none] [] M
  refine fm_iload_n hX d_F_reached_0 rfl rfl rfl ?_
  refine fm_istore_n (ls1 := [some (.inr (kF m)), some (.inl s0), some (.inl s0), none, none]) hX d_F_reached_1 rfl (by decide) rfl rfl ?_
  refine fm_iconst (v := nI 0) hX d_F_reached_2 (by decide) rfl ?_
  refine fm_istore_n (ls1 := [some (.inr (kF m)), some (.inl s0), some (.inl s0), some (.inl (nI 0)), none]) hX d_F_reached_3 rfl (by decide) rfl rfl ?_
  exact L4 0 (by omega) _ rfl
abbrev Y_F_escapeOf : fm_Y := ("EscapeMill$Facts", b_F_escapeOf, 2, (some .int), 1)
set_option maxRecDepth 100000 in
set_option maxHeartbeats 4000000 in
theorem k_F_escapeOf {m : Nat} (hm : m < 5) (M : fm_M) {i : Nat} (hi : i < 32) : fm_ct SC y_F_escapeOf b_F_escapeOf 2 (some .int) 1 [.inr (kF m), .inl (nI i)] M (fm_rv (if bt (M (kF m) 5) i = true then 2 else if bt (M (kF m) 6) i = true then 1 else 0) M) := by
  refine fm_of (ls := [some (.inr (kF m)), some (.inl (nI i))]) (by decide) wsA_good (Nat.le_of_ble_eq_true rfl) rfl (fun X hX => ?_)
  show fm_G SC Y_F_escapeOf X M (fm_rv (if bt (M (kF m) 5) i = true then 2 else if bt (M (kF m) 6) i = true then 1 else 0) M) 0 [some (.inr (kF m)), some (.inl (nI i))] [] M
  refine fm_aload_n hX d_F_escapeOf_0 rfl rfl rfl ?_
  refine fm_geti (v := M (kF m) 5) hX fF_31 (s_F (by omega)) rfl rfl d_F_escapeOf_1 rfl ?_
  refine fm_iload_n hX d_F_escapeOf_4 rfl rfl rfl ?_
  refine fm_ishr (v := (M (kF m) 5) >>> (nI i &&& 31)) hX d_F_escapeOf_5 rfl rfl ?_
  refine fm_iconst (v := nI 1) hX d_F_escapeOf_6 (by decide) rfl ?_
  refine fm_iand (v := bI (bt (M (kF m) 5) i)) hX d_F_escapeOf_7 (fm_bit _ (by omega)) rfl ?_
  refine fm_iconst (v := nI 1) hX d_F_escapeOf_8 (by decide) rfl ?_
  refine fm_b2_ne1 (tgt := 14) (pq := 12) hX d_F_escapeOf_9 rfl rfl (fun h9 => ?_) (fun h9 => ?_)
  · show fm_G SC Y_F_escapeOf X M (fm_rv (if bt (M (kF m) 5) i = true then 2 else if bt (M (kF m) 6) i = true then 1 else 0) M) 14 [some (.inr (kF m)), some (.inl (nI i))] [] M
    refine fm_aload_n hX d_F_escapeOf_14 rfl rfl rfl ?_
    refine fm_geti (v := M (kF m) 6) hX fF_34 (s_F (by omega)) rfl rfl d_F_escapeOf_15 rfl ?_
    refine fm_iload_n hX d_F_escapeOf_18 rfl rfl rfl ?_
    refine fm_ishr (v := (M (kF m) 6) >>> (nI i &&& 31)) hX d_F_escapeOf_19 rfl rfl ?_
    refine fm_iconst (v := nI 1) hX d_F_escapeOf_20 (by decide) rfl ?_
    refine fm_iand (v := bI (bt (M (kF m) 6) i)) hX d_F_escapeOf_21 (fm_bit _ (by omega)) rfl ?_
    refine fm_iconst (v := nI 1) hX d_F_escapeOf_22 (by decide) rfl ?_
    refine fm_b2_ne1 (tgt := 30) (pq := 26) hX d_F_escapeOf_23 rfl rfl (fun h23 => ?_) (fun h23 => ?_)
    · show fm_G SC Y_F_escapeOf X M (fm_rv (if bt (M (kF m) 5) i = true then 2 else if bt (M (kF m) 6) i = true then 1 else 0) M) 30 [some (.inr (kF m)), some (.inl (nI i))] [] M
      refine fm_iconst (v := nI 0) hX d_F_escapeOf_30 (by decide) rfl ?_
      refine fm_iret hX rfl d_F_escapeOf_31 ?_
      first | exact fm_rvi (by rw [if_pos h9]; rfl) | exact fm_rvi (by rw [if_neg (by rw [h9]; decide), if_pos h23]; rfl) | exact fm_rvi (by rw [if_neg (by rw [h9]; decide), if_neg (by rw [h23]; decide)]; rfl)
    · show fm_G SC Y_F_escapeOf X M (fm_rv (if bt (M (kF m) 5) i = true then 2 else if bt (M (kF m) 6) i = true then 1 else 0) M) 26 [some (.inr (kF m)), some (.inl (nI i))] [] M
      refine fm_iconst (v := nI 1) hX d_F_escapeOf_26 (by decide) rfl ?_
      refine fm_goto (tgt := 31) hX d_F_escapeOf_27 rfl ?_
      refine fm_iret hX rfl d_F_escapeOf_31 ?_
      first | exact fm_rvi (by rw [if_pos h9]; rfl) | exact fm_rvi (by rw [if_neg (by rw [h9]; decide), if_pos h23]; rfl) | exact fm_rvi (by rw [if_neg (by rw [h9]; decide), if_neg (by rw [h23]; decide)]; rfl)
  · show fm_G SC Y_F_escapeOf X M (fm_rv (if bt (M (kF m) 5) i = true then 2 else if bt (M (kF m) 6) i = true then 1 else 0) M) 12 [some (.inr (kF m)), some (.inl (nI i))] [] M
    refine fm_iconst (v := nI 2) hX d_F_escapeOf_12 (by decide) rfl ?_
    refine fm_iret hX rfl d_F_escapeOf_13 ?_
    first | exact fm_rvi (by rw [if_pos h9]; rfl) | exact fm_rvi (by rw [if_neg (by rw [h9]; decide), if_pos h23]; rfl) | exact fm_rvi (by rw [if_neg (by rw [h9]; decide), if_neg (by rw [h23]; decide)]; rfl)
abbrev Y_F_apply : fm_Y := ("EscapeMill$Facts", b_F_apply, 6, none, 4)
set_option maxRecDepth 100000 in
set_option maxHeartbeats 4000000 in
theorem k_F_apply {P : pr_T} {m : Nat} (hm : m < 5) (M : fm_M) (hP : cP M P) (hw : pr_wf P) {i : Nat} (hi : i < P.1 m) (ho : (P.2.2 m i).1 ≠ 16) (cl : Nat → Nat → Nat → Nat → an_T → an_T) : fm_ct SC y_F_apply b_F_apply 6 none 4 [.inr (kF m), .inr (kC m), .inl (nI i)] M (fm_vr (fun M' => cS m M M' (an_st cl i (P.2.2 m i) (cA M m)))) := by
  refine fm_of (ls := [some (.inr (kF m)), some (.inr (kC m)), some (.inl (nI i)), none, none, none]) (by decide) wsA_good (Nat.le_of_ble_eq_true rfl) rfl (fun X hX => ?_)
  obtain ⟨wl, wi, wI⟩ := hw m hm
  obtain ⟨w1, w2, w3, w4, w5, w6⟩ := wI i hi
  show fm_G SC Y_F_apply X M (fm_vr (fun M' => cS m M M' (an_st cl i (P.2.2 m i) (cA M m)))) 0 [some (.inr (kF m)), some (.inr (kC m)), some (.inl (nI i)), none, none, none] [] M
  refine fm_aload_n hX d_F_apply_0 rfl rfl rfl ?_
  refine fm_getr (q := kCa m 1) hX fF_85 (s_C (by omega)) rfl d_F_apply_1 rfl ?_
  refine fm_iload_n hX d_F_apply_4 rfl rfl rfl ?_
  refine fm_iald (v := nI ((P.2.2 m i).2.1)) hX (s_Ca1 (by omega)) rfl rfl (by omega) (by decide) ((hP m (by omega)).2.2 i (by omega)).2.1 d_F_apply_5 rfl ?_
  refine fm_istore_n (ls1 := [some (.inr (kF m)), some (.inr (kC m)), some (.inl (nI i)), some (.inl (nI ((P.2.2 m i).2.1))), none, none]) hX d_F_apply_6 rfl (by decide) rfl rfl ?_
  refine fm_aload_n hX d_F_apply_7 rfl rfl rfl ?_
  refine fm_getr (q := kCa m 2) hX fF_88 (s_C (by omega)) rfl d_F_apply_8 rfl ?_
  refine fm_iload_n hX d_F_apply_11 rfl rfl rfl ?_
  refine fm_iald (v := nI ((P.2.2 m i).2.2.1)) hX (s_Ca2 (by omega)) rfl rfl (by omega) (by decide) ((hP m (by omega)).2.2 i (by omega)).2.2.1 d_F_apply_12 rfl ?_
  refine fm_istore (ls1 := [some (.inr (kF m)), some (.inr (kC m)), some (.inl (nI i)), some (.inl (nI ((P.2.2 m i).2.1))), some (.inl (nI ((P.2.2 m i).2.2.1))), none]) hX d_F_apply_13 (by decide) rfl rfl ?_
  refine fm_aload_n hX d_F_apply_15 rfl rfl rfl ?_
  refine fm_getr (q := kCa m 3) hX fF_91 (s_C (by omega)) rfl d_F_apply_16 rfl ?_
  refine fm_iload_n hX d_F_apply_19 rfl rfl rfl ?_
  refine fm_iald (v := nI ((P.2.2 m i).2.2.2.1)) hX (s_Ca3 (by omega)) rfl rfl (by omega) (by decide) ((hP m (by omega)).2.2 i (by omega)).2.2.2.1 d_F_apply_20 rfl ?_
  refine fm_istore (ls1 := [some (.inr (kF m)), some (.inr (kC m)), some (.inl (nI i)), some (.inl (nI ((P.2.2 m i).2.1))), some (.inl (nI ((P.2.2 m i).2.2.1))), some (.inl (nI ((P.2.2 m i).2.2.2.1)))]) hX d_F_apply_21 (by decide) rfl rfl ?_
  refine fm_aload_n hX d_F_apply_23 rfl rfl rfl ?_
  refine fm_getr (q := kCa m 0) hX fF_56 (s_C (by omega)) rfl d_F_apply_24 rfl ?_
  refine fm_iload_n hX d_F_apply_27 rfl rfl rfl ?_
  refine fm_iald (v := nI ((P.2.2 m i).1)) hX (s_Ca0 (by omega)) rfl rfl (by omega) (by decide) ((hP m (by omega)).2.2 i (by omega)).1 d_F_apply_28 rfl ?_
  rcases (by omega : ((P.2.2 m i).1 = 0) ∨ ((P.2.2 m i).1 = 1) ∨ ((P.2.2 m i).1 = 2 ∨ (P.2.2 m i).1 = 5 ∨ (P.2.2 m i).1 = 6 ∨ (P.2.2 m i).1 = 7 ∨ (P.2.2 m i).1 = 8 ∨ (P.2.2 m i).1 = 9 ∨ (P.2.2 m i).1 = 10 ∨ (P.2.2 m i).1 = 11 ∨ (P.2.2 m i).1 = 14 ∨ (P.2.2 m i).1 = 15 ∨ (P.2.2 m i).1 = 16 ∨ (P.2.2 m i).1 = 18) ∨ ((P.2.2 m i).1 = 3) ∨ ((P.2.2 m i).1 = 4) ∨ ((P.2.2 m i).1 = 12) ∨ ((P.2.2 m i).1 = 13) ∨ ((P.2.2 m i).1 = 17)) with h29 | h29 | h29 | h29 | h29 | h29 | h29 | h29
  · refine fm_table (tgt := 116) (off := 87) hX d_F_apply_29 (by decide) (by rw [h29]; decide) (by decide) ?_
    refine fm_aload_n hX d_F_apply_116 rfl rfl rfl ?_
    refine fm_iload_n hX d_F_apply_117 rfl rfl rfl ?_
    refine fm_iconst (v := nI 1) hX d_F_apply_118 (by decide) rfl ?_
    refine fm_iload_n hX d_F_apply_119 rfl rfl rfl ?_
    refine fm_ishl (v := an_1 i) hX d_F_apply_120 rfl rfl ?_
    refine fm_callV_r (as := [.inl (nI ((P.2.2 m i).2.1)), .inl (an_1 i)]) (st := []) (pq := 124) hX (s_F (by omega)) rfl cF_77 rfl im_F_refer se_F_refer (k_F_refer (by omega) M (r := (P.2.2 m i).2.1) (by omega) (an_1 i)) rfl rfl (Nat.le_of_ble_eq_true rfl) (Nat.le_of_ble_eq_true rfl) d_F_apply_121 rfl (fun M121 c121 => ?_)
    have hP121 := cS_P hm c121 hP
    refine fm_goto (tgt := 235) hX d_F_apply_124 rfl ?_
    refine fm_vret hX rfl d_F_apply_235 ?_
    exact ⟨rfl, cS_eq c121 (by simp [an_st, h29])⟩
  · refine fm_table (tgt := 127) (off := 98) hX d_F_apply_29 (by decide) (by rw [h29]; decide) (by decide) ?_
    refine fm_aload_n hX d_F_apply_127 rfl rfl rfl ?_
    refine fm_iload_n hX d_F_apply_128 rfl rfl rfl ?_
    refine fm_aload_n hX d_F_apply_129 rfl rfl rfl ?_
    refine fm_getr (q := kFm m) hX fF_9 (s_F (by omega)) rfl d_F_apply_130 rfl ?_
    refine fm_iload hX d_F_apply_133 rfl rfl ?_
    refine fm_iald (v := (cA M m).1 ((P.2.2 m i).2.2.1)) hX (s_Fm (by omega)) rfl rfl (by omega) (by decide) (cA_m (by omega)).symm d_F_apply_135 rfl ?_
    refine fm_callV_r (as := [.inl (nI ((P.2.2 m i).2.1)), .inl ((cA M m).1 ((P.2.2 m i).2.2.1))]) (st := []) (pq := 139) hX (s_F (by omega)) rfl cF_77 rfl im_F_refer se_F_refer (k_F_refer (by omega) M (r := (P.2.2 m i).2.1) (by omega) ((cA M m).1 ((P.2.2 m i).2.2.1))) rfl rfl (Nat.le_of_ble_eq_true rfl) (Nat.le_of_ble_eq_true rfl) d_F_apply_136 rfl (fun M136 c136 => ?_)
    have hP136 := cS_P hm c136 hP
    refine fm_goto (tgt := 235) hX d_F_apply_139 rfl ?_
    refine fm_vret hX rfl d_F_apply_235 ?_
    exact ⟨rfl, cS_eq c136 (by simp [an_st, h29])⟩
  · refine fm_table (tgt := 235) (off := 206) hX d_F_apply_29 (by decide) (by rcases h29 with e | e | e | e | e | e | e | e | e | e | e | e <;> rw [e] <;> decide) (by decide) ?_
    refine fm_vret hX rfl d_F_apply_235 ?_
    exact ⟨rfl, cS_eq (cS_rf m M) (by rcases h29 with e | e | e | e | e | e | e | e | e | e | e | e <;> first | exact absurd e ho | simp [an_st, e])⟩
  · refine fm_table (tgt := 142) (off := 113) hX d_F_apply_29 (by decide) (by rw [h29]; decide) (by decide) ?_
    refine fm_aload_n hX d_F_apply_142 rfl rfl rfl ?_
    refine fm_iload_n hX d_F_apply_143 rfl rfl rfl ?_
    refine fm_aload_n hX d_F_apply_144 rfl rfl rfl ?_
    refine fm_aload_n hX d_F_apply_145 rfl rfl rfl ?_
    refine fm_getr (q := kFm m) hX fF_9 (s_F (by omega)) rfl d_F_apply_146 rfl ?_
    refine fm_iload hX d_F_apply_149 rfl rfl ?_
    refine fm_iald (v := (cA M m).1 ((P.2.2 m i).2.2.1)) hX (s_Fm (by omega)) rfl rfl (by omega) (by decide) (cA_m (by omega)).symm d_F_apply_151 rfl ?_
    refine fm_iload hX d_F_apply_152 rfl rfl ?_
    refine fm_callV_i (as := [.inl ((cA M m).1 ((P.2.2 m i).2.2.1)), .inl (nI ((P.2.2 m i).2.2.2.1))]) (st := [.inl (nI ((P.2.2 m i).2.1)), .inr (kF m)]) (pq := 157) hX (s_F (by omega)) rfl cF_94 rfl im_F_heldBy se_F_heldBy (k_F_heldBy (by omega) M ((cA M m).1 ((P.2.2 m i).2.2.1)) (f := (P.2.2 m i).2.2.2.1) (by omega)) rfl rfl (Nat.le_of_ble_eq_true rfl) (Nat.le_of_ble_eq_true rfl) d_F_apply_154 rfl ?_
    refine fm_callV_r (as := [.inl (nI ((P.2.2 m i).2.1)), .inl (an_hb (fun a => (cA M m).2.1 a ((P.2.2 m i).2.2.2.1)) ((cA M m).1 ((P.2.2 m i).2.2.1)) 27)]) (st := []) (pq := 160) hX (s_F (by omega)) rfl cF_77 rfl im_F_refer se_F_refer (k_F_refer (by omega) M (r := (P.2.2 m i).2.1) (by omega) (an_hb (fun a => (cA M m).2.1 a ((P.2.2 m i).2.2.2.1)) ((cA M m).1 ((P.2.2 m i).2.2.1)) 27)) rfl rfl (Nat.le_of_ble_eq_true rfl) (Nat.le_of_ble_eq_true rfl) d_F_apply_157 rfl (fun M157 c157 => ?_)
    have hP157 := cS_P hm c157 hP
    refine fm_goto (tgt := 235) hX d_F_apply_160 rfl ?_
    refine fm_vret hX rfl d_F_apply_235 ?_
    exact ⟨rfl, cS_eq c157 (by simp [an_st, h29])⟩
  · refine fm_table (tgt := 163) (off := 134) hX d_F_apply_29 (by decide) (by rw [h29]; decide) (by decide) ?_
    refine fm_aload_n hX d_F_apply_163 rfl rfl rfl ?_
    refine fm_aload_n hX d_F_apply_164 rfl rfl rfl ?_
    refine fm_getr (q := kFm m) hX fF_9 (s_F (by omega)) rfl d_F_apply_165 rfl ?_
    refine fm_iload_n hX d_F_apply_168 rfl rfl rfl ?_
    refine fm_iald (v := (cA M m).1 ((P.2.2 m i).2.1)) hX (s_Fm (by omega)) rfl rfl (by omega) (by decide) (cA_m (by omega)).symm d_F_apply_169 rfl ?_
    refine fm_iload hX d_F_apply_170 rfl rfl ?_
    refine fm_aload_n hX d_F_apply_172 rfl rfl rfl ?_
    refine fm_getr (q := kFm m) hX fF_9 (s_F (by omega)) rfl d_F_apply_173 rfl ?_
    refine fm_iload hX d_F_apply_176 rfl rfl ?_
    refine fm_iald (v := (cA M m).1 ((P.2.2 m i).2.2.1)) hX (s_Fm (by omega)) rfl rfl (by omega) (by decide) (cA_m (by omega)).symm d_F_apply_178 rfl ?_
    refine fm_callV_r (as := [.inl ((cA M m).1 ((P.2.2 m i).2.1)), .inl (nI ((P.2.2 m i).2.2.2.1)), .inl ((cA M m).1 ((P.2.2 m i).2.2.1))]) (st := []) (pq := 182) hX (s_F (by omega)) rfl cF_98 rfl im_F_hold se_F_hold (k_F_hold (by omega) M ((cA M m).1 ((P.2.2 m i).2.1)) (f := (P.2.2 m i).2.2.2.1) (by omega) ((cA M m).1 ((P.2.2 m i).2.2.1))) rfl rfl (Nat.le_of_ble_eq_true rfl) (Nat.le_of_ble_eq_true rfl) d_F_apply_179 rfl (fun M179 c179 => ?_)
    have hP179 := cS_P hm c179 hP
    refine fm_goto (tgt := 235) hX d_F_apply_182 rfl ?_
    refine fm_vret hX rfl d_F_apply_235 ?_
    exact ⟨rfl, cS_eq c179 (by simp [an_st, h29])⟩
  · refine fm_table (tgt := 185) (off := 156) hX d_F_apply_29 (by decide) (by rw [h29]; decide) (by decide) ?_
    refine fm_aload_n hX d_F_apply_185 rfl rfl rfl ?_
    refine fm_ldc (v := an_W) hX d_F_apply_186 kF_84 rfl ?_
    refine fm_aload_n hX d_F_apply_188 rfl rfl rfl ?_
    refine fm_getr (q := kFm m) hX fF_9 (s_F (by omega)) rfl d_F_apply_189 rfl ?_
    refine fm_iload_n hX d_F_apply_192 rfl rfl rfl ?_
    refine fm_iald (v := (cA M m).1 ((P.2.2 m i).2.1)) hX (s_Fm (by omega)) rfl rfl (by omega) (by decide) (cA_m (by omega)).symm d_F_apply_193 rfl ?_
    refine fm_callV_r (as := [.inl an_W, .inl ((cA M m).1 ((P.2.2 m i).2.1))]) (st := []) (pq := 197) hX (s_F (by omega)) rfl cF_81 rfl im_F_holdInBoth se_F_holdInBoth (k_F_holdInBoth (by omega) M an_W ((cA M m).1 ((P.2.2 m i).2.1))) rfl rfl (Nat.le_of_ble_eq_true rfl) (Nat.le_of_ble_eq_true rfl) d_F_apply_194 rfl (fun M194 c194 => ?_)
    have hP194 := cS_P hm c194 hP
    refine fm_goto (tgt := 235) hX d_F_apply_197 rfl ?_
    refine fm_vret hX rfl d_F_apply_235 ?_
    exact ⟨rfl, cS_eq c194 (by simp [an_st, h29])⟩
  · refine fm_table (tgt := 200) (off := 171) hX d_F_apply_29 (by decide) (by rw [h29]; decide) (by decide) ?_
    refine fm_aload_n hX d_F_apply_200 rfl rfl rfl ?_
    refine fm_iload_n hX d_F_apply_201 rfl rfl rfl ?_
    refine fm_aload_n hX d_F_apply_202 rfl rfl rfl ?_
    refine fm_getr (q := kFh m) hX fF_17 (s_F (by omega)) rfl d_F_apply_203 rfl ?_
    refine fm_iconst (v := nI 0) hX d_F_apply_206 (by decide) rfl ?_
    refine fm_aald (q := kFr m 0) hX (s_Fh (by omega)) (by decide) rfl rfl rfl (by omega) (by decide) (r_Fr (by omega)) d_F_apply_207 rfl ?_
    refine fm_bipush (v := nI 26) hX d_F_apply_208 (by decide) rfl ?_
    refine fm_iald (v := (cA M m).2.1 26 0) hX (s_Fr (by omega) (by omega)) rfl rfl (by omega) (by decide) (cA_h (by omega) (by omega)).symm d_F_apply_210 rfl ?_
    refine fm_callV_r (as := [.inl (nI ((P.2.2 m i).2.1)), .inl ((cA M m).2.1 26 0)]) (st := []) (pq := 214) hX (s_F (by omega)) rfl cF_77 rfl im_F_refer se_F_refer (k_F_refer (by omega) M (r := (P.2.2 m i).2.1) (by omega) ((cA M m).2.1 26 0)) rfl rfl (Nat.le_of_ble_eq_true rfl) (Nat.le_of_ble_eq_true rfl) d_F_apply_211 rfl (fun M211 c211 => ?_)
    have hP211 := cS_P hm c211 hP
    refine fm_goto (tgt := 235) hX d_F_apply_214 rfl ?_
    refine fm_vret hX rfl d_F_apply_235 ?_
    exact ⟨rfl, cS_eq c211 (by simp [an_st, h29])⟩
  · refine fm_table (tgt := 217) (off := 188) hX d_F_apply_29 (by decide) (by rw [h29]; decide) (by decide) ?_
    refine fm_aload_n hX d_F_apply_217 rfl rfl rfl ?_
    refine fm_dup hX d_F_apply_218 rfl ?_
    refine fm_geti (v := (cA M m).2.2) hX fF_27 (s_F (by omega)) rfl rfl d_F_apply_219 rfl ?_
    refine fm_aload_n hX d_F_apply_222 rfl rfl rfl ?_
    refine fm_getr (q := kFm m) hX fF_9 (s_F (by omega)) rfl d_F_apply_223 rfl ?_
    refine fm_iload_n hX d_F_apply_226 rfl rfl rfl ?_
    refine fm_iald (v := (cA M m).1 ((P.2.2 m i).2.1)) hX (s_Fm (by omega)) rfl rfl (by omega) (by decide) (cA_m (by omega)).symm d_F_apply_227 rfl ?_
    refine fm_ior (v := ((cA M m).2.2) ||| ((cA M m).1 ((P.2.2 m i).2.1))) hX d_F_apply_228 rfl rfl ?_
    refine fm_puti hX fF_27 pF_4 (s_F (by omega)) rfl rfl rfl d_F_apply_229 rfl ?_
    refine fm_goto (tgt := 235) hX d_F_apply_232 rfl ?_
    refine fm_vret hX rfl d_F_apply_235 ?_
    exact ⟨rfl, cS_eq cS_g (by simp [an_st, h29])⟩
