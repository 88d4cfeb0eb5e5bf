/-! Facts: begin, forget, applyCall (written by program) -/
abbrev Y_F_begin : fm_Y := ("EscapeMill$Facts", b_F_begin, 3, none, 3)
set_option maxRecDepth 100000 in
set_option maxHeartbeats 4000000 in
theorem k_F_begin {m : Nat} (hm : m < 5) (M : fm_M) (hz : cA M m = an_z) {k : Nat} (hk : k ≤ 2) : fm_ct SC y_F_begin b_F_begin 3 none 3 [.inr (kF m), .inl (nI k)] M (fm_vr (fun M' => cS m M M' (an_s0 k))) := by
  refine fm_of (ls := [some (.inr (kF m)), some (.inl (nI k)), none]) (by decide) wsA_good (Nat.le_of_ble_eq_true rfl) rfl (fun X hX => ?_)
  have L2 : ∀ p, p ≤ k → ∀ M1, cS m M M1 (an_s1 p) → fm_G SC Y_F_begin X M (fm_vr (fun M' => cS m M M' (an_s0 k))) 2 [some (.inr (kF m)), some (.inl (nI k)), some (.inl (nI p))] [] M1 := by
    refine fm_ind k (fun p hle ih => ?_)
    intro M1 hc
    refine fm_iload_n hX d_F_begin_2 rfl rfl rfl ?_
    refine fm_iload_n hX d_F_begin_3 rfl rfl rfl ?_
    refine fm_n_ge (tgt := 34) (pq := 7) hX d_F_begin_4 rfl rfl (by omega) (by omega) (fun h4 => ?_) (fun h4 => ?_)
    · show fm_G SC Y_F_begin X M (fm_vr (fun M' => cS m M M' (an_s0 k))) 34 [some (.inr (kF m)), some (.inl (nI k)), some (.inl (nI p))] [] M1
      refine fm_aload_n hX d_F_begin_34 rfl rfl rfl ?_
      refine fm_ldc (v := an_W) hX d_F_begin_35 kF_84 rfl ?_
      refine fm_ldc (v := an_W) hX d_F_begin_37 kF_84 rfl ?_
      refine fm_callV_r (as := [.inl an_W, .inl an_W]) (st := []) (pq := 42) hX (s_F (by omega)) rfl cF_81 rfl im_F_holdInBoth se_F_holdInBoth (k_F_holdInBoth (by omega) M1 an_W an_W) rfl rfl (Nat.le_of_ble_eq_true rfl) (Nat.le_of_ble_eq_true rfl) d_F_begin_39 rfl (fun M39 c39 => ?_)
      refine fm_vret hX rfl d_F_begin_42 ?_
      exact ⟨rfl, cS_eq (cS_tr hc c39) (by rw [hc.1, show p = k by omega]; exact an_s1_W (by omega))⟩
    · show fm_G SC Y_F_begin X M (fm_vr (fun M' => cS m M M' (an_s0 k))) 7 [some (.inr (kF m)), some (.inl (nI k)), some (.inl (nI p))] [] M1
      refine fm_aload_n hX d_F_begin_7 rfl rfl rfl ?_
      refine fm_iload_n hX d_F_begin_8 rfl rfl rfl ?_
      refine fm_ldc (v := 16777216) hX d_F_begin_9 kF_76 rfl ?_
      refine fm_iload_n hX d_F_begin_11 rfl rfl rfl ?_
      refine fm_ishl (v := an_1 (24 + p)) hX d_F_begin_12 (fm_arg (by omega)) rfl ?_
      refine fm_callV_r (as := [.inl (nI p), .inl (an_1 (24 + p))]) (st := []) (pq := 16) hX (s_F (by omega)) rfl cF_77 rfl im_F_refer se_F_refer (k_F_refer (by omega) M1 (r := p) (by omega) (an_1 (24 + p))) rfl rfl (Nat.le_of_ble_eq_true rfl) (Nat.le_of_ble_eq_true rfl) d_F_begin_13 rfl (fun M13 c13 => ?_)
      refine fm_aload_n hX d_F_begin_16 rfl rfl rfl ?_
      refine fm_ldc (v := 16777216) hX d_F_begin_17 kF_76 rfl ?_
      refine fm_iload_n hX d_F_begin_19 rfl rfl rfl ?_
      refine fm_ishl (v := an_1 (24 + p)) hX d_F_begin_20 (fm_arg (by omega)) rfl ?_
      refine fm_ldc (v := 16777216) hX d_F_begin_21 kF_76 rfl ?_
      refine fm_iload_n hX d_F_begin_23 rfl rfl rfl ?_
      refine fm_ishl (v := an_1 (24 + p)) hX d_F_begin_24 (fm_arg (by omega)) rfl ?_
      refine fm_callV_r (as := [.inl (an_1 (24 + p)), .inl (an_1 (24 + p))]) (st := []) (pq := 28) hX (s_F (by omega)) rfl cF_81 rfl im_F_holdInBoth se_F_holdInBoth (k_F_holdInBoth (by omega) M13 (an_1 (24 + p)) (an_1 (24 + p))) rfl rfl (Nat.le_of_ble_eq_true rfl) (Nat.le_of_ble_eq_true rfl) d_F_begin_25 rfl (fun M25 c25 => ?_)
      refine fm_iinc (v := nI (p + 1)) (ls1 := [some (.inr (kF m)), some (.inl (nI k)), some (.inl (nI (p + 1)))]) hX d_F_begin_28 rfl (nI_add _ _) (by decide) rfl rfl ?_
      refine fm_goto (tgt := 2) hX d_F_begin_31 rfl ?_
      exact ih (by omega) _ (cS_eq (cS_tr hc (cS_tr c13 c25)) (by rw [c13.1, hc.1]; exact an_s1_s (by omega)))
  show fm_G SC Y_F_begin X M (fm_vr (fun M' => cS m M M' (an_s0 k))) 0 [some (.inr (kF m)), some (.inl (nI k)), none] [] M
  refine fm_iconst (v := nI 0) hX d_F_begin_0 (by decide) rfl ?_
  refine fm_istore_n (ls1 := [some (.inr (kF m)), some (.inl (nI k)), some (.inl (nI 0))]) hX d_F_begin_1 rfl (by decide) rfl rfl ?_
  exact L2 0 (by omega) M (cS_eq (cS_rf m M) (by rw [hz, an_s1_0]))
abbrev Y_F_forget : fm_Y := ("EscapeMill$Facts", b_F_forget, 2, none, 2)
set_option maxRecDepth 100000 in
set_option maxHeartbeats 4000000 in
theorem k_F_forget {m : Nat} (hm : m < 5) (M : fm_M) : fm_ct SC y_F_forget b_F_forget 2 none 2 [.inr (kF m)] M (fm_vv (cZ M m)) := by
  refine fm_of (ls := [some (.inr (kF m)), none]) (by decide) wsA_good (Nat.le_of_ble_eq_true rfl) rfl (fun X hX => ?_)
  have L38 : ∀ i, i ≤ 2 → fm_G SC Y_F_forget X M (fm_vv (cZ M m)) 38 [some (.inr (kF m)), some (.inl (nI i))] [] (fm_fill (fm_fill (fm_fill (fm_fill (fm_fill M (kFm m) 4 (nI 0)) (kFr m 0) 27 (nI 0)) (kFr m 1) 27 (nI 0)) (kFs m) 2 (nI 0)) (kFx m) i (nI 0)) := by
    refine fm_ind 2 (fun i hle ih => ?_)
    refine fm_iload_n hX d_F_forget_38 rfl rfl rfl ?_
    refine fm_iconst (v := nI 2) hX d_F_forget_39 (by decide) rfl ?_
    refine fm_n_ge (tgt := 56) (pq := 43) hX d_F_forget_40 rfl rfl (by omega) (by omega) (fun h40 => ?_) (fun h40 => ?_)
    · show fm_G SC Y_F_forget X M (fm_vv (cZ M m)) 56 [some (.inr (kF m)), some (.inl (nI i))] [] (fm_fill (fm_fill (fm_fill (fm_fill (fm_fill M (kFm m) 4 (nI 0)) (kFr m 0) 27 (nI 0)) (kFr m 1) 27 (nI 0)) (kFs m) 2 (nI 0)) (kFx m) i (nI 0))
      refine fm_aload_n hX d_F_forget_56 rfl rfl rfl ?_
      refine fm_iconst (v := nI 0) hX d_F_forget_57 (by decide) rfl ?_
      refine fm_puti hX fF_27 pF_4 (s_F (by omega)) rfl rfl rfl d_F_forget_58 rfl ?_
      refine fm_aload_n hX d_F_forget_61 rfl rfl rfl ?_
      refine fm_iconst (v := nI 0) hX d_F_forget_62 (by decide) rfl ?_
      refine fm_puti hX fF_31 pF_5 (s_F (by omega)) rfl rfl rfl d_F_forget_63 rfl ?_
      refine fm_aload_n hX d_F_forget_66 rfl rfl rfl ?_
      refine fm_iconst (v := nI 0) hX d_F_forget_67 (by decide) rfl ?_
      refine fm_puti hX fF_34 pF_6 (s_F (by omega)) rfl rfl rfl d_F_forget_68 rfl ?_
      refine fm_vret hX rfl d_F_forget_71 ?_
      exact ⟨rfl, by rw [show i = 2 by omega]; rfl⟩
    · show fm_G SC Y_F_forget X M (fm_vv (cZ M m)) 43 [some (.inr (kF m)), some (.inl (nI i))] [] (fm_fill (fm_fill (fm_fill (fm_fill (fm_fill M (kFm m) 4 (nI 0)) (kFr m 0) 27 (nI 0)) (kFr m 1) 27 (nI 0)) (kFs m) 2 (nI 0)) (kFx m) i (nI 0))
      refine fm_aload_n hX d_F_forget_43 rfl rfl rfl ?_
      refine fm_getr (q := kFx m) hX fF_23 (s_F (by omega)) rfl d_F_forget_44 rfl ?_
      refine fm_iload_n hX d_F_forget_47 rfl rfl rfl ?_
      refine fm_iconst (v := nI 0) hX d_F_forget_48 (by decide) rfl ?_
      refine fm_zast hX (s_Fx (by omega)) rfl rfl (by omega) (by decide) (by decide) d_F_forget_49 rfl ?_
      refine fm_mem (M' := fm_fill (fm_fill (fm_fill (fm_fill (fm_fill M (kFm m) 4 (nI 0)) (kFr m 0) 27 (nI 0)) (kFr m 1) 27 (nI 0)) (kFs m) 2 (nI 0)) (kFx m) (i + 1) (nI 0)) (fm_fill_s _ _ _ _) ?_
      refine fm_iinc (v := nI (i + 1)) (ls1 := [some (.inr (kF m)), some (.inl (nI (i + 1)))]) hX d_F_forget_50 rfl (nI_add _ _) (by decide) rfl rfl ?_
      refine fm_goto (tgt := 38) hX d_F_forget_53 rfl ?_
      exact ih (by omega)
  show fm_G SC Y_F_forget X M (fm_vv (cZ M m)) 0 [some (.inr (kF m)), none] [] M
  refine fm_aload_n hX d_F_forget_0 rfl rfl rfl ?_
  refine fm_getr (q := kFm m) hX fF_9 (s_F (by omega)) rfl d_F_forget_1 rfl ?_
  refine fm_iconst (v := nI 0) hX d_F_forget_4 (by decide) rfl ?_
  refine fm_callS_v (as := [.inr (kFm m), .inl (nI 0)]) (st := []) (pq := 8) hX cF_70 st_A_fill (k_A_fill (n := 4) (s_Fm (by omega)) (by decide) M (nI 0)) rfl rfl (Nat.le_of_ble_eq_true rfl) (Nat.le_of_ble_eq_true rfl) d_F_forget_5 rfl ?_
  refine fm_aload_n hX d_F_forget_8 rfl rfl rfl ?_
  refine fm_getr (q := kFh m) hX fF_17 (s_F (by omega)) rfl d_F_forget_9 rfl ?_
  refine fm_iconst (v := nI 0) hX d_F_forget_12 (by decide) rfl ?_
  refine fm_aald (q := kFr m 0) hX (s_Fh (by omega)) (by decide) rfl rfl rfl (by omega) (by decide) (r_Fr (by omega)) d_F_forget_13 rfl ?_
  refine fm_iconst (v := nI 0) hX d_F_forget_14 (by decide) rfl ?_
  refine fm_callS_v (as := [.inr (kFr m 0), .inl (nI 0)]) (st := []) (pq := 18) hX cF_70 st_A_fill (k_A_fill (n := 27) (s_Fr (by omega) (by omega)) (by decide) (fm_fill M (kFm m) 4 (nI 0)) (nI 0)) rfl rfl (Nat.le_of_ble_eq_true rfl) (Nat.le_of_ble_eq_true rfl) d_F_forget_15 rfl ?_
  refine fm_aload_n hX d_F_forget_18 rfl rfl rfl ?_
  refine fm_getr (q := kFh m) hX fF_17 (s_F (by omega)) rfl d_F_forget_19 rfl ?_
  refine fm_iconst (v := nI 1) hX d_F_forget_22 (by decide) rfl ?_
  refine fm_aald (q := kFr m 1) hX (s_Fh (by omega)) (by decide) rfl rfl rfl (by omega) (by decide) (r_Fr (by omega)) d_F_forget_23 rfl ?_
  refine fm_iconst (v := nI 0) hX d_F_forget_24 (by decide) rfl ?_
  refine fm_callS_v (as := [.inr (kFr m 1), .inl (nI 0)]) (st := []) (pq := 28) hX cF_70 st_A_fill (k_A_fill (n := 27) (s_Fr (by omega) (by omega)) (by decide) (fm_fill (fm_fill M (kFm m) 4 (nI 0)) (kFr m 0) 27 (nI 0)) (nI 0)) rfl rfl (Nat.le_of_ble_eq_true rfl) (Nat.le_of_ble_eq_true rfl) d_F_forget_25 rfl ?_
  refine fm_aload_n hX d_F_forget_28 rfl rfl rfl ?_
  refine fm_getr (q := kFs m) hX fF_20 (s_F (by omega)) rfl d_F_forget_29 rfl ?_
  refine fm_iconst (v := nI 0) hX d_F_forget_32 (by decide) rfl ?_
  refine fm_callS_v (as := [.inr (kFs m), .inl (nI 0)]) (st := []) (pq := 36) hX cF_70 st_A_fill (k_A_fill (n := 2) (s_Fs (by omega)) (by decide) (fm_fill (fm_fill (fm_fill M (kFm m) 4 (nI 0)) (kFr m 0) 27 (nI 0)) (kFr m 1) 27 (nI 0)) (nI 0)) rfl rfl (Nat.le_of_ble_eq_true rfl) (Nat.le_of_ble_eq_true rfl) d_F_forget_33 rfl ?_
  refine fm_iconst (v := nI 0) hX d_F_forget_36 (by decide) rfl ?_
  refine fm_istore_n (ls1 := [some (.inr (kF m)), some (.inl (nI 0))]) hX d_F_forget_37 rfl (by decide) rfl rfl ?_
  refine fm_mem (fm_fill_0 _ (kFx m) (nI 0)).symm ?_
  exact L38 0 (by omega)
abbrev Y_F_applyCall : fm_Y := ("EscapeMill$Facts", b_F_applyCall, 17, none, 3)
set_option maxRecDepth 100000 in
set_option maxHeartbeats 4000000 in
theorem k_F_applyCall {P : pr_T} {m : Nat} (hm : m < 5) (M : fm_M) (hP : cP M P) (hw : pr_wf P) {i : Nat} (hi : i < P.1 m) (ho : (P.2.2 m i).1 = 16) {E : an_E} (hE : cE P m E M) : fm_ct SC y_F_applyCall b_F_applyCall 17 none 3 [.inr (kF m), .inr 1, .inr 2, .inl (nI m), .inl (nI i)] M (fm_vr (fun M' => cS m M M' (an_cn E (P.2.2 m i).2.1 (P.2.2 m i).2.2.1 (P.2.2 m i).2.2.2.1 (P.2.2 m i).2.2.2.2.toNatClampNeg (E.1 (P.2.2 m i).2.2.2.2.toNatClampNeg) (cA M m)))) := by
  refine fm_of (ls := [some (.inr (kF m)), some (.inr 1), some (.inr 2), some (.inl (nI m)), some (.inl (nI i)), none, none, none, none, none, none, none, none, none, none, none, none]) (by decide) wsA_good (Nat.le_of_ble_eq_true rfl) rfl (fun X hX => ?_)
  obtain ⟨wl, wi, wI⟩ := hw m hm
  obtain ⟨w1, w2, w3, w4, w5, w6⟩ := wI i hi
  obtain ⟨k, hk, hn⟩ := w6 ho
  have hk2 := (hw k hk).2.1
  have hk1 := (hw k hk).1
  have L106 : ∀ b : Bool, (b = true ↔ (k ≤ m ∨ P.1 k = 0)) → ∀ p, p ≤ P.2.1 k → ∀ M1, cS m M M1 (an_cn E (P.2.2 m i).2.1 (P.2.2 m i).2.2.1 (P.2.2 m i).2.2.2.1 k p (cA M m)) → fm_G SC Y_F_applyCall X M (fm_vr (fun M' => cS m M M' (an_cn E (P.2.2 m i).2.1 (P.2.2 m i).2.2.1 (P.2.2 m i).2.2.2.1 (P.2.2 m i).2.2.2.2.toNatClampNeg (E.1 (P.2.2 m i).2.2.2.2.toNatClampNeg) (cA M m)))) 106 [some (.inr (kF m)), some (.inr 1), some (.inr 2), some (.inl (nI m)), some (.inl (nI i)), some (.inl (nI ((P.2.2 m i).2.1))), some (.inl (nI ((P.2.2 m i).2.2.1))), some (.inl (nI ((P.2.2 m i).2.2.2.1))), some (.inl (nI k)), some (.inl (nI (P.2.1 k))), some (.inl (bI b)), some (.inl (nI p)), none, none, none, none, none] [] M1 := by
    intro b hb
    refine fm_ind (P.2.1 k) (fun p hle ih => ?_)
    intro M1 hc
    have hE1 := cE_S hE hc
    have hj4 : (if p = 0 then (P.2.2 m i).2.2.1 else (P.2.2 m i).2.2.2.1) < 4 := by split <;> omega
    refine fm_iload hX d_F_applyCall_106 rfl rfl ?_
    refine fm_iload hX d_F_applyCall_108 rfl rfl ?_
    refine fm_n_ge (tgt := 285) (pq := 113) hX d_F_applyCall_110 rfl rfl (by omega) (by omega) (fun h110 => ?_) (fun h110 => ?_)
    · show fm_G SC Y_F_applyCall X M (fm_vr (fun M' => cS m M M' (an_cn E (P.2.2 m i).2.1 (P.2.2 m i).2.2.1 (P.2.2 m i).2.2.2.1 (P.2.2 m i).2.2.2.2.toNatClampNeg (E.1 (P.2.2 m i).2.2.2.2.toNatClampNeg) (cA M m)))) 285 [some (.inr (kF m)), some (.inr 1), some (.inr 2), some (.inl (nI m)), some (.inl (nI i)), some (.inl (nI ((P.2.2 m i).2.1))), some (.inl (nI ((P.2.2 m i).2.2.1))), some (.inl (nI ((P.2.2 m i).2.2.2.1))), some (.inl (nI k)), some (.inl (nI (P.2.1 k))), some (.inl (bI b)), some (.inl (nI p)), none, none, none, none, none] [] M1
      refine fm_vret hX rfl d_F_applyCall_285 ?_
      have hkk : (P.2.2 m i).2.2.2.2.toNatClampNeg = k := by rw [hn]; exact nI_clamp (by omega)
      exact ⟨rfl, cS_eq hc (by rw [hkk, hE.1, show p = P.2.1 k by omega])⟩
    · show fm_G SC Y_F_applyCall X M (fm_vr (fun M' => cS m M M' (an_cn E (P.2.2 m i).2.1 (P.2.2 m i).2.2.1 (P.2.2 m i).2.2.2.1 (P.2.2 m i).2.2.2.2.toNatClampNeg (E.1 (P.2.2 m i).2.2.2.2.toNatClampNeg) (cA M m)))) 113 [some (.inr (kF m)), some (.inr 1), some (.inr 2), some (.inl (nI m)), some (.inl (nI i)), some (.inl (nI ((P.2.2 m i).2.1))), some (.inl (nI ((P.2.2 m i).2.2.1))), some (.inl (nI ((P.2.2 m i).2.2.2.1))), some (.inl (nI k)), some (.inl (nI (P.2.1 k))), some (.inl (bI b)), some (.inl (nI p)), none, none, none, none, none] [] M1
      have he2 := cE_2 hE1 hk (by omega : p < P.2.1 k)
      have L132 : ∀ v : Int32, v = nI (E.2.1 k p) → fm_G SC Y_F_applyCall X M (fm_vr (fun M' => cS m M M' (an_cn E (P.2.2 m i).2.1 (P.2.2 m i).2.2.1 (P.2.2 m i).2.2.2.1 (P.2.2 m i).2.2.2.2.toNatClampNeg (E.1 (P.2.2 m i).2.2.2.2.toNatClampNeg) (cA M m)))) 132 [some (.inr (kF m)), some (.inr 1), some (.inr 2), some (.inl (nI m)), some (.inl (nI i)), some (.inl (nI ((P.2.2 m i).2.1))), some (.inl (nI ((P.2.2 m i).2.2.1))), some (.inl (nI ((P.2.2 m i).2.2.2.1))), some (.inl (nI k)), some (.inl (nI (P.2.1 k))), some (.inl (bI b)), some (.inl (nI p)), none, none, none, none, none] [.inl v] M1 := by
        intro v hv
        subst hv
        refine fm_istore (ls1 := [some (.inr (kF m)), some (.inr 1), some (.inr 2), some (.inl (nI m)), some (.inl (nI i)), some (.inl (nI ((P.2.2 m i).2.1))), some (.inl (nI ((P.2.2 m i).2.2.1))), some (.inl (nI ((P.2.2 m i).2.2.2.1))), some (.inl (nI k)), some (.inl (nI (P.2.1 k))), some (.inl (bI b)), some (.inl (nI p)), some (.inl (nI (E.2.1 k p))), none, none, none, none]) hX d_F_applyCall_132 (by decide) rfl rfl ?_
        refine fm_aload_n hX d_F_applyCall_134 rfl rfl rfl ?_
        refine fm_getr (q := kFm m) hX fF_9 (s_F (by omega)) rfl d_F_applyCall_135 rfl ?_
        refine fm_iload hX d_F_applyCall_138 rfl rfl ?_
        have L150 : ∀ j : Nat, j = (if p = 0 then (P.2.2 m i).2.2.1 else (P.2.2 m i).2.2.2.1) → fm_G SC Y_F_applyCall X M (fm_vr (fun M' => cS m M M' (an_cn E (P.2.2 m i).2.1 (P.2.2 m i).2.2.1 (P.2.2 m i).2.2.2.1 (P.2.2 m i).2.2.2.2.toNatClampNeg (E.1 (P.2.2 m i).2.2.2.2.toNatClampNeg) (cA M m)))) 150 [some (.inr (kF m)), some (.inr 1), some (.inr 2), some (.inl (nI m)), some (.inl (nI i)), some (.inl (nI ((P.2.2 m i).2.1))), some (.inl (nI ((P.2.2 m i).2.2.1))), some (.inl (nI ((P.2.2 m i).2.2.2.1))), some (.inl (nI k)), some (.inl (nI (P.2.1 k))), some (.inl (bI b)), some (.inl (nI p)), some (.inl (nI (E.2.1 k p))), none, none, none, none] [.inl (nI j), .inr (kFm m)] M1 := by
          intro j hj
          subst hj
          refine fm_iald (v := (cA M1 m).1 ((if p = 0 then (P.2.2 m i).2.2.1 else (P.2.2 m i).2.2.2.1))) hX (s_Fm (by omega)) rfl rfl (by omega) (by decide) (cA_m (by omega)).symm d_F_applyCall_150 rfl ?_
          refine fm_istore (ls1 := [some (.inr (kF m)), some (.inr 1), some (.inr 2), some (.inl (nI m)), some (.inl (nI i)), some (.inl (nI ((P.2.2 m i).2.1))), some (.inl (nI ((P.2.2 m i).2.2.1))), some (.inl (nI ((P.2.2 m i).2.2.2.1))), some (.inl (nI k)), some (.inl (nI (P.2.1 k))), some (.inl (bI b)), some (.inl (nI p)), some (.inl (nI (E.2.1 k p))), some (.inl ((cA M1 m).1 ((if p = 0 then (P.2.2 m i).2.2.1 else (P.2.2 m i).2.2.2.1)))), none, none, none]) hX d_F_applyCall_151 (by decide) rfl rfl ?_
          refine fm_aload_n hX d_F_applyCall_153 rfl rfl rfl ?_
          refine fm_iload hX d_F_applyCall_154 rfl rfl ?_
          refine fm_callV_i (as := [.inl ((cA M1 m).1 ((if p = 0 then (P.2.2 m i).2.2.1 else (P.2.2 m i).2.2.2.1)))]) (st := []) (pq := 159) hX (s_F (by omega)) rfl cF_105 rfl im_F_reached se_F_reached (k_F_reached (by omega) M1 ((cA M1 m).1 ((if p = 0 then (P.2.2 m i).2.2.1 else (P.2.2 m i).2.2.2.1)))) rfl rfl (Nat.le_of_ble_eq_true rfl) (Nat.le_of_ble_eq_true rfl) d_F_applyCall_156 rfl ?_
          refine fm_istore (ls1 := [some (.inr (kF m)), some (.inr 1), some (.inr 2), some (.inl (nI m)), some (.inl (nI i)), some (.inl (nI ((P.2.2 m i).2.1))), some (.inl (nI ((P.2.2 m i).2.2.1))), some (.inl (nI ((P.2.2 m i).2.2.2.1))), some (.inl (nI k)), some (.inl (nI (P.2.1 k))), some (.inl (bI b)), some (.inl (nI p)), some (.inl (nI (E.2.1 k p))), some (.inl ((cA M1 m).1 ((if p = 0 then (P.2.2 m i).2.2.1 else (P.2.2 m i).2.2.2.1)))), some (.inl (an_rc (cA M1 m).2.1 ((cA M1 m).1 ((if p = 0 then (P.2.2 m i).2.2.1 else (P.2.2 m i).2.2.2.1))))), none, none]) hX d_F_applyCall_159 (by decide) rfl rfl ?_
          have L185 : ∀ v : Int32, v = bI (E.2.2 k p) → fm_G SC Y_F_applyCall X M (fm_vr (fun M' => cS m M M' (an_cn E (P.2.2 m i).2.1 (P.2.2 m i).2.2.1 (P.2.2 m i).2.2.2.1 (P.2.2 m i).2.2.2.2.toNatClampNeg (E.1 (P.2.2 m i).2.2.2.2.toNatClampNeg) (cA M m)))) 185 [some (.inr (kF m)), some (.inr 1), some (.inr 2), some (.inl (nI m)), some (.inl (nI i)), some (.inl (nI ((P.2.2 m i).2.1))), some (.inl (nI ((P.2.2 m i).2.2.1))), some (.inl (nI ((P.2.2 m i).2.2.2.1))), some (.inl (nI k)), some (.inl (nI (P.2.1 k))), some (.inl (bI b)), some (.inl (nI p)), some (.inl (nI (E.2.1 k p))), some (.inl ((cA M1 m).1 ((if p = 0 then (P.2.2 m i).2.2.1 else (P.2.2 m i).2.2.2.1)))), some (.inl (an_rc (cA M1 m).2.1 ((cA M1 m).1 ((if p = 0 then (P.2.2 m i).2.2.1 else (P.2.2 m i).2.2.2.1))))), none, none] [.inl v] M1 := by
            intro v hv
            subst hv
            refine fm_istore (ls1 := [some (.inr (kF m)), some (.inr 1), some (.inr 2), some (.inl (nI m)), some (.inl (nI i)), some (.inl (nI ((P.2.2 m i).2.1))), some (.inl (nI ((P.2.2 m i).2.2.1))), some (.inl (nI ((P.2.2 m i).2.2.2.1))), some (.inl (nI k)), some (.inl (nI (P.2.1 k))), some (.inl (bI b)), some (.inl (nI p)), some (.inl (nI (E.2.1 k p))), some (.inl ((cA M1 m).1 ((if p = 0 then (P.2.2 m i).2.2.1 else (P.2.2 m i).2.2.2.1)))), some (.inl (an_rc (cA M1 m).2.1 ((cA M1 m).1 ((if p = 0 then (P.2.2 m i).2.2.1 else (P.2.2 m i).2.2.2.1))))), some (.inl (bI (E.2.2 k p))), none]) hX d_F_applyCall_185 (by decide) rfl rfl ?_
            refine fm_aload_n hX d_F_applyCall_187 rfl rfl rfl ?_
            refine fm_iload hX d_F_applyCall_188 rfl rfl ?_
            have L205 : ∀ v : Int32, v = (if E.2.2 k p = true then an_rc (cA M1 m).2.1 ((cA M1 m).1 (if p = 0 then (P.2.2 m i).2.2.1 else (P.2.2 m i).2.2.2.1)) ||| an_W else an_rc (cA M1 m).2.1 ((cA M1 m).1 (if p = 0 then (P.2.2 m i).2.2.1 else (P.2.2 m i).2.2.2.1))) → fm_G SC Y_F_applyCall X M (fm_vr (fun M' => cS m M M' (an_cn E (P.2.2 m i).2.1 (P.2.2 m i).2.2.1 (P.2.2 m i).2.2.2.1 (P.2.2 m i).2.2.2.2.toNatClampNeg (E.1 (P.2.2 m i).2.2.2.2.toNatClampNeg) (cA M m)))) 205 [some (.inr (kF m)), some (.inr 1), some (.inr 2), some (.inl (nI m)), some (.inl (nI i)), some (.inl (nI ((P.2.2 m i).2.1))), some (.inl (nI ((P.2.2 m i).2.2.1))), some (.inl (nI ((P.2.2 m i).2.2.2.1))), some (.inl (nI k)), some (.inl (nI (P.2.1 k))), some (.inl (bI b)), some (.inl (nI p)), some (.inl (nI (E.2.1 k p))), some (.inl ((cA M1 m).1 ((if p = 0 then (P.2.2 m i).2.2.1 else (P.2.2 m i).2.2.2.1)))), some (.inl (an_rc (cA M1 m).2.1 ((cA M1 m).1 ((if p = 0 then (P.2.2 m i).2.2.1 else (P.2.2 m i).2.2.2.1))))), some (.inl (bI (E.2.2 k p))), none] [.inl v, .inl (an_rc (cA M1 m).2.1 ((cA M1 m).1 ((if p = 0 then (P.2.2 m i).2.2.1 else (P.2.2 m i).2.2.2.1)))), .inr (kF m)] M1 := by
              intro v205 hv205
              refine fm_callV_r (as := [.inl (an_rc (cA M1 m).2.1 ((cA M1 m).1 ((if p = 0 then (P.2.2 m i).2.2.1 else (P.2.2 m i).2.2.2.1)))), .inl v205]) (st := []) (pq := 208) hX (s_F (by omega)) rfl cF_81 rfl im_F_holdInBoth se_F_holdInBoth (k_F_holdInBoth (by omega) M1 (an_rc (cA M1 m).2.1 ((cA M1 m).1 ((if p = 0 then (P.2.2 m i).2.2.1 else (P.2.2 m i).2.2.2.1)))) v205) rfl rfl (Nat.le_of_ble_eq_true rfl) (Nat.le_of_ble_eq_true rfl) d_F_applyCall_205 rfl (fun M205 c205 => ?_)
              have hr1 := cS_r1 (y := (P.2.2 m i).2.2.1) (z := (P.2.2 m i).2.2.2.1) hc hv205 c205
              refine fm_iload hX d_F_applyCall_208 rfl rfl ?_
              refine fm_iconst (v := nI 2) hX d_F_applyCall_210 (by decide) rfl ?_
              refine fm_n_ne (tgt := 225) (pq := 214) hX d_F_applyCall_211 rfl rfl (by omega) (by omega) (fun h211 => ?_) (fun h211 => ?_)
              · show fm_G SC Y_F_applyCall X M (fm_vr (fun M' => cS m M M' (an_cn E (P.2.2 m i).2.1 (P.2.2 m i).2.2.1 (P.2.2 m i).2.2.2.1 (P.2.2 m i).2.2.2.2.toNatClampNeg (E.1 (P.2.2 m i).2.2.2.2.toNatClampNeg) (cA M m)))) 225 [some (.inr (kF m)), some (.inr 1), some (.inr 2), some (.inl (nI m)), some (.inl (nI i)), some (.inl (nI ((P.2.2 m i).2.1))), some (.inl (nI ((P.2.2 m i).2.2.1))), some (.inl (nI ((P.2.2 m i).2.2.2.1))), some (.inl (nI k)), some (.inl (nI (P.2.1 k))), some (.inl (bI b)), some (.inl (nI p)), some (.inl (nI (E.2.1 k p))), some (.inl ((cA M1 m).1 ((if p = 0 then (P.2.2 m i).2.2.1 else (P.2.2 m i).2.2.2.1)))), some (.inl (an_rc (cA M1 m).2.1 ((cA M1 m).1 ((if p = 0 then (P.2.2 m i).2.2.1 else (P.2.2 m i).2.2.2.1))))), some (.inl (bI (E.2.2 k p))), none] [] M205
                refine fm_iload hX d_F_applyCall_225 rfl rfl ?_
                refine fm_iconst (v := nI 1) hX d_F_applyCall_227 (by decide) rfl ?_
                refine fm_n_ne (tgt := 279) (pq := 231) hX d_F_applyCall_228 rfl rfl (by omega) (by omega) (fun h228 => ?_) (fun h228 => ?_)
                · show fm_G SC Y_F_applyCall X M (fm_vr (fun M' => cS m M M' (an_cn E (P.2.2 m i).2.1 (P.2.2 m i).2.2.1 (P.2.2 m i).2.2.2.1 (P.2.2 m i).2.2.2.2.toNatClampNeg (E.1 (P.2.2 m i).2.2.2.2.toNatClampNeg) (cA M m)))) 279 [some (.inr (kF m)), some (.inr 1), some (.inr 2), some (.inl (nI m)), some (.inl (nI i)), some (.inl (nI ((P.2.2 m i).2.1))), some (.inl (nI ((P.2.2 m i).2.2.1))), some (.inl (nI ((P.2.2 m i).2.2.2.1))), some (.inl (nI k)), some (.inl (nI (P.2.1 k))), some (.inl (bI b)), some (.inl (nI p)), some (.inl (nI (E.2.1 k p))), some (.inl ((cA M1 m).1 ((if p = 0 then (P.2.2 m i).2.2.1 else (P.2.2 m i).2.2.2.1)))), some (.inl (an_rc (cA M1 m).2.1 ((cA M1 m).1 ((if p = 0 then (P.2.2 m i).2.2.1 else (P.2.2 m i).2.2.2.1))))), some (.inl (bI (E.2.2 k p))), none] [] M205
                  refine fm_iinc (v := nI (p + 1)) (ls1 := [some (.inr (kF m)), some (.inr 1), some (.inr 2), some (.inl (nI m)), some (.inl (nI i)), some (.inl (nI ((P.2.2 m i).2.1))), some (.inl (nI ((P.2.2 m i).2.2.1))), some (.inl (nI ((P.2.2 m i).2.2.2.1))), some (.inl (nI k)), some (.inl (nI (P.2.1 k))), some (.inl (bI b)), some (.inl (nI (p + 1))), some (.inl (nI (E.2.1 k p))), some (.inl ((cA M1 m).1 ((if p = 0 then (P.2.2 m i).2.2.1 else (P.2.2 m i).2.2.2.1)))), some (.inl (an_rc (cA M1 m).2.1 ((cA M1 m).1 ((if p = 0 then (P.2.2 m i).2.2.1 else (P.2.2 m i).2.2.2.1))))), some (.inl (bI (E.2.2 k p))), none]) hX d_F_applyCall_279 rfl (nI_add _ _) (by decide) rfl rfl ?_
                  refine fm_goto (tgt := 106) hX d_F_applyCall_282 rfl ?_
                  refine fm_drop 12 (ls1 := [some (.inr (kF m)), some (.inr 1), some (.inr 2), some (.inl (nI m)), some (.inl (nI i)), some (.inl (nI ((P.2.2 m i).2.1))), some (.inl (nI ((P.2.2 m i).2.2.1))), some (.inl (nI ((P.2.2 m i).2.2.2.1))), some (.inl (nI k)), some (.inl (nI (P.2.1 k))), some (.inl (bI b)), some (.inl (nI (p + 1))), none, some (.inl ((cA M1 m).1 ((if p = 0 then (P.2.2 m i).2.2.1 else (P.2.2 m i).2.2.2.1)))), some (.inl (an_rc (cA M1 m).2.1 ((cA M1 m).1 ((if p = 0 then (P.2.2 m i).2.2.1 else (P.2.2 m i).2.2.2.1))))), some (.inl (bI (E.2.2 k p))), none]) rfl ?_
                  refine fm_drop 13 (ls1 := [some (.inr (kF m)), some (.inr 1), some (.inr 2), some (.inl (nI m)), some (.inl (nI i)), some (.inl (nI ((P.2.2 m i).2.1))), some (.inl (nI ((P.2.2 m i).2.2.1))), some (.inl (nI ((P.2.2 m i).2.2.2.1))), some (.inl (nI k)), some (.inl (nI (P.2.1 k))), some (.inl (bI b)), some (.inl (nI (p + 1))), none, none, some (.inl (an_rc (cA M1 m).2.1 ((cA M1 m).1 ((if p = 0 then (P.2.2 m i).2.2.1 else (P.2.2 m i).2.2.2.1))))), some (.inl (bI (E.2.2 k p))), none]) rfl ?_
                  refine fm_drop 14 (ls1 := [some (.inr (kF m)), some (.inr 1), some (.inr 2), some (.inl (nI m)), some (.inl (nI i)), some (.inl (nI ((P.2.2 m i).2.1))), some (.inl (nI ((P.2.2 m i).2.2.1))), some (.inl (nI ((P.2.2 m i).2.2.2.1))), some (.inl (nI k)), some (.inl (nI (P.2.1 k))), some (.inl (bI b)), some (.inl (nI (p + 1))), none, none, none, some (.inl (bI (E.2.2 k p))), none]) rfl ?_
                  refine fm_drop 15 (ls1 := [some (.inr (kF m)), some (.inr 1), some (.inr 2), some (.inl (nI m)), some (.inl (nI i)), some (.inl (nI ((P.2.2 m i).2.1))), some (.inl (nI ((P.2.2 m i).2.2.1))), some (.inl (nI ((P.2.2 m i).2.2.2.1))), some (.inl (nI k)), some (.inl (nI (P.2.1 k))), some (.inl (bI b)), some (.inl (nI (p + 1))), none, none, none, none, none]) rfl ?_
                  exact ih (by omega) _ (cS_ca0 hr1 h211 h228)
                · show fm_G SC Y_F_applyCall X M (fm_vr (fun M' => cS m M M' (an_cn E (P.2.2 m i).2.1 (P.2.2 m i).2.2.1 (P.2.2 m i).2.2.2.1 (P.2.2 m i).2.2.2.2.toNatClampNeg (E.1 (P.2.2 m i).2.2.2.2.toNatClampNeg) (cA M m)))) 231 [some (.inr (kF m)), some (.inr 1), some (.inr 2), some (.inl (nI m)), some (.inl (nI i)), some (.inl (nI ((P.2.2 m i).2.1))), some (.inl (nI ((P.2.2 m i).2.2.1))), some (.inl (nI ((P.2.2 m i).2.2.2.1))), some (.inl (nI k)), some (.inl (nI (P.2.1 k))), some (.inl (bI b)), some (.inl (nI p)), some (.inl (nI (E.2.1 k p))), some (.inl ((cA M1 m).1 ((if p = 0 then (P.2.2 m i).2.2.1 else (P.2.2 m i).2.2.2.1)))), some (.inl (an_rc (cA M1 m).2.1 ((cA M1 m).1 ((if p = 0 then (P.2.2 m i).2.2.1 else (P.2.2 m i).2.2.2.1))))), some (.inl (bI (E.2.2 k p))), none] [] M205
                  refine fm_aload_n hX d_F_applyCall_231 rfl rfl rfl ?_
                  have L258 : ∀ v : Int32, v = an_bo (cA M205 m) (P.2.1 k) (P.2.2 m i).2.2.1 (P.2.2 m i).2.2.2.1 → fm_G SC Y_F_applyCall X M (fm_vr (fun M' => cS m M M' (an_cn E (P.2.2 m i).2.1 (P.2.2 m i).2.2.1 (P.2.2 m i).2.2.2.1 (P.2.2 m i).2.2.2.2.toNatClampNeg (E.1 (P.2.2 m i).2.2.2.2.toNatClampNeg) (cA M m)))) 258 [some (.inr (kF m)), some (.inr 1), some (.inr 2), some (.inl (nI m)), some (.inl (nI i)), some (.inl (nI ((P.2.2 m i).2.1))), some (.inl (nI ((P.2.2 m i).2.2.1))), some (.inl (nI ((P.2.2 m i).2.2.2.1))), some (.inl (nI k)), some (.inl (nI (P.2.1 k))), some (.inl (bI b)), some (.inl (nI p)), some (.inl (nI (E.2.1 k p))), some (.inl ((cA M1 m).1 ((if p = 0 then (P.2.2 m i).2.2.1 else (P.2.2 m i).2.2.2.1)))), some (.inl (an_rc (cA M1 m).2.1 ((cA M1 m).1 ((if p = 0 then (P.2.2 m i).2.2.1 else (P.2.2 m i).2.2.2.1))))), some (.inl (bI (E.2.2 k p))), none] [.inl v, .inr (kF m)] M205 := by
                    intro v258 hv258
                    refine fm_callV_i (as := [.inl v258]) (st := []) (pq := 261) hX (s_F (by omega)) rfl cF_105 rfl im_F_reached se_F_reached (k_F_reached (by omega) M205 v258) rfl rfl (Nat.le_of_ble_eq_true rfl) (Nat.le_of_ble_eq_true rfl) d_F_applyCall_258 rfl ?_
                    refine fm_istore (ls1 := [some (.inr (kF m)), some (.inr 1), some (.inr 2), some (.inl (nI m)), some (.inl (nI i)), some (.inl (nI ((P.2.2 m i).2.1))), some (.inl (nI ((P.2.2 m i).2.2.1))), some (.inl (nI ((P.2.2 m i).2.2.2.1))), some (.inl (nI k)), some (.inl (nI (P.2.1 k))), some (.inl (bI b)), some (.inl (nI p)), some (.inl (nI (E.2.1 k p))), some (.inl ((cA M1 m).1 ((if p = 0 then (P.2.2 m i).2.2.1 else (P.2.2 m i).2.2.2.1)))), some (.inl (an_rc (cA M1 m).2.1 ((cA M1 m).1 ((if p = 0 then (P.2.2 m i).2.2.1 else (P.2.2 m i).2.2.2.1))))), some (.inl (bI (E.2.2 k p))), some (.inl (an_rc (cA M205 m).2.1 v258))]) hX d_F_applyCall_261 (by decide) rfl rfl ?_
                    refine fm_aload_n hX d_F_applyCall_263 rfl rfl rfl ?_
                    refine fm_iload hX d_F_applyCall_264 rfl rfl ?_
                    refine fm_iload hX d_F_applyCall_266 rfl rfl ?_
                    refine fm_callV_r (as := [.inl (an_rc (cA M205 m).2.1 v258), .inl (an_rc (cA M205 m).2.1 v258)]) (st := []) (pq := 271) hX (s_F (by omega)) rfl cF_81 rfl im_F_holdInBoth se_F_holdInBoth (k_F_holdInBoth (by omega) M205 (an_rc (cA M205 m).2.1 v258) (an_rc (cA M205 m).2.1 v258)) rfl rfl (Nat.le_of_ble_eq_true rfl) (Nat.le_of_ble_eq_true rfl) d_F_applyCall_268 rfl (fun M268 c268 => ?_)
                    refine fm_aload_n hX d_F_applyCall_271 rfl rfl rfl ?_
                    refine fm_iload hX d_F_applyCall_272 rfl rfl ?_
                    refine fm_iload hX d_F_applyCall_274 rfl rfl ?_
                    refine fm_callV_r (as := [.inl (nI ((P.2.2 m i).2.1)), .inl (an_rc (cA M205 m).2.1 v258)]) (st := []) (pq := 279) hX (s_F (by omega)) rfl cF_77 rfl im_F_refer se_F_refer (k_F_refer (by omega) M268 (r := (P.2.2 m i).2.1) (by omega) (an_rc (cA M205 m).2.1 v258)) rfl rfl (Nat.le_of_ble_eq_true rfl) (Nat.le_of_ble_eq_true rfl) d_F_applyCall_276 rfl (fun M276 c276 => ?_)
                    refine fm_iinc (v := nI (p + 1)) (ls1 := [some (.inr (kF m)), some (.inr 1), some (.inr 2), some (.inl (nI m)), some (.inl (nI i)), some (.inl (nI ((P.2.2 m i).2.1))), some (.inl (nI ((P.2.2 m i).2.2.1))), some (.inl (nI ((P.2.2 m i).2.2.2.1))), some (.inl (nI k)), some (.inl (nI (P.2.1 k))), some (.inl (bI b)), some (.inl (nI (p + 1))), some (.inl (nI (E.2.1 k p))), some (.inl ((cA M1 m).1 ((if p = 0 then (P.2.2 m i).2.2.1 else (P.2.2 m i).2.2.2.1)))), some (.inl (an_rc (cA M1 m).2.1 ((cA M1 m).1 ((if p = 0 then (P.2.2 m i).2.2.1 else (P.2.2 m i).2.2.2.1))))), some (.inl (bI (E.2.2 k p))), some (.inl (an_rc (cA M205 m).2.1 v258))]) hX d_F_applyCall_279 rfl (nI_add _ _) (by decide) rfl rfl ?_
                    refine fm_goto (tgt := 106) hX d_F_applyCall_282 rfl ?_
                    refine fm_drop 12 (ls1 := [some (.inr (kF m)), some (.inr 1), some (.inr 2), some (.inl (nI m)), some (.inl (nI i)), some (.inl (nI ((P.2.2 m i).2.1))), some (.inl (nI ((P.2.2 m i).2.2.1))), some (.inl (nI ((P.2.2 m i).2.2.2.1))), some (.inl (nI k)), some (.inl (nI (P.2.1 k))), some (.inl (bI b)), some (.inl (nI (p + 1))), none, some (.inl ((cA M1 m).1 ((if p = 0 then (P.2.2 m i).2.2.1 else (P.2.2 m i).2.2.2.1)))), some (.inl (an_rc (cA M1 m).2.1 ((cA M1 m).1 ((if p = 0 then (P.2.2 m i).2.2.1 else (P.2.2 m i).2.2.2.1))))), some (.inl (bI (E.2.2 k p))), some (.inl (an_rc (cA M205 m).2.1 v258))]) rfl ?_
                    refine fm_drop 13 (ls1 := [some (.inr (kF m)), some (.inr 1), some (.inr 2), some (.inl (nI m)), some (.inl (nI i)), some (.inl (nI ((P.2.2 m i).2.1))), some (.inl (nI ((P.2.2 m i).2.2.1))), some (.inl (nI ((P.2.2 m i).2.2.2.1))), some (.inl (nI k)), some (.inl (nI (P.2.1 k))), some (.inl (bI b)), some (.inl (nI (p + 1))), none, none, some (.inl (an_rc (cA M1 m).2.1 ((cA M1 m).1 ((if p = 0 then (P.2.2 m i).2.2.1 else (P.2.2 m i).2.2.2.1))))), some (.inl (bI (E.2.2 k p))), some (.inl (an_rc (cA M205 m).2.1 v258))]) rfl ?_
                    refine fm_drop 14 (ls1 := [some (.inr (kF m)), some (.inr 1), some (.inr 2), some (.inl (nI m)), some (.inl (nI i)), some (.inl (nI ((P.2.2 m i).2.1))), some (.inl (nI ((P.2.2 m i).2.2.1))), some (.inl (nI ((P.2.2 m i).2.2.2.1))), some (.inl (nI k)), some (.inl (nI (P.2.1 k))), some (.inl (bI b)), some (.inl (nI (p + 1))), none, none, none, some (.inl (bI (E.2.2 k p))), some (.inl (an_rc (cA M205 m).2.1 v258))]) rfl ?_
                    refine fm_drop 15 (ls1 := [some (.inr (kF m)), some (.inr 1), some (.inr 2), some (.inl (nI m)), some (.inl (nI i)), some (.inl (nI ((P.2.2 m i).2.1))), some (.inl (nI ((P.2.2 m i).2.2.1))), some (.inl (nI ((P.2.2 m i).2.2.2.1))), some (.inl (nI k)), some (.inl (nI (P.2.1 k))), some (.inl (bI b)), some (.inl (nI (p + 1))), none, none, none, none, some (.inl (an_rc (cA M205 m).2.1 v258))]) rfl ?_
                    refine fm_drop 16 (ls1 := [some (.inr (kF m)), some (.inr 1), some (.inr 2), some (.inl (nI m)), some (.inl (nI i)), some (.inl (nI ((P.2.2 m i).2.1))), some (.inl (nI ((P.2.2 m i).2.2.1))), some (.inl (nI ((P.2.2 m i).2.2.2.1))), some (.inl (nI k)), some (.inl (nI (P.2.1 k))), some (.inl (bI b)), some (.inl (nI (p + 1))), none, none, none, none, none]) rfl ?_
                    exact ih (by omega) _ (cS_ca1 hr1 h228 (by rw [hE.1]; exact hv258) c268 c276)
                  refine fm_iload hX d_F_applyCall_232 rfl rfl ?_
                  refine fm_iconst (v := nI 2) hX d_F_applyCall_234 (by decide) rfl ?_
                  refine fm_n_ne (tgt := 256) (pq := 238) hX d_F_applyCall_235 rfl rfl (by omega) (by omega) (fun h235 => ?_) (fun h235 => ?_)
                  · show fm_G SC Y_F_applyCall X M (fm_vr (fun M' => cS m M M' (an_cn E (P.2.2 m i).2.1 (P.2.2 m i).2.2.1 (P.2.2 m i).2.2.2.1 (P.2.2 m i).2.2.2.2.toNatClampNeg (E.1 (P.2.2 m i).2.2.2.2.toNatClampNeg) (cA M m)))) 256 [some (.inr (kF m)), some (.inr 1), some (.inr 2), some (.inl (nI m)), some (.inl (nI i)), some (.inl (nI ((P.2.2 m i).2.1))), some (.inl (nI ((P.2.2 m i).2.2.1))), some (.inl (nI ((P.2.2 m i).2.2.2.1))), some (.inl (nI k)), some (.inl (nI (P.2.1 k))), some (.inl (bI b)), some (.inl (nI p)), some (.inl (nI (E.2.1 k p))), some (.inl ((cA M1 m).1 ((if p = 0 then (P.2.2 m i).2.2.1 else (P.2.2 m i).2.2.2.1)))), some (.inl (an_rc (cA M1 m).2.1 ((cA M1 m).1 ((if p = 0 then (P.2.2 m i).2.2.1 else (P.2.2 m i).2.2.2.1))))), some (.inl (bI (E.2.2 k p))), none] [.inr (kF m)] M205
                    refine fm_iload hX d_F_applyCall_256 rfl rfl ?_
                    first | exact L258 _ (if_pos h235).symm | exact L258 _ (by rw [an_bo, if_neg h235, c205.1, if_pos (by omega : p = 0)]; rfl)
                  · show fm_G SC Y_F_applyCall X M (fm_vr (fun M' => cS m M M' (an_cn E (P.2.2 m i).2.1 (P.2.2 m i).2.2.1 (P.2.2 m i).2.2.2.1 (P.2.2 m i).2.2.2.2.toNatClampNeg (E.1 (P.2.2 m i).2.2.2.2.toNatClampNeg) (cA M m)))) 238 [some (.inr (kF m)), some (.inr 1), some (.inr 2), some (.inl (nI m)), some (.inl (nI i)), some (.inl (nI ((P.2.2 m i).2.1))), some (.inl (nI ((P.2.2 m i).2.2.1))), some (.inl (nI ((P.2.2 m i).2.2.2.1))), some (.inl (nI k)), some (.inl (nI (P.2.1 k))), some (.inl (bI b)), some (.inl (nI p)), some (.inl (nI (E.2.1 k p))), some (.inl ((cA M1 m).1 ((if p = 0 then (P.2.2 m i).2.2.1 else (P.2.2 m i).2.2.2.1)))), some (.inl (an_rc (cA M1 m).2.1 ((cA M1 m).1 ((if p = 0 then (P.2.2 m i).2.2.1 else (P.2.2 m i).2.2.2.1))))), some (.inl (bI (E.2.2 k p))), none] [.inr (kF m)] M205
                    refine fm_aload_n hX d_F_applyCall_238 rfl rfl rfl ?_
                    refine fm_getr (q := kFm m) hX fF_9 (s_F (by omega)) rfl d_F_applyCall_239 rfl ?_
                    refine fm_iload hX d_F_applyCall_242 rfl rfl ?_
                    refine fm_iald (v := (cA M205 m).1 ((P.2.2 m i).2.2.1)) hX (s_Fm (by omega)) rfl rfl (by omega) (by decide) (cA_m (by omega)).symm d_F_applyCall_244 rfl ?_
                    refine fm_aload_n hX d_F_applyCall_245 rfl rfl rfl ?_
                    refine fm_getr (q := kFm m) hX fF_9 (s_F (by omega)) rfl d_F_applyCall_246 rfl ?_
                    refine fm_iload hX d_F_applyCall_249 rfl rfl ?_
                    refine fm_iald (v := (cA M205 m).1 ((P.2.2 m i).2.2.2.1)) hX (s_Fm (by omega)) rfl rfl (by omega) (by decide) (cA_m (by omega)).symm d_F_applyCall_251 rfl ?_
                    refine fm_ior (v := ((cA M205 m).1 ((P.2.2 m i).2.2.1)) ||| ((cA M205 m).1 ((P.2.2 m i).2.2.2.1))) hX d_F_applyCall_252 rfl rfl ?_
                    refine fm_goto (tgt := 258) hX d_F_applyCall_253 rfl ?_
                    first | exact L258 _ (if_pos h235).symm | exact L258 _ (by rw [an_bo, if_neg h235, c205.1, if_pos (by omega : p = 0)]; rfl)
              · show fm_G SC Y_F_applyCall X M (fm_vr (fun M' => cS m M M' (an_cn E (P.2.2 m i).2.1 (P.2.2 m i).2.2.1 (P.2.2 m i).2.2.2.1 (P.2.2 m i).2.2.2.2.toNatClampNeg (E.1 (P.2.2 m i).2.2.2.2.toNatClampNeg) (cA M m)))) 214 [some (.inr (kF m)), some (.inr 1), some (.inr 2), some (.inl (nI m)), some (.inl (nI i)), some (.inl (nI ((P.2.2 m i).2.1))), some (.inl (nI ((P.2.2 m i).2.2.1))), some (.inl (nI ((P.2.2 m i).2.2.2.1))), some (.inl (nI k)), some (.inl (nI (P.2.1 k))), some (.inl (bI b)), some (.inl (nI p)), some (.inl (nI (E.2.1 k p))), some (.inl ((cA M1 m).1 ((if p = 0 then (P.2.2 m i).2.2.1 else (P.2.2 m i).2.2.2.1)))), some (.inl (an_rc (cA M1 m).2.1 ((cA M1 m).1 ((if p = 0 then (P.2.2 m i).2.2.1 else (P.2.2 m i).2.2.2.1))))), some (.inl (bI (E.2.2 k p))), none] [] M205
                refine fm_aload_n hX d_F_applyCall_214 rfl rfl rfl ?_
                refine fm_ldc (v := an_W) hX d_F_applyCall_215 kF_84 rfl ?_
                refine fm_iload hX d_F_applyCall_217 rfl rfl ?_
                refine fm_callV_r (as := [.inl an_W, .inl ((cA M1 m).1 ((if p = 0 then (P.2.2 m i).2.2.1 else (P.2.2 m i).2.2.2.1)))]) (st := []) (pq := 222) hX (s_F (by omega)) rfl cF_81 rfl im_F_holdInBoth se_F_holdInBoth (k_F_holdInBoth (by omega) M205 an_W ((cA M1 m).1 ((if p = 0 then (P.2.2 m i).2.2.1 else (P.2.2 m i).2.2.2.1)))) rfl rfl (Nat.le_of_ble_eq_true rfl) (Nat.le_of_ble_eq_true rfl) d_F_applyCall_219 rfl (fun M219 c219 => ?_)
                refine fm_goto (tgt := 279) hX d_F_applyCall_222 rfl ?_
                refine fm_iinc (v := nI (p + 1)) (ls1 := [some (.inr (kF m)), some (.inr 1), some (.inr 2), some (.inl (nI m)), some (.inl (nI i)), some (.inl (nI ((P.2.2 m i).2.1))), some (.inl (nI ((P.2.2 m i).2.2.1))), some (.inl (nI ((P.2.2 m i).2.2.2.1))), some (.inl (nI k)), some (.inl (nI (P.2.1 k))), some (.inl (bI b)), some (.inl (nI (p + 1))), some (.inl (nI (E.2.1 k p))), some (.inl ((cA M1 m).1 ((if p = 0 then (P.2.2 m i).2.2.1 else (P.2.2 m i).2.2.2.1)))), some (.inl (an_rc (cA M1 m).2.1 ((cA M1 m).1 ((if p = 0 then (P.2.2 m i).2.2.1 else (P.2.2 m i).2.2.2.1))))), some (.inl (bI (E.2.2 k p))), none]) hX d_F_applyCall_279 rfl (nI_add _ _) (by decide) rfl rfl ?_
                refine fm_goto (tgt := 106) hX d_F_applyCall_282 rfl ?_
                refine fm_drop 12 (ls1 := [some (.inr (kF m)), some (.inr 1), some (.inr 2), some (.inl (nI m)), some (.inl (nI i)), some (.inl (nI ((P.2.2 m i).2.1))), some (.inl (nI ((P.2.2 m i).2.2.1))), some (.inl (nI ((P.2.2 m i).2.2.2.1))), some (.inl (nI k)), some (.inl (nI (P.2.1 k))), some (.inl (bI b)), some (.inl (nI (p + 1))), none, some (.inl ((cA M1 m).1 ((if p = 0 then (P.2.2 m i).2.2.1 else (P.2.2 m i).2.2.2.1)))), some (.inl (an_rc (cA M1 m).2.1 ((cA M1 m).1 ((if p = 0 then (P.2.2 m i).2.2.1 else (P.2.2 m i).2.2.2.1))))), some (.inl (bI (E.2.2 k p))), none]) rfl ?_
                refine fm_drop 13 (ls1 := [some (.inr (kF m)), some (.inr 1), some (.inr 2), some (.inl (nI m)), some (.inl (nI i)), some (.inl (nI ((P.2.2 m i).2.1))), some (.inl (nI ((P.2.2 m i).2.2.1))), some (.inl (nI ((P.2.2 m i).2.2.2.1))), some (.inl (nI k)), some (.inl (nI (P.2.1 k))), some (.inl (bI b)), some (.inl (nI (p + 1))), none, none, some (.inl (an_rc (cA M1 m).2.1 ((cA M1 m).1 ((if p = 0 then (P.2.2 m i).2.2.1 else (P.2.2 m i).2.2.2.1))))), some (.inl (bI (E.2.2 k p))), none]) rfl ?_
                refine fm_drop 14 (ls1 := [some (.inr (kF m)), some (.inr 1), some (.inr 2), some (.inl (nI m)), some (.inl (nI i)), some (.inl (nI ((P.2.2 m i).2.1))), some (.inl (nI ((P.2.2 m i).2.2.1))), some (.inl (nI ((P.2.2 m i).2.2.2.1))), some (.inl (nI k)), some (.inl (nI (P.2.1 k))), some (.inl (bI b)), some (.inl (nI (p + 1))), none, none, none, some (.inl (bI (E.2.2 k p))), none]) rfl ?_
                refine fm_drop 15 (ls1 := [some (.inr (kF m)), some (.inr 1), some (.inr 2), some (.inl (nI m)), some (.inl (nI i)), some (.inl (nI ((P.2.2 m i).2.1))), some (.inl (nI ((P.2.2 m i).2.2.1))), some (.inl (nI ((P.2.2 m i).2.2.2.1))), some (.inl (nI k)), some (.inl (nI (P.2.1 k))), some (.inl (bI b)), some (.inl (nI (p + 1))), none, none, none, none, none]) rfl ?_
                exact ih (by omega) _ (cS_ca2 hc hr1 h211 c219)
            refine fm_iload hX d_F_applyCall_190 rfl rfl ?_
            refine fm_b1_eq (tgt := 203) (pq := 195) hX d_F_applyCall_192 rfl rfl (fun h192 => ?_) (fun h192 => ?_)
            · show fm_G SC Y_F_applyCall X M (fm_vr (fun M' => cS m M M' (an_cn E (P.2.2 m i).2.1 (P.2.2 m i).2.2.1 (P.2.2 m i).2.2.2.1 (P.2.2 m i).2.2.2.2.toNatClampNeg (E.1 (P.2.2 m i).2.2.2.2.toNatClampNeg) (cA M m)))) 203 [some (.inr (kF m)), some (.inr 1), some (.inr 2), some (.inl (nI m)), some (.inl (nI i)), some (.inl (nI ((P.2.2 m i).2.1))), some (.inl (nI ((P.2.2 m i).2.2.1))), some (.inl (nI ((P.2.2 m i).2.2.2.1))), some (.inl (nI k)), some (.inl (nI (P.2.1 k))), some (.inl (bI b)), some (.inl (nI p)), some (.inl (nI (E.2.1 k p))), some (.inl ((cA M1 m).1 ((if p = 0 then (P.2.2 m i).2.2.1 else (P.2.2 m i).2.2.2.1)))), some (.inl (an_rc (cA M1 m).2.1 ((cA M1 m).1 ((if p = 0 then (P.2.2 m i).2.2.1 else (P.2.2 m i).2.2.2.1))))), some (.inl (bI (E.2.2 k p))), none] [.inl (an_rc (cA M1 m).2.1 ((cA M1 m).1 ((if p = 0 then (P.2.2 m i).2.2.1 else (P.2.2 m i).2.2.2.1)))), .inr (kF m)] M1
              refine fm_iload hX d_F_applyCall_203 rfl rfl ?_
              first | exact L205 _ (if_pos h192).symm | exact L205 _ (if_neg (by rw [h192]; decide)).symm
            · show fm_G SC Y_F_applyCall X M (fm_vr (fun M' => cS m M M' (an_cn E (P.2.2 m i).2.1 (P.2.2 m i).2.2.1 (P.2.2 m i).2.2.2.1 (P.2.2 m i).2.2.2.2.toNatClampNeg (E.1 (P.2.2 m i).2.2.2.2.toNatClampNeg) (cA M m)))) 195 [some (.inr (kF m)), some (.inr 1), some (.inr 2), some (.inl (nI m)), some (.inl (nI i)), some (.inl (nI ((P.2.2 m i).2.1))), some (.inl (nI ((P.2.2 m i).2.2.1))), some (.inl (nI ((P.2.2 m i).2.2.2.1))), some (.inl (nI k)), some (.inl (nI (P.2.1 k))), some (.inl (bI b)), some (.inl (nI p)), some (.inl (nI (E.2.1 k p))), some (.inl ((cA M1 m).1 ((if p = 0 then (P.2.2 m i).2.2.1 else (P.2.2 m i).2.2.2.1)))), some (.inl (an_rc (cA M1 m).2.1 ((cA M1 m).1 ((if p = 0 then (P.2.2 m i).2.2.1 else (P.2.2 m i).2.2.2.1))))), some (.inl (bI (E.2.2 k p))), none] [.inl (an_rc (cA M1 m).2.1 ((cA M1 m).1 ((if p = 0 then (P.2.2 m i).2.2.1 else (P.2.2 m i).2.2.2.1)))), .inr (kF m)] M1
              refine fm_iload hX d_F_applyCall_195 rfl rfl ?_
              refine fm_ldc (v := an_W) hX d_F_applyCall_197 kF_84 rfl ?_
              refine fm_ior (v := (an_rc (cA M1 m).2.1 ((cA M1 m).1 ((if p = 0 then (P.2.2 m i).2.2.1 else (P.2.2 m i).2.2.2.1)))) ||| an_W) hX d_F_applyCall_199 rfl rfl ?_
              refine fm_goto (tgt := 205) hX d_F_applyCall_200 rfl ?_
              first | exact L205 _ (if_pos h192).symm | exact L205 _ (if_neg (by rw [h192]; decide)).symm
          refine fm_iload hX d_F_applyCall_161 rfl rfl ?_
          refine fm_iconst (v := nI 2) hX d_F_applyCall_163 (by decide) rfl ?_
          refine fm_n_eq (tgt := 180) (pq := 167) hX d_F_applyCall_164 rfl rfl (by omega) (by omega) (fun h164 => ?_) (fun h164 => ?_)
          · show fm_G SC Y_F_applyCall X M (fm_vr (fun M' => cS m M M' (an_cn E (P.2.2 m i).2.1 (P.2.2 m i).2.2.1 (P.2.2 m i).2.2.2.1 (P.2.2 m i).2.2.2.2.toNatClampNeg (E.1 (P.2.2 m i).2.2.2.2.toNatClampNeg) (cA M m)))) 180 [some (.inr (kF m)), some (.inr 1), some (.inr 2), some (.inl (nI m)), some (.inl (nI i)), some (.inl (nI ((P.2.2 m i).2.1))), some (.inl (nI ((P.2.2 m i).2.2.1))), some (.inl (nI ((P.2.2 m i).2.2.2.1))), some (.inl (nI k)), some (.inl (nI (P.2.1 k))), some (.inl (bI b)), some (.inl (nI p)), some (.inl (nI (E.2.1 k p))), some (.inl ((cA M1 m).1 ((if p = 0 then (P.2.2 m i).2.2.1 else (P.2.2 m i).2.2.2.1)))), some (.inl (an_rc (cA M1 m).2.1 ((cA M1 m).1 ((if p = 0 then (P.2.2 m i).2.2.1 else (P.2.2 m i).2.2.2.1))))), none, none] [] M1
            refine fm_iconst (v := nI 1) hX d_F_applyCall_180 (by decide) rfl ?_
            refine fm_goto (tgt := 185) hX d_F_applyCall_181 rfl ?_
            first | exact L185 _ (by rw [cE_k2 hE1 hk (by omega) h164]; rfl) | exact L185 _ (by rw [h177]; rfl)
          · show fm_G SC Y_F_applyCall X M (fm_vr (fun M' => cS m M M' (an_cn E (P.2.2 m i).2.1 (P.2.2 m i).2.2.1 (P.2.2 m i).2.2.2.1 (P.2.2 m i).2.2.2.2.toNatClampNeg (E.1 (P.2.2 m i).2.2.2.2.toNatClampNeg) (cA M m)))) 167 [some (.inr (kF m)), some (.inr 1), some (.inr 2), some (.inl (nI m)), some (.inl (nI i)), some (.inl (nI ((P.2.2 m i).2.1))), some (.inl (nI ((P.2.2 m i).2.2.1))), some (.inl (nI ((P.2.2 m i).2.2.2.1))), some (.inl (nI k)), some (.inl (nI (P.2.1 k))), some (.inl (bI b)), some (.inl (nI p)), some (.inl (nI (E.2.1 k p))), some (.inl ((cA M1 m).1 ((if p = 0 then (P.2.2 m i).2.2.1 else (P.2.2 m i).2.2.2.1)))), some (.inl (an_rc (cA M1 m).2.1 ((cA M1 m).1 ((if p = 0 then (P.2.2 m i).2.2.1 else (P.2.2 m i).2.2.2.1))))), none, none] [] M1
            refine fm_aload_n hX d_F_applyCall_167 rfl rfl rfl ?_
            refine fm_iload hX d_F_applyCall_168 rfl rfl ?_
            refine fm_aald (q := kF k) hX rfl (by decide) rfl rfl rfl (by omega) (by decide) (r_F (by omega)) d_F_applyCall_170 rfl ?_
            refine fm_getr (q := kFx k) hX fF_23 (s_F (by omega)) rfl d_F_applyCall_171 rfl ?_
            refine fm_iload hX d_F_applyCall_174 rfl rfl ?_
            refine fm_zald (v := bI (E.2.2 k p)) hX (s_Fx (by omega)) rfl rfl (by omega) (by decide) (cE_x hE1 hk (by omega) h164) d_F_applyCall_176 rfl ?_
            refine fm_b1_eq (tgt := 184) (pq := 180) hX d_F_applyCall_177 rfl rfl (fun h177 => ?_) (fun h177 => ?_)
            · show fm_G SC Y_F_applyCall X M (fm_vr (fun M' => cS m M M' (an_cn E (P.2.2 m i).2.1 (P.2.2 m i).2.2.1 (P.2.2 m i).2.2.2.1 (P.2.2 m i).2.2.2.2.toNatClampNeg (E.1 (P.2.2 m i).2.2.2.2.toNatClampNeg) (cA M m)))) 184 [some (.inr (kF m)), some (.inr 1), some (.inr 2), some (.inl (nI m)), some (.inl (nI i)), some (.inl (nI ((P.2.2 m i).2.1))), some (.inl (nI ((P.2.2 m i).2.2.1))), some (.inl (nI ((P.2.2 m i).2.2.2.1))), some (.inl (nI k)), some (.inl (nI (P.2.1 k))), some (.inl (bI b)), some (.inl (nI p)), some (.inl (nI (E.2.1 k p))), some (.inl ((cA M1 m).1 ((if p = 0 then (P.2.2 m i).2.2.1 else (P.2.2 m i).2.2.2.1)))), some (.inl (an_rc (cA M1 m).2.1 ((cA M1 m).1 ((if p = 0 then (P.2.2 m i).2.2.1 else (P.2.2 m i).2.2.2.1))))), none, none] [] M1
              refine fm_iconst (v := nI 0) hX d_F_applyCall_184 (by decide) rfl ?_
              first | exact L185 _ (by rw [cE_k2 hE1 hk (by omega) h164]; rfl) | exact L185 _ (by rw [h177]; rfl)
            · show fm_G SC Y_F_applyCall X M (fm_vr (fun M' => cS m M M' (an_cn E (P.2.2 m i).2.1 (P.2.2 m i).2.2.1 (P.2.2 m i).2.2.2.1 (P.2.2 m i).2.2.2.2.toNatClampNeg (E.1 (P.2.2 m i).2.2.2.2.toNatClampNeg) (cA M m)))) 180 [some (.inr (kF m)), some (.inr 1), some (.inr 2), some (.inl (nI m)), some (.inl (nI i)), some (.inl (nI ((P.2.2 m i).2.1))), some (.inl (nI ((P.2.2 m i).2.2.1))), some (.inl (nI ((P.2.2 m i).2.2.2.1))), some (.inl (nI k)), some (.inl (nI (P.2.1 k))), some (.inl (bI b)), some (.inl (nI p)), some (.inl (nI (E.2.1 k p))), some (.inl ((cA M1 m).1 ((if p = 0 then (P.2.2 m i).2.2.1 else (P.2.2 m i).2.2.2.1)))), some (.inl (an_rc (cA M1 m).2.1 ((cA M1 m).1 ((if p = 0 then (P.2.2 m i).2.2.1 else (P.2.2 m i).2.2.2.1))))), none, none] [] M1
              refine fm_iconst (v := nI 1) hX d_F_applyCall_180 (by decide) rfl ?_
              refine fm_goto (tgt := 185) hX d_F_applyCall_181 rfl ?_
              first | exact L185 _ (by rw [cE_k2 hE1 hk (by omega) h164]; rfl) | exact L185 _ (by rw [h177]; rfl)
        refine fm_z_ne (tgt := 148) (pq := 143) hX d_F_applyCall_140 rfl rfl (by omega) (fun h140 => ?_) (fun h140 => ?_)
        · show fm_G SC Y_F_applyCall X M (fm_vr (fun M' => cS m M M' (an_cn E (P.2.2 m i).2.1 (P.2.2 m i).2.2.1 (P.2.2 m i).2.2.2.1 (P.2.2 m i).2.2.2.2.toNatClampNeg (E.1 (P.2.2 m i).2.2.2.2.toNatClampNeg) (cA M m)))) 148 [some (.inr (kF m)), some (.inr 1), some (.inr 2), some (.inl (nI m)), some (.inl (nI i)), some (.inl (nI ((P.2.2 m i).2.1))), some (.inl (nI ((P.2.2 m i).2.2.1))), some (.inl (nI ((P.2.2 m i).2.2.2.1))), some (.inl (nI k)), some (.inl (nI (P.2.1 k))), some (.inl (bI b)), some (.inl (nI p)), some (.inl (nI (E.2.1 k p))), none, none, none, none] [.inr (kFm m)] M1
          refine fm_iload hX d_F_applyCall_148 rfl rfl ?_
          first | exact L150 _ (by rw [if_pos h140]) | exact L150 _ (by rw [if_neg h140])
        · show fm_G SC Y_F_applyCall X M (fm_vr (fun M' => cS m M M' (an_cn E (P.2.2 m i).2.1 (P.2.2 m i).2.2.1 (P.2.2 m i).2.2.2.1 (P.2.2 m i).2.2.2.2.toNatClampNeg (E.1 (P.2.2 m i).2.2.2.2.toNatClampNeg) (cA M m)))) 143 [some (.inr (kF m)), some (.inr 1), some (.inr 2), some (.inl (nI m)), some (.inl (nI i)), some (.inl (nI ((P.2.2 m i).2.1))), some (.inl (nI ((P.2.2 m i).2.2.1))), some (.inl (nI ((P.2.2 m i).2.2.2.1))), some (.inl (nI k)), some (.inl (nI (P.2.1 k))), some (.inl (bI b)), some (.inl (nI p)), some (.inl (nI (E.2.1 k p))), none, none, none, none] [.inr (kFm m)] M1
          refine fm_iload hX d_F_applyCall_143 rfl rfl ?_
          refine fm_goto (tgt := 150) hX d_F_applyCall_145 rfl ?_
          first | exact L150 _ (by rw [if_pos h140]) | exact L150 _ (by rw [if_neg h140])
      refine fm_iload hX d_F_applyCall_113 rfl rfl ?_
      refine fm_b1_eq (tgt := 122) (pq := 118) hX d_F_applyCall_115 rfl rfl (fun h115 => ?_) (fun h115 => ?_)
      · show fm_G SC Y_F_applyCall X M (fm_vr (fun M' => cS m M M' (an_cn E (P.2.2 m i).2.1 (P.2.2 m i).2.2.1 (P.2.2 m i).2.2.2.1 (P.2.2 m i).2.2.2.2.toNatClampNeg (E.1 (P.2.2 m i).2.2.2.2.toNatClampNeg) (cA M m)))) 122 [some (.inr (kF m)), some (.inr 1), some (.inr 2), some (.inl (nI m)), some (.inl (nI i)), some (.inl (nI ((P.2.2 m i).2.1))), some (.inl (nI ((P.2.2 m i).2.2.1))), some (.inl (nI ((P.2.2 m i).2.2.2.1))), some (.inl (nI k)), some (.inl (nI (P.2.1 k))), some (.inl (bI b)), some (.inl (nI p)), none, none, none, none, none] [] M1
        have hq : ¬ (k ≤ m ∨ P.1 k = 0) := fun z => absurd (hb.mpr z) (by rw [h115]; decide)
        refine fm_aload_n hX d_F_applyCall_122 rfl rfl rfl ?_
        refine fm_iload hX d_F_applyCall_123 rfl rfl ?_
        refine fm_aald (q := kF k) hX rfl (by decide) rfl rfl rfl (by omega) (by decide) (r_F (by omega)) d_F_applyCall_125 rfl ?_
        refine fm_getr (q := kFs k) hX fF_20 (s_F (by omega)) rfl d_F_applyCall_126 rfl ?_
        refine fm_iload hX d_F_applyCall_129 rfl rfl ?_
        refine fm_iald (v := nI (E.2.1 k p)) hX (s_Fs (by omega)) rfl rfl (by omega) (by decide) (cE_s hE1 hk (by omega) hq) d_F_applyCall_131 rfl ?_
        exact L132 _ rfl
      · show fm_G SC Y_F_applyCall X M (fm_vr (fun M' => cS m M M' (an_cn E (P.2.2 m i).2.1 (P.2.2 m i).2.2.1 (P.2.2 m i).2.2.2.1 (P.2.2 m i).2.2.2.2.toNatClampNeg (E.1 (P.2.2 m i).2.2.2.2.toNatClampNeg) (cA M m)))) 118 [some (.inr (kF m)), some (.inr 1), some (.inr 2), some (.inl (nI m)), some (.inl (nI i)), some (.inl (nI ((P.2.2 m i).2.1))), some (.inl (nI ((P.2.2 m i).2.2.1))), some (.inl (nI ((P.2.2 m i).2.2.2.1))), some (.inl (nI k)), some (.inl (nI (P.2.1 k))), some (.inl (bI b)), some (.inl (nI p)), none, none, none, none, none] [] M1
        refine fm_iconst (v := nI 2) hX d_F_applyCall_118 (by decide) rfl ?_
        refine fm_goto (tgt := 132) hX d_F_applyCall_119 rfl ?_
        exact L132 _ (by rw [(hE.2.1 k p (hb.mp h115)).1])
  show fm_G SC Y_F_applyCall X M (fm_vr (fun M' => cS m M M' (an_cn E (P.2.2 m i).2.1 (P.2.2 m i).2.2.1 (P.2.2 m i).2.2.2.1 (P.2.2 m i).2.2.2.2.toNatClampNeg (E.1 (P.2.2 m i).2.2.2.2.toNatClampNeg) (cA M m)))) 0 [some (.inr (kF m)), some (.inr 1), some (.inr 2), some (.inl (nI m)), some (.inl (nI i)), none, none, none, none, none, none, none, none, none, none, none, none] [] M
  refine fm_aload_n hX d_F_applyCall_0 rfl rfl rfl ?_
  refine fm_iload_n hX d_F_applyCall_1 rfl rfl rfl ?_
  refine fm_aald (q := kC m) hX rfl (by decide) rfl rfl rfl (by omega) (by decide) (r_C (by omega)) d_F_applyCall_2 rfl ?_
  refine fm_getr (q := kCa m 1) hX fF_85 (s_C (by omega)) rfl d_F_applyCall_3 rfl ?_
  refine fm_iload hX d_F_applyCall_6 rfl rfl ?_
  refine fm_iald (v := nI ((P.2.2 m i).2.1)) hX (s_Ca1 (by omega)) rfl rfl (by omega) (by decide) ((hP m (by omega)).2.2 i (by omega)).2.1 d_F_applyCall_8 rfl ?_
  refine fm_istore (ls1 := [some (.inr (kF m)), some (.inr 1), some (.inr 2), some (.inl (nI m)), some (.inl (nI i)), some (.inl (nI ((P.2.2 m i).2.1))), none, none, none, none, none, none, none, none, none, none, none]) hX d_F_applyCall_9 (by decide) rfl rfl ?_
  refine fm_aload_n hX d_F_applyCall_11 rfl rfl rfl ?_
  refine fm_iload_n hX d_F_applyCall_12 rfl rfl rfl ?_
  refine fm_aald (q := kC m) hX rfl (by decide) rfl rfl rfl (by omega) (by decide) (r_C (by omega)) d_F_applyCall_13 rfl ?_
  refine fm_getr (q := kCa m 2) hX fF_88 (s_C (by omega)) rfl d_F_applyCall_14 rfl ?_
  refine fm_iload hX d_F_applyCall_17 rfl rfl ?_
  refine fm_iald (v := nI ((P.2.2 m i).2.2.1)) hX (s_Ca2 (by omega)) rfl rfl (by omega) (by decide) ((hP m (by omega)).2.2 i (by omega)).2.2.1 d_F_applyCall_19 rfl ?_
  refine fm_istore (ls1 := [some (.inr (kF m)), some (.inr 1), some (.inr 2), some (.inl (nI m)), some (.inl (nI i)), some (.inl (nI ((P.2.2 m i).2.1))), some (.inl (nI ((P.2.2 m i).2.2.1))), none, none, none, none, none, none, none, none, none, none]) hX d_F_applyCall_20 (by decide) rfl rfl ?_
  refine fm_aload_n hX d_F_applyCall_22 rfl rfl rfl ?_
  refine fm_iload_n hX d_F_applyCall_23 rfl rfl rfl ?_
  refine fm_aald (q := kC m) hX rfl (by decide) rfl rfl rfl (by omega) (by decide) (r_C (by omega)) d_F_applyCall_24 rfl ?_
  refine fm_getr (q := kCa m 3) hX fF_91 (s_C (by omega)) rfl d_F_applyCall_25 rfl ?_
  refine fm_iload hX d_F_applyCall_28 rfl rfl ?_
  refine fm_iald (v := nI ((P.2.2 m i).2.2.2.1)) hX (s_Ca3 (by omega)) rfl rfl (by omega) (by decide) ((hP m (by omega)).2.2 i (by omega)).2.2.2.1 d_F_applyCall_30 rfl ?_
  refine fm_istore (ls1 := [some (.inr (kF m)), some (.inr 1), some (.inr 2), some (.inl (nI m)), some (.inl (nI i)), some (.inl (nI ((P.2.2 m i).2.1))), some (.inl (nI ((P.2.2 m i).2.2.1))), some (.inl (nI ((P.2.2 m i).2.2.2.1))), none, none, none, none, none, none, none, none, none]) hX d_F_applyCall_31 (by decide) rfl rfl ?_
  refine fm_aload_n hX d_F_applyCall_33 rfl rfl rfl ?_
  refine fm_iload_n hX d_F_applyCall_34 rfl rfl rfl ?_
  refine fm_aald (q := kC m) hX rfl (by decide) rfl rfl rfl (by omega) (by decide) (r_C (by omega)) d_F_applyCall_35 rfl ?_
  refine fm_getr (q := kCa m 4) hX fF_102 (s_C (by omega)) rfl d_F_applyCall_36 rfl ?_
  refine fm_iload hX d_F_applyCall_39 rfl rfl ?_
  refine fm_iald (v := nI k) hX (s_Ca4 (by omega)) rfl rfl (by omega) (by decide) (((hP m (by omega)).2.2 i (by omega)).2.2.2.2.trans hn) d_F_applyCall_41 rfl ?_
  refine fm_istore (ls1 := [some (.inr (kF m)), some (.inr 1), some (.inr 2), some (.inl (nI m)), some (.inl (nI i)), some (.inl (nI ((P.2.2 m i).2.1))), some (.inl (nI ((P.2.2 m i).2.2.1))), some (.inl (nI ((P.2.2 m i).2.2.2.1))), some (.inl (nI k)), none, none, none, none, none, none, none, none]) hX d_F_applyCall_42 (by decide) rfl rfl ?_
  refine fm_aload_n hX d_F_applyCall_44 rfl rfl rfl ?_
  refine fm_iload hX d_F_applyCall_45 rfl rfl ?_
  refine fm_aald (q := kC k) hX rfl (by decide) rfl rfl rfl (by omega) (by decide) (r_C (by omega)) d_F_applyCall_47 rfl ?_
  refine fm_geti (v := nI (P.2.1 k)) hX fF_49 (s_C (by omega)) rfl (hP k (by omega)).2.1 d_F_applyCall_48 rfl ?_
  refine fm_istore (ls1 := [some (.inr (kF m)), some (.inr 1), some (.inr 2), some (.inl (nI m)), some (.inl (nI i)), some (.inl (nI ((P.2.2 m i).2.1))), some (.inl (nI ((P.2.2 m i).2.2.1))), some (.inl (nI ((P.2.2 m i).2.2.2.1))), some (.inl (nI k)), some (.inl (nI (P.2.1 k))), none, none, none, none, none, none, none]) hX d_F_applyCall_51 (by decide) rfl rfl ?_
  have L74 : ∀ b : Bool, (b = true ↔ (k ≤ m ∨ P.1 k = 0)) → fm_G SC Y_F_applyCall X M (fm_vr (fun M' => cS m M M' (an_cn E (P.2.2 m i).2.1 (P.2.2 m i).2.2.1 (P.2.2 m i).2.2.2.1 (P.2.2 m i).2.2.2.2.toNatClampNeg (E.1 (P.2.2 m i).2.2.2.2.toNatClampNeg) (cA M m)))) 74 [some (.inr (kF m)), some (.inr 1), some (.inr 2), some (.inl (nI m)), some (.inl (nI i)), some (.inl (nI ((P.2.2 m i).2.1))), some (.inl (nI ((P.2.2 m i).2.2.1))), some (.inl (nI ((P.2.2 m i).2.2.2.1))), some (.inl (nI k)), some (.inl (nI (P.2.1 k))), none, none, none, none, none, none, none] [.inl (bI b)] M := by
    intro b hb
    refine fm_istore (ls1 := [some (.inr (kF m)), some (.inr 1), some (.inr 2), some (.inl (nI m)), some (.inl (nI i)), some (.inl (nI ((P.2.2 m i).2.1))), some (.inl (nI ((P.2.2 m i).2.2.1))), some (.inl (nI ((P.2.2 m i).2.2.2.1))), some (.inl (nI k)), some (.inl (nI (P.2.1 k))), some (.inl (bI b)), none, none, none, none, none, none]) hX d_F_applyCall_74 (by decide) rfl rfl ?_
    refine fm_aload_n hX d_F_applyCall_76 rfl rfl rfl ?_
    refine fm_aload_n hX d_F_applyCall_77 rfl rfl rfl ?_
    refine fm_ldc (v := an_W) hX d_F_applyCall_78 kF_84 rfl ?_
    refine fm_callV_i (as := [.inl an_W]) (st := [.inr (kF m)]) (pq := 83) hX (s_F (by omega)) rfl cF_105 rfl im_F_reached se_F_reached (k_F_reached (by omega) M an_W) rfl rfl (Nat.le_of_ble_eq_true rfl) (Nat.le_of_ble_eq_true rfl) d_F_applyCall_80 rfl ?_
    refine fm_ldc (v := an_W) hX d_F_applyCall_83 kF_84 rfl ?_
    refine fm_callV_r (as := [.inl (an_rc (cA M m).2.1 an_W), .inl an_W]) (st := []) (pq := 88) hX (s_F (by omega)) rfl cF_81 rfl im_F_holdInBoth se_F_holdInBoth (k_F_holdInBoth (by omega) M (an_rc (cA M m).2.1 an_W) an_W) rfl rfl (Nat.le_of_ble_eq_true rfl) (Nat.le_of_ble_eq_true rfl) d_F_applyCall_85 rfl (fun M85 c85 => ?_)
    have hP85 := cS_P hm c85 hP
    refine fm_aload_n hX d_F_applyCall_88 rfl rfl rfl ?_
    refine fm_iload hX d_F_applyCall_89 rfl rfl ?_
    refine fm_aload_n hX d_F_applyCall_91 rfl rfl rfl ?_
    refine fm_getr (q := kFh m) hX fF_17 (s_F (by omega)) rfl d_F_applyCall_92 rfl ?_
    refine fm_iconst (v := nI 0) hX d_F_applyCall_95 (by decide) rfl ?_
    refine fm_aald (q := kFr m 0) hX (s_Fh (by omega)) (by decide) rfl rfl rfl (by omega) (by decide) (r_Fr (by omega)) d_F_applyCall_96 rfl ?_
    refine fm_bipush (v := nI 26) hX d_F_applyCall_97 (by decide) rfl ?_
    refine fm_iald (v := (cA M85 m).2.1 26 0) hX (s_Fr (by omega) (by omega)) rfl rfl (by omega) (by decide) (cA_h (by omega) (by omega)).symm d_F_applyCall_99 rfl ?_
    refine fm_callV_r (as := [.inl (nI ((P.2.2 m i).2.1)), .inl ((cA M85 m).2.1 26 0)]) (st := []) (pq := 103) hX (s_F (by omega)) rfl cF_77 rfl im_F_refer se_F_refer (k_F_refer (by omega) M85 (r := (P.2.2 m i).2.1) (by omega) ((cA M85 m).2.1 26 0)) rfl rfl (Nat.le_of_ble_eq_true rfl) (Nat.le_of_ble_eq_true rfl) d_F_applyCall_100 rfl (fun M100 c100 => ?_)
    have hP100 := cS_P hm c100 hP85
    refine fm_iconst (v := nI 0) hX d_F_applyCall_103 (by decide) rfl ?_
    refine fm_istore (ls1 := [some (.inr (kF m)), some (.inr 1), some (.inr 2), some (.inl (nI m)), some (.inl (nI i)), some (.inl (nI ((P.2.2 m i).2.1))), some (.inl (nI ((P.2.2 m i).2.2.1))), some (.inl (nI ((P.2.2 m i).2.2.2.1))), some (.inl (nI k)), some (.inl (nI (P.2.1 k))), some (.inl (bI b)), some (.inl (nI 0)), none, none, none, none, none]) hX d_F_applyCall_104 (by decide) rfl rfl ?_
    exact L106 b hb 0 (by omega) M100 (cS_eq (cS_tr c85 c100) (by rw [c85.1]; rfl))
  refine fm_iload hX d_F_applyCall_53 rfl rfl ?_
  refine fm_iload_n hX d_F_applyCall_55 rfl rfl rfl ?_
  refine fm_n_le (tgt := 69) (pq := 59) hX d_F_applyCall_56 rfl rfl (by omega) (by omega) (fun h56 => ?_) (fun h56 => ?_)
  · show fm_G SC Y_F_applyCall X M (fm_vr (fun M' => cS m M M' (an_cn E (P.2.2 m i).2.1 (P.2.2 m i).2.2.1 (P.2.2 m i).2.2.2.1 (P.2.2 m i).2.2.2.2.toNatClampNeg (E.1 (P.2.2 m i).2.2.2.2.toNatClampNeg) (cA M m)))) 69 [some (.inr (kF m)), some (.inr 1), some (.inr 2), some (.inl (nI m)), some (.inl (nI i)), some (.inl (nI ((P.2.2 m i).2.1))), some (.inl (nI ((P.2.2 m i).2.2.1))), some (.inl (nI ((P.2.2 m i).2.2.2.1))), some (.inl (nI k)), some (.inl (nI (P.2.1 k))), none, none, none, none, none, none, none] [] M
    refine fm_iconst (v := nI 1) hX d_F_applyCall_69 (by decide) rfl ?_
    refine fm_goto (tgt := 74) hX d_F_applyCall_70 rfl ?_
    first | exact L74 true ⟨fun _ => by omega, fun _ => rfl⟩ | exact L74 false ⟨fun z => absurd z (by decide), fun z => absurd z (by omega)⟩
  · show fm_G SC Y_F_applyCall X M (fm_vr (fun M' => cS m M M' (an_cn E (P.2.2 m i).2.1 (P.2.2 m i).2.2.1 (P.2.2 m i).2.2.2.1 (P.2.2 m i).2.2.2.2.toNatClampNeg (E.1 (P.2.2 m i).2.2.2.2.toNatClampNeg) (cA M m)))) 59 [some (.inr (kF m)), some (.inr 1), some (.inr 2), some (.inl (nI m)), some (.inl (nI i)), some (.inl (nI ((P.2.2 m i).2.1))), some (.inl (nI ((P.2.2 m i).2.2.1))), some (.inl (nI ((P.2.2 m i).2.2.2.1))), some (.inl (nI k)), some (.inl (nI (P.2.1 k))), none, none, none, none, none, none, none] [] M
    refine fm_aload_n hX d_F_applyCall_59 rfl rfl rfl ?_
    refine fm_iload hX d_F_applyCall_60 rfl rfl ?_
    refine fm_aald (q := kC k) hX rfl (by decide) rfl rfl rfl (by omega) (by decide) (r_C (by omega)) d_F_applyCall_62 rfl ?_
    refine fm_geti (v := nI (P.1 k)) hX fF_44 (s_C (by omega)) rfl (hP k (by omega)).1 d_F_applyCall_63 rfl ?_
    refine fm_z_ne (tgt := 73) (pq := 69) hX d_F_applyCall_66 rfl rfl (by omega) (fun h66 => ?_) (fun h66 => ?_)
    · show fm_G SC Y_F_applyCall X M (fm_vr (fun M' => cS m M M' (an_cn E (P.2.2 m i).2.1 (P.2.2 m i).2.2.1 (P.2.2 m i).2.2.2.1 (P.2.2 m i).2.2.2.2.toNatClampNeg (E.1 (P.2.2 m i).2.2.2.2.toNatClampNeg) (cA M m)))) 73 [some (.inr (kF m)), some (.inr 1), some (.inr 2), some (.inl (nI m)), some (.inl (nI i)), some (.inl (nI ((P.2.2 m i).2.1))), some (.inl (nI ((P.2.2 m i).2.2.1))), some (.inl (nI ((P.2.2 m i).2.2.2.1))), some (.inl (nI k)), some (.inl (nI (P.2.1 k))), none, none, none, none, none, none, none] [] M
      refine fm_iconst (v := nI 0) hX d_F_applyCall_73 (by decide) rfl ?_
      first | exact L74 true ⟨fun _ => by omega, fun _ => rfl⟩ | exact L74 false ⟨fun z => absurd z (by decide), fun z => absurd z (by omega)⟩
    · show fm_G SC Y_F_applyCall X M (fm_vr (fun M' => cS m M M' (an_cn E (P.2.2 m i).2.1 (P.2.2 m i).2.2.1 (P.2.2 m i).2.2.2.1 (P.2.2 m i).2.2.2.2.toNatClampNeg (E.1 (P.2.2 m i).2.2.2.2.toNatClampNeg) (cA M m)))) 69 [some (.inr (kF m)), some (.inr 1), some (.inr 2), some (.inl (nI m)), some (.inl (nI i)), some (.inl (nI ((P.2.2 m i).2.1))), some (.inl (nI ((P.2.2 m i).2.2.1))), some (.inl (nI ((P.2.2 m i).2.2.2.1))), some (.inl (nI k)), some (.inl (nI (P.2.1 k))), none, none, none, none, none, none, none] [] M
      refine fm_iconst (v := nI 1) hX d_F_applyCall_69 (by decide) rfl ?_
      refine fm_goto (tgt := 74) hX d_F_applyCall_70 rfl ?_
      first | exact L74 true ⟨fun _ => by omega, fun _ => rfl⟩ | exact L74 false ⟨fun z => absurd z (by decide), fun z => absurd z (by omega)⟩
