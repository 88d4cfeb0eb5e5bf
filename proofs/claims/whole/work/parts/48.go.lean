/-! Machine.go (written by program) -/
section CGO
variable {P : pr_T} {M M1 M3 : fm_M} {F : Nat → Nat → Int32} {t r q t0 i dn md sh : Nat}
theorem cm_go_l (e1 : M1 = cm_it P F t (cm_begin M)) (hr : M1 4 9 = nI r) (h8 : r ≤ 8) (hq : M1 9 (r - 1) = nI q) (hq5 : q < 5) (ht : M1 11 (r - 1) = nI t0) (ht4 : t0 < 4) (h : ¬ (0 ≤ M1 10 (r - 1) ∧ M1 10 (r - 1) < nI (P.1 q))) {hlv : cm_live (cm_it P F t (cm_begin M))} : cm_leave M1 r t0 (nI 0) = cm_it P F (t + 1) (cm_begin M) := by
  show _ = cm_turn P F (cm_it P F t (cm_begin M))
  rw [← e1, cm_turn_at hr h8 hq hq5]
  unfold cm_tr
  rw [if_neg h, ht, cm_n_nI (by omega)]
theorem cm_go_f (e1 : M1 = cm_it P F t (cm_begin M)) (hr : M1 4 9 = nI r) (h8 : r ≤ 8) (hq : M1 9 (r - 1) = nI q) (hq5 : q < 5) (hi : i < P.1 q) (ei : M1 10 (r - 1) = nI i) (hdn : M1 4 13 = nI dn) (h : 400 ≤ dn ∧ dn ≤ 400) {hp : P.1 q ≤ 24} : fm_up M1 4 11 (nI 4) = cm_it P F (t + 1) (cm_begin M) := by
  show _ = cm_turn P F (cm_it P F t (cm_begin M))
  rw [← e1, cm_turn_at hr h8 hq hq5]
  unfold cm_tr
  rw [if_pos (by rw [ei]; exact ⟨nI_pos' (by omega), nI_lt hi (by omega)⟩), hdn, cm_n_nI (by omega), if_neg (by omega)]
theorem cm_go_p {ft : Int32} {cs : Nat → Nat} (e1 : M1 = cm_it P F t (cm_begin M)) (hr : M1 4 9 = nI r) (h8 : r ≤ 8) (hq : M1 9 (r - 1) = nI q) (hq5 : q < 5) (ht : M1 11 (r - 1) = nI t0) (ht4 : t0 < 4) (hi : i < P.1 q) (ei : M1 10 (r - 1) = nI i) (hdn : M1 4 13 = nI dn) (h : dn < 400) (hmd : M1 4 14 = nI md) (hm4 : md ≤ 400) (hsh : M1 4 12 = nI sh) (hs4 : sh ≤ 400)
    (hcs : ∀ v, v < 4 → M1 12 ((r - 1) * 4 + v) = nI (cs v) ∧ cs v < 433) (hM3 : fm_up (fm_up M1 4 13 (nI (dn + 1))) 10 (r - 1) (nI (i + 1)) = M3) (hft : ft = F q i) {hw : pr_wf P} :
    cm_per P M3 r md sh t0 (P.2.2 q i).2.2.2.2.toNatClampNeg (if (P.2.2 q i).1 = 3 ∨ (P.2.2 q i).1 = 5 then cs (P.2.2 q i).2.2.1 else cs (P.2.2 q i).2.1) (P.2.2 q i) ft = cm_it P F (t + 1) (cm_begin M) := by
  have w := (hw q hq5).2.2 i hi
  have wl := (hw q hq5).1
  show _ = cm_turn P F (cm_it P F t (cm_begin M))
  rw [← e1, cm_turn_at hr h8 hq hq5]
  unfold cm_tr
  have hpos : 0 ≤ M1 10 (r - 1) ∧ M1 10 (r - 1) < nI (P.1 q) := by rw [ei]; exact ⟨nI_pos' (by omega), nI_lt hi (by omega)⟩
  rw [if_pos hpos]
  unfold cm_do
  have e2 := hcs _ w.2.2.1
  have e3 := hcs _ w.2.1
  rw [ei, hdn, hmd, hsh, ht, cm_n_nI (by omega), cm_n_nI (by omega), cm_n_nI (by omega), cm_n_nI (by omega), cm_n_nI (by omega), if_pos h, e2.1, e3.1, cm_n_nI (by omega), cm_n_nI (by omega), hM3, hft]
end CGO
abbrev Y_M_go : fm_Y := ("EscapeMill$Machine", b_M_go, 8, (some .int), 5)
set_option maxRecDepth 100000 in
set_option maxHeartbeats 4000000 in
theorem k_M_go {P : pr_T} (M : fm_M) (hP : cP M P) (hw : pr_wf P) (ml : Bool) (F : Nat → Nat → Int32) (hF : ∀ m i, m < 5 → i < P.1 m → F m i = if ml = true then M (kPf m) i else 0) (hV : ∀ t, (∀ u, u < t → cm_live (cm_it P F u (cm_begin M))) → cV (cm_it P F t (cm_begin M))) : fm_ct SC y_M_go b_M_go 8 (some .int) 5 [.inr 4, .inr 1, .inr 3, .inl (bI ml)] M (fm_ir (fun v M' => ∃ T, T ≤ 802 ∧ M' = cm_it P F T (cm_begin M) ∧ (∀ u, u < T → cm_live (cm_it P F u (cm_begin M))) ∧ (T = 802 ∨ ¬ cm_live M') ∧ v = M' 4 11)) := by
  refine fm_of (ls := [some (.inr 4), some (.inr 1), some (.inr 3), some (.inl (bI ml)), none, none, none, none]) (by decide) wsA_good (Nat.le_of_ble_eq_true rfl) rfl (fun X hX => ?_)
  have L7 : ∀ t, t ≤ 802 → ∀ M1, M1 = cm_it P F t (cm_begin M) → (∀ u, u < t → cm_live (cm_it P F u (cm_begin M))) → fm_G SC Y_M_go X M (fm_ir (fun v M' => ∃ T, T ≤ 802 ∧ M' = cm_it P F T (cm_begin M) ∧ (∀ u, u < T → cm_live (cm_it P F u (cm_begin M))) ∧ (T = 802 ∨ ¬ cm_live M') ∧ v = M' 4 11)) 7 [some (.inr 4), some (.inr 1), some (.inr 3), some (.inl (bI ml)), some (.inl (nI t)), none, none, none] [] M1 := by
    refine fm_ind 802 (fun t hle ih => ?_)
    intro M1 e1 hl
    obtain ⟨r, md, sh, dn, hr, h8, hdn, hd4, hmd, hm4, hsh, hs4, hV1⟩ := e1 ▸ hV t hl
    have hP1 : cP M1 P := cP_m hP (fun a j h => by rw [e1]; exact (cm_it_o h t).trans (cm_begin_o h))
    refine fm_iload (pq := 9) hX d_M_go_7 rfl rfl ?_
    refine fm_sipush (pq := 12) (v := nI 802) hX d_M_go_9 (by decide) rfl ?_
    refine fm_n_ge (tgt := 147) (pq := 15) hX d_M_go_12 rfl rfl (by omega) (by omega) (fun h12 => ?_) (fun h12 => ?_)
    · show fm_G SC Y_M_go X M (fm_ir (fun v M' => ∃ T, T ≤ 802 ∧ M' = cm_it P F T (cm_begin M) ∧ (∀ u, u < T → cm_live (cm_it P F u (cm_begin M))) ∧ (T = 802 ∨ ¬ cm_live M') ∧ v = M' 4 11)) 147 [some (.inr 4), some (.inr 1), some (.inr 3), some (.inl (bI ml)), some (.inl (nI t)), none, none, none] [] M1
      refine fm_aload_n (pq := 148) hX d_M_go_147 rfl rfl rfl ?_
      refine fm_geti (pq := 151) (v := M1 4 11) hX fM_46 rfl rfl rfl d_M_go_148 rfl ?_
      refine fm_iret hX rfl d_M_go_151 ?_
      exact ⟨_, rfl, t, hle, e1, hl, by
        first
        | exact Or.inl (by omega)
        | exact Or.inr (fun z => by have := z.1; rw [hr, show r = 0 by omega] at this; exact absurd this (by decide))
        | exact Or.inr (fun z => h26 z.2), rfl⟩
    · show fm_G SC Y_M_go X M (fm_ir (fun v M' => ∃ T, T ≤ 802 ∧ M' = cm_it P F T (cm_begin M) ∧ (∀ u, u < T → cm_live (cm_it P F u (cm_begin M))) ∧ (T = 802 ∨ ¬ cm_live M') ∧ v = M' 4 11)) 15 [some (.inr 4), some (.inr 1), some (.inr 3), some (.inl (bI ml)), some (.inl (nI t)), none, none, none] [] M1
      refine fm_aload_n (pq := 16) hX d_M_go_15 rfl rfl rfl ?_
      refine fm_geti (pq := 19) (v := nI r) hX fM_39 rfl rfl hr d_M_go_16 rfl ?_
      refine fm_z_le (tgt := 147) (pq := 22) hX d_M_go_19 rfl rfl (by omega) (fun h19 => ?_) (fun h19 => ?_)
      · show fm_G SC Y_M_go X M (fm_ir (fun v M' => ∃ T, T ≤ 802 ∧ M' = cm_it P F T (cm_begin M) ∧ (∀ u, u < T → cm_live (cm_it P F u (cm_begin M))) ∧ (T = 802 ∨ ¬ cm_live M') ∧ v = M' 4 11)) 147 [some (.inr 4), some (.inr 1), some (.inr 3), some (.inl (bI ml)), some (.inl (nI t)), none, none, none] [] M1
        refine fm_aload_n (pq := 148) hX d_M_go_147 rfl rfl rfl ?_
        refine fm_geti (pq := 151) (v := M1 4 11) hX fM_46 rfl rfl rfl d_M_go_148 rfl ?_
        refine fm_iret hX rfl d_M_go_151 ?_
        exact ⟨_, rfl, t, hle, e1, hl, by
          first
          | exact Or.inl (by omega)
          | exact Or.inr (fun z => by have := z.1; rw [hr, show r = 0 by omega] at this; exact absurd this (by decide))
          | exact Or.inr (fun z => h26 z.2), rfl⟩
      · show fm_G SC Y_M_go X M (fm_ir (fun v M' => ∃ T, T ≤ 802 ∧ M' = cm_it P F T (cm_begin M) ∧ (∀ u, u < T → cm_live (cm_it P F u (cm_begin M))) ∧ (T = 802 ∨ ¬ cm_live M') ∧ v = M' 4 11)) 22 [some (.inr 4), some (.inr 1), some (.inr 3), some (.inl (bI ml)), some (.inl (nI t)), none, none, none] [] M1
        refine fm_aload_n (pq := 23) hX d_M_go_22 rfl rfl rfl ?_
        refine fm_geti (pq := 26) (v := M1 4 11) hX fM_46 rfl rfl rfl d_M_go_23 rfl ?_
        refine fm_if_ne (tgt := 147) (pq := 29) hX d_M_go_26 rfl rfl (fun h26 => ?_) (fun h26 => ?_)
        · show fm_G SC Y_M_go X M (fm_ir (fun v M' => ∃ T, T ≤ 802 ∧ M' = cm_it P F T (cm_begin M) ∧ (∀ u, u < T → cm_live (cm_it P F u (cm_begin M))) ∧ (T = 802 ∨ ¬ cm_live M') ∧ v = M' 4 11)) 147 [some (.inr 4), some (.inr 1), some (.inr 3), some (.inl (bI ml)), some (.inl (nI t)), none, none, none] [] M1
          refine fm_aload_n (pq := 148) hX d_M_go_147 rfl rfl rfl ?_
          refine fm_geti (pq := 151) (v := M1 4 11) hX fM_46 rfl rfl rfl d_M_go_148 rfl ?_
          refine fm_iret hX rfl d_M_go_151 ?_
          exact ⟨_, rfl, t, hle, e1, hl, by
            first
            | exact Or.inl (by omega)
            | exact Or.inr (fun z => by have := z.1; rw [hr, show r = 0 by omega] at this; exact absurd this (by decide))
            | exact Or.inr (fun z => h26 z.2), rfl⟩
        · show fm_G SC Y_M_go X M (fm_ir (fun v M' => ∃ T, T ≤ 802 ∧ M' = cm_it P F T (cm_begin M) ∧ (∀ u, u < T → cm_live (cm_it P F u (cm_begin M))) ∧ (T = 802 ∨ ¬ cm_live M') ∧ v = M' 4 11)) 29 [some (.inr 4), some (.inr 1), some (.inr 3), some (.inl (bI ml)), some (.inl (nI t)), none, none, none] [] M1
          obtain ⟨⟨q, hq5, hq⟩, ⟨t0, ht4, ht⟩, cs, hcs⟩ := hV1 (by omega)
          have wq := (hw q hq5).1
          have hlv : cm_live (cm_it P F t (cm_begin M)) := by
            rw [← e1]
            exact ⟨by rw [hr, ← nI_0]; exact nI_lt (by omega) (by omega), h26⟩
          refine fm_aload_n (pq := 30) hX d_M_go_29 rfl rfl rfl ?_
          refine fm_geti (pq := 33) (v := nI r) hX fM_39 rfl rfl hr d_M_go_30 rfl ?_
          refine fm_iconst (pq := 34) (v := nI 1) hX d_M_go_33 (by decide) rfl ?_
          refine fm_isub (pq := 35) (v := nI (r - 1)) hX d_M_go_34 (pk_sub (by omega)) rfl ?_
          refine fm_istore (pq := 37) (ls1 := [some (.inr 4), some (.inr 1), some (.inr 3), some (.inl (bI ml)), some (.inl (nI t)), some (.inl (nI (r - 1))), none, none]) hX d_M_go_35 (by decide) rfl rfl ?_
          refine fm_aload_n (pq := 38) hX d_M_go_37 rfl rfl rfl ?_
          refine fm_getr (pq := 41) (q := 9) hX fM_24 rfl rfl d_M_go_38 rfl ?_
          refine fm_iload (pq := 43) hX d_M_go_41 rfl rfl ?_
          refine fm_iald (pq := 44) (v := nI q) hX rfl rfl rfl (by omega) (by decide) hq d_M_go_43 rfl ?_
          refine fm_istore (pq := 46) (ls1 := [some (.inr 4), some (.inr 1), some (.inr 3), some (.inl (bI ml)), some (.inl (nI t)), some (.inl (nI (r - 1))), some (.inl (nI q)), none]) hX d_M_go_44 (by decide) rfl rfl ?_
          refine fm_aload_n (pq := 47) hX d_M_go_46 rfl rfl rfl ?_
          refine fm_getr (pq := 50) (q := 10) hX fM_27 rfl rfl d_M_go_47 rfl ?_
          refine fm_iload (pq := 52) hX d_M_go_50 rfl rfl ?_
          refine fm_iald (pq := 53) (v := M1 10 (r - 1)) hX rfl rfl rfl (by omega) (by decide) rfl d_M_go_52 rfl ?_
          refine fm_istore (pq := 55) (ls1 := [some (.inr 4), some (.inr 1), some (.inr 3), some (.inl (bI ml)), some (.inl (nI t)), some (.inl (nI (r - 1))), some (.inl (nI q)), some (.inl (M1 10 (r - 1)))]) hX d_M_go_53 (by decide) rfl rfl ?_
          refine fm_aload_n (pq := 56) hX d_M_go_55 rfl rfl rfl ?_
          refine fm_iload (pq := 58) hX d_M_go_56 rfl rfl ?_
          refine fm_aald (pq := 59) (q := kC q) hX rfl (by decide) rfl rfl rfl (by omega) (by decide) (r_C (by omega)) d_M_go_58 rfl ?_
          refine fm_iload (pq := 61) hX d_M_go_59 rfl rfl ?_
          refine fm_callV_i (as := [.inl (M1 10 (r - 1))]) (st := []) (pq := 64) hX (s_C (by omega)) rfl cM_64 rfl im_C_has se_C_has (k_C_has (by omega) M1 hP1 hw (M1 10 (r - 1))) rfl rfl (Nat.le_of_ble_eq_true rfl) (Nat.le_of_ble_eq_true rfl) d_M_go_61 rfl ?_
          refine fm_p1_ne (tgt := 75) (pq := 67) hX d_M_go_64 rfl rfl (fun h64 => ?_) (fun h64 => ?_)
          · show fm_G SC Y_M_go X M (fm_ir (fun v M' => ∃ T, T ≤ 802 ∧ M' = cm_it P F T (cm_begin M) ∧ (∀ u, u < T → cm_live (cm_it P F u (cm_begin M))) ∧ (T = 802 ∨ ¬ cm_live M') ∧ v = M' 4 11)) 75 [some (.inr 4), some (.inr 1), some (.inr 3), some (.inl (bI ml)), some (.inl (nI t)), some (.inl (nI (r - 1))), some (.inl (nI q)), some (.inl (M1 10 (r - 1)))] [] M1
            obtain ⟨i, hi, ei⟩ := cm_ix wq h64
            rw [ei]
            refine fm_aload_n (pq := 76) hX d_M_go_75 rfl rfl rfl ?_
            refine fm_geti (pq := 79) (v := nI dn) hX fM_52 rfl rfl hdn d_M_go_76 rfl ?_
            refine fm_sipush (pq := 82) (v := nI 400) hX d_M_go_79 (by decide) rfl ?_
            refine fm_n_lt (tgt := 93) (pq := 85) hX d_M_go_82 rfl rfl (by omega) (by omega) (fun h82 => ?_) (fun h82 => ?_)
            · show fm_G SC Y_M_go X M (fm_ir (fun v M' => ∃ T, T ≤ 802 ∧ M' = cm_it P F T (cm_begin M) ∧ (∀ u, u < T → cm_live (cm_it P F u (cm_begin M))) ∧ (T = 802 ∨ ¬ cm_live M') ∧ v = M' 4 11)) 93 [some (.inr 4), some (.inr 1), some (.inr 3), some (.inl (bI ml)), some (.inl (nI t)), some (.inl (nI (r - 1))), some (.inl (nI q)), some (.inl (nI i))] [] M1
              refine fm_aload_n (pq := 94) hX d_M_go_93 rfl rfl rfl ?_
              refine fm_dup (pq := 95) hX d_M_go_94 rfl ?_
              refine fm_geti (pq := 98) (v := nI dn) hX fM_52 rfl rfl hdn d_M_go_95 rfl ?_
              refine fm_iconst (pq := 99) (v := nI 1) hX d_M_go_98 (by decide) rfl ?_
              refine fm_iadd (pq := 100) (v := nI (dn + 1)) hX d_M_go_99 (nI_add _ _) rfl ?_
              refine fm_puti (pq := 103) hX fM_52 pM_13 rfl rfl rfl rfl d_M_go_100 rfl ?_
              refine fm_aload_n (pq := 104) hX d_M_go_103 rfl rfl rfl ?_
              refine fm_getr (pq := 107) (q := 10) hX fM_27 rfl rfl d_M_go_104 rfl ?_
              refine fm_iload (pq := 109) hX d_M_go_107 rfl rfl ?_
              refine fm_iload (pq := 111) hX d_M_go_109 rfl rfl ?_
              refine fm_iconst (pq := 112) (v := nI 1) hX d_M_go_111 (by decide) rfl ?_
              refine fm_iadd (pq := 113) (v := nI (i + 1)) hX d_M_go_112 (nI_add _ _) rfl ?_
              refine fm_iast (pq := 114) hX rfl rfl rfl (by omega) (by decide) d_M_go_113 rfl ?_
              generalize hM3 : fm_up (fm_up M1 4 13 (nI (dn + 1))) 10 (r - 1) (nI (i + 1)) = M3
              have hP3 : cP M3 P := cP_m hP (fun a j h => by rw [← hM3, fm_up_a (by omega), fm_up_a (by omega), e1]; exact (cm_it_o h t).trans (cm_begin_o h))
              have hr3 : M3 4 9 = nI r := by rw [← hM3, fm_up_a (by decide), fm_up_b (by decide)]; exact hr
              have hmd3 : M3 4 14 = nI md := by rw [← hM3, fm_up_a (by decide), fm_up_b (by decide)]; exact hmd
              have hsh3 : M3 4 12 = nI sh := by rw [← hM3, fm_up_a (by decide), fm_up_b (by decide)]; exact hsh
              have ht3 : 2 ≤ r → M3 11 (r - 1) = nI t0 := fun _ => by rw [← hM3, fm_up_a (by decide), fm_up_a (by decide)]; exact ht
              have hcs3 : ∀ v, v < 4 → M3 12 ((r - 1) * 4 + v) = nI (cs v) ∧ cs v < 433 := fun v hv => by rw [← hM3, fm_up_a (by decide), fm_up_a (by decide)]; exact hcs v hv
              have hf3 : ∀ a j, 15 ≤ a → M3 a j = M a j := fun a j h => by rw [← hM3, fm_up_a (by omega), fm_up_a (by omega), e1]; exact (cm_it_o h t).trans (cm_begin_o h)
              refine fm_aload_n (pq := 115) hX d_M_go_114 rfl rfl rfl ?_
              refine fm_aload_n (pq := 116) hX d_M_go_115 rfl rfl rfl ?_
              refine fm_iload (pq := 118) hX d_M_go_116 rfl rfl ?_
              refine fm_iload (pq := 120) hX d_M_go_118 rfl rfl ?_
              have L138 : ∀ ft : Int32, ft = F q i → fm_G SC Y_M_go X M (fm_ir (fun v M' => ∃ T, T ≤ 802 ∧ M' = cm_it P F T (cm_begin M) ∧ (∀ u, u < T → cm_live (cm_it P F u (cm_begin M))) ∧ (T = 802 ∨ ¬ cm_live M') ∧ v = M' 4 11)) 138 [some (.inr 4), some (.inr 1), some (.inr 3), some (.inl (bI ml)), some (.inl (nI t)), some (.inl (nI (r - 1))), some (.inl (nI q)), some (.inl (nI i))] [.inl ft, .inl (nI i), .inl (nI q), .inr 1, .inr 4] M3 := by
                intro ft hft
                refine fm_callV_v (as := [.inr 1, .inl (nI q), .inl (nI i), .inl ft]) (st := []) (pq := 141) hX rfl rfl cM_79 rfl im_M_perform se_M_perform (k_M_perform (P := P) (m := q) (i := i) hq5 hi M3 hP3 hw (r := r) hr3 (by omega) (by omega) (md := md) (sh := sh) (t := t0) hmd3 (by omega) hsh3 (by omega) ht4 ht3 cs hcs3 ft) rfl rfl (Nat.le_of_ble_eq_true rfl) (Nat.le_of_ble_eq_true rfl) d_M_go_138 rfl ?_
                refine fm_iinc (pq := 144) (v := nI (t + 1)) (ls1 := [some (.inr 4), some (.inr 1), some (.inr 3), some (.inl (bI ml)), some (.inl (nI (t + 1))), some (.inl (nI (r - 1))), some (.inl (nI q)), some (.inl (nI i))]) hX d_M_go_141 rfl (nI_add _ _) (by decide) rfl rfl ?_
                refine fm_goto (tgt := 7) hX d_M_go_144 rfl ?_
                refine fm_drop 5 (ls1 := [some (.inr 4), some (.inr 1), some (.inr 3), some (.inl (bI ml)), some (.inl (nI (t + 1))), none, some (.inl (nI q)), some (.inl (nI i))]) rfl ?_
                refine fm_drop 6 (ls1 := [some (.inr 4), some (.inr 1), some (.inr 3), some (.inl (bI ml)), some (.inl (nI (t + 1))), none, none, some (.inl (nI i))]) rfl ?_
                refine fm_drop 7 (ls1 := [some (.inr 4), some (.inr 1), some (.inr 3), some (.inl (bI ml)), some (.inl (nI (t + 1))), none, none, none]) rfl ?_
                exact ih (by omega) _ (cm_go_p (hw := hw) e1 hr (by omega) hq hq5 ht ht4 hi ei hdn (by omega) hmd (by omega) hsh (by omega) hcs hM3 hft) (fun u hu => by
                  by_cases z : u = t
                  · rw [z]; exact hlv
                  · exact hl u (by omega))
              refine fm_iload_n (pq := 121) hX d_M_go_120 rfl rfl rfl ?_
              refine fm_b1_eq (tgt := 137) (pq := 124) hX d_M_go_121 rfl rfl (fun h121 => ?_) (fun h121 => ?_)
              · show fm_G SC Y_M_go X M (fm_ir (fun v M' => ∃ T, T ≤ 802 ∧ M' = cm_it P F T (cm_begin M) ∧ (∀ u, u < T → cm_live (cm_it P F u (cm_begin M))) ∧ (T = 802 ∨ ¬ cm_live M') ∧ v = M' 4 11)) 137 [some (.inr 4), some (.inr 1), some (.inr 3), some (.inl (bI ml)), some (.inl (nI t)), some (.inl (nI (r - 1))), some (.inl (nI q)), some (.inl (nI i))] [.inl (nI i), .inl (nI q), .inr 1, .inr 4] M3
                refine fm_iconst (pq := 138) (v := nI 0) hX d_M_go_137 (by decide) rfl ?_
                first | exact L138 _ (by rw [hF q i hq5 hi, if_pos h121]; exact hf3 _ _ (by show 15 ≤ 29 + 15 * q; omega)) | exact L138 _ (by rw [hF q i hq5 hi, if_neg (by rw [h121]; decide)]; rfl)
              · show fm_G SC Y_M_go X M (fm_ir (fun v M' => ∃ T, T ≤ 802 ∧ M' = cm_it P F T (cm_begin M) ∧ (∀ u, u < T → cm_live (cm_it P F u (cm_begin M))) ∧ (T = 802 ∨ ¬ cm_live M') ∧ v = M' 4 11)) 124 [some (.inr 4), some (.inr 1), some (.inr 3), some (.inl (bI ml)), some (.inl (nI t)), some (.inl (nI (r - 1))), some (.inl (nI q)), some (.inl (nI i))] [.inl (nI i), .inl (nI q), .inr 1, .inr 4] M3
                refine fm_aload_n (pq := 125) hX d_M_go_124 rfl rfl rfl ?_
                refine fm_iload (pq := 127) hX d_M_go_125 rfl rfl ?_
                refine fm_aald (pq := 128) (q := kPl q) hX rfl (by decide) rfl rfl rfl (by omega) (by decide) (r_P (by omega)) d_M_go_127 rfl ?_
                refine fm_getr (pq := 131) (q := kPf q) hX fM_74 (s_P (by omega)) rfl d_M_go_128 rfl ?_
                refine fm_iload (pq := 133) hX d_M_go_131 rfl rfl ?_
                refine fm_iald (pq := 134) (v := M3 (kPf q) i) hX (s_Pf (by omega)) rfl rfl (by omega) (by decide) rfl d_M_go_133 rfl ?_
                refine fm_goto (tgt := 138) hX d_M_go_134 rfl ?_
                first | exact L138 _ (by rw [hF q i hq5 hi, if_pos h121]; exact hf3 _ _ (by show 15 ≤ 29 + 15 * q; omega)) | exact L138 _ (by rw [hF q i hq5 hi, if_neg (by rw [h121]; decide)]; rfl)
            · show fm_G SC Y_M_go X M (fm_ir (fun v M' => ∃ T, T ≤ 802 ∧ M' = cm_it P F T (cm_begin M) ∧ (∀ u, u < T → cm_live (cm_it P F u (cm_begin M))) ∧ (T = 802 ∨ ¬ cm_live M') ∧ v = M' 4 11)) 85 [some (.inr 4), some (.inr 1), some (.inr 3), some (.inl (bI ml)), some (.inl (nI t)), some (.inl (nI (r - 1))), some (.inl (nI q)), some (.inl (nI i))] [] M1
              refine fm_aload_n (pq := 86) hX d_M_go_85 rfl rfl rfl ?_
              refine fm_iconst (pq := 87) (v := nI 4) hX d_M_go_86 (by decide) rfl ?_
              refine fm_puti (pq := 90) hX fM_46 pM_11 rfl rfl rfl rfl d_M_go_87 rfl ?_
              refine fm_goto (tgt := 141) hX d_M_go_90 rfl ?_
              refine fm_iinc (pq := 144) (v := nI (t + 1)) (ls1 := [some (.inr 4), some (.inr 1), some (.inr 3), some (.inl (bI ml)), some (.inl (nI (t + 1))), some (.inl (nI (r - 1))), some (.inl (nI q)), some (.inl (nI i))]) hX d_M_go_141 rfl (nI_add _ _) (by decide) rfl rfl ?_
              refine fm_goto (tgt := 7) hX d_M_go_144 rfl ?_
              refine fm_drop 5 (ls1 := [some (.inr 4), some (.inr 1), some (.inr 3), some (.inl (bI ml)), some (.inl (nI (t + 1))), none, some (.inl (nI q)), some (.inl (nI i))]) rfl ?_
              refine fm_drop 6 (ls1 := [some (.inr 4), some (.inr 1), some (.inr 3), some (.inl (bI ml)), some (.inl (nI (t + 1))), none, none, some (.inl (nI i))]) rfl ?_
              refine fm_drop 7 (ls1 := [some (.inr 4), some (.inr 1), some (.inr 3), some (.inl (bI ml)), some (.inl (nI (t + 1))), none, none, none]) rfl ?_
              exact ih (by omega) _ (cm_go_f (hp := wq) e1 hr (by omega) hq hq5 hi ei hdn (by omega)) (fun u hu => by
                by_cases z : u = t
                · rw [z]; exact hlv
                · exact hl u (by omega))
          · show fm_G SC Y_M_go X M (fm_ir (fun v M' => ∃ T, T ≤ 802 ∧ M' = cm_it P F T (cm_begin M) ∧ (∀ u, u < T → cm_live (cm_it P F u (cm_begin M))) ∧ (T = 802 ∨ ¬ cm_live M') ∧ v = M' 4 11)) 67 [some (.inr 4), some (.inr 1), some (.inr 3), some (.inl (bI ml)), some (.inl (nI t)), some (.inl (nI (r - 1))), some (.inl (nI q)), some (.inl (M1 10 (r - 1)))] [] M1
            refine fm_aload_n (pq := 68) hX d_M_go_67 rfl rfl rfl ?_
            refine fm_iconst (pq := 69) (v := nI 0) hX d_M_go_68 (by decide) rfl ?_
            refine fm_callV_v (as := [.inl (nI 0)]) (st := []) (pq := 72) hX rfl rfl cM_70 rfl im_M_leave se_M_leave (k_M_leave M1 hr (by omega) (by omega) (t := t0) ht4 (fun _ => ht) (nI 0)) rfl rfl (Nat.le_of_ble_eq_true rfl) (Nat.le_of_ble_eq_true rfl) d_M_go_69 rfl ?_
            refine fm_goto (tgt := 141) hX d_M_go_72 rfl ?_
            refine fm_iinc (pq := 144) (v := nI (t + 1)) (ls1 := [some (.inr 4), some (.inr 1), some (.inr 3), some (.inl (bI ml)), some (.inl (nI (t + 1))), some (.inl (nI (r - 1))), some (.inl (nI q)), some (.inl (M1 10 (r - 1)))]) hX d_M_go_141 rfl (nI_add _ _) (by decide) rfl rfl ?_
            refine fm_goto (tgt := 7) hX d_M_go_144 rfl ?_
            refine fm_drop 5 (ls1 := [some (.inr 4), some (.inr 1), some (.inr 3), some (.inl (bI ml)), some (.inl (nI (t + 1))), none, some (.inl (nI q)), some (.inl (M1 10 (r - 1)))]) rfl ?_
            refine fm_drop 6 (ls1 := [some (.inr 4), some (.inr 1), some (.inr 3), some (.inl (bI ml)), some (.inl (nI (t + 1))), none, none, some (.inl (M1 10 (r - 1)))]) rfl ?_
            refine fm_drop 7 (ls1 := [some (.inr 4), some (.inr 1), some (.inr 3), some (.inl (bI ml)), some (.inl (nI (t + 1))), none, none, none]) rfl ?_
            exact ih (by omega) _ (cm_go_l (hlv := hlv) e1 hr (by omega) hq hq5 ht ht4 h64) (fun u hu => by
              by_cases z : u = t
              · rw [z]; exact hlv
              · exact hl u (by omega))
  show fm_G SC Y_M_go X M (fm_ir (fun v M' => ∃ T, T ≤ 802 ∧ M' = cm_it P F T (cm_begin M) ∧ (∀ u, u < T → cm_live (cm_it P F u (cm_begin M))) ∧ (T = 802 ∨ ¬ cm_live M') ∧ v = M' 4 11)) 0 [some (.inr 4), some (.inr 1), some (.inr 3), some (.inl (bI ml)), none, none, none, none] [] M
  refine fm_aload_n (pq := 1) hX d_M_go_0 rfl rfl rfl ?_
  refine fm_callV_v (as := []) (st := []) (pq := 4) hX rfl rfl cM_61 rfl im_M_begin se_M_begin (k_M_begin M) rfl rfl (Nat.le_of_ble_eq_true rfl) (Nat.le_of_ble_eq_true rfl) d_M_go_1 rfl ?_
  refine fm_iconst (pq := 5) (v := nI 0) hX d_M_go_4 (by decide) rfl ?_
  refine fm_istore (pq := 7) (ls1 := [some (.inr 4), some (.inr 1), some (.inr 3), some (.inl (bI ml)), some (.inl (nI 0)), none, none, none]) hX d_M_go_5 (by decide) rfl rfl ?_
  exact L7 0 (by omega) _ rfl (fun u hu => absurd hu (by omega))
