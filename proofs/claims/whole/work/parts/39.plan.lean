/-! Plan's methods (written by program) -/
theorem pl_ta0 {P : pr_T} (M : fm_M) (m r k : Nat) : pl_fr m M (fm_up M (kPf m) k (nI 1)) ∧ ∀ q, fm_up M (kPf m) k (nI 1) (kPf m) q = if q = k ∨ (q < 0 ∧ fa_wk (P.2.2 m q) r) then 1 else M (kPf m) q := by
  refine ⟨fun a j h => fm_up_a h, fun q => ?_⟩
  by_cases e : q = k
  · rw [e, fm_up_s, if_pos (Or.inl rfl)]; rfl
  · rw [fm_up_b e, if_neg (fun z => z.elim e (fun w => absurd w.1 (by omega)))]
theorem pl_ta1 {P : pr_T} {M M1 : fm_M} {m r k i : Nat} (h : pl_fr m M M1 ∧ ∀ q, M1 (kPf m) q = if q = k ∨ (q < i ∧ fa_wk (P.2.2 m q) r) then 1 else M (kPf m) q) (w : fa_wk (P.2.2 m i) r) : pl_fr m M (fm_up M1 (kPf m) i (nI 1)) ∧ ∀ q, fm_up M1 (kPf m) i (nI 1) (kPf m) q = if q = k ∨ (q < i + 1 ∧ fa_wk (P.2.2 m q) r) then 1 else M (kPf m) q := by
  refine ⟨fun a j z => (fm_up_a z).trans (h.1 a j z), fun q => ?_⟩
  by_cases e : q = i
  · rw [e, fm_up_s, if_pos (Or.inr ⟨by omega, w⟩)]; rfl
  · rw [fm_up_b e, h.2 q]
    by_cases z : q = k ∨ (q < i ∧ fa_wk (P.2.2 m q) r)
    · rw [if_pos z, if_pos (z.imp id (fun y => ⟨by omega, y.2⟩))]
    · rw [if_neg z, if_neg (fun y => z (y.imp id (fun x => ⟨by omega, x.2⟩)))]
theorem pl_ta2 {P : pr_T} {M M1 : fm_M} {m r k i : Nat} (h : pl_fr m M M1 ∧ ∀ q, M1 (kPf m) q = if q = k ∨ (q < i ∧ fa_wk (P.2.2 m q) r) then 1 else M (kPf m) q) (w : ¬ fa_wk (P.2.2 m i) r) : pl_fr m M M1 ∧ ∀ q, M1 (kPf m) q = if q = k ∨ (q < i + 1 ∧ fa_wk (P.2.2 m q) r) then 1 else M (kPf m) q := by
  refine ⟨h.1, fun q => ?_⟩
  rw [h.2 q]
  by_cases z : q = k ∨ (q < i ∧ fa_wk (P.2.2 m q) r)
  · rw [if_pos z, if_pos (z.imp id (fun y => ⟨by omega, y.2⟩))]
  · rw [if_neg z, if_neg (fun y => z (y.imp id (fun x => ⟨by
      by_cases e : q = i
      · rw [e] at x; exact absurd x.2 w
      · omega, x.2⟩)))]
theorem fa_pt_no1 {n : Nat} {c : Nat → an_I} {i j l : Nat} (hij : i < j) (hs : ∀ q, i < q → q < j → ¬ fa_in (c q)) (h1 : (c j).1 = 11) (z : fa_pt n c i l) (hj : fa_ji n c (i + 1) j) : False := by
  rcases Nat.lt_trichotomy l j with e | e | e
  · exact hs l z.1 e (Or.inr (Or.inr (Or.inl z.2.2.1)))
  · rw [e] at z; exact z.2.2.2.2.2 hj
  · exact z.2.2.2.2.1 j hij e (Or.inr (Or.inr (Or.inl h1)))
theorem fa_pt_no2 {n : Nat} {c : Nat → an_I} {i j l : Nat} (hij : i < j) (hs : ∀ q, i < q → q < j → ¬ fa_in (c q)) (h1 : fa_in (c j)) (z : fa_pt n c i l) (hj : ¬ ((c j).1 = 11 ∧ (c j).2.1 = (c i).2.1)) : False := by
  rcases Nat.lt_trichotomy l j with e | e | e
  · exact hs l z.1 e (Or.inr (Or.inr (Or.inl z.2.2.1)))
  · rw [e] at z; exact hj ⟨z.2.2.1, z.2.2.2.1⟩
  · exact z.2.2.2.2.1 j hij e h1
theorem fa_pt_no3 {n : Nat} {c : Nat → an_I} {i j l : Nat} (hj : n ≤ j) (hs : ∀ q, i < q → q < j → ¬ fa_in (c q)) (z : fa_pt n c i l) : False :=
  hs l z.1 (Nat.lt_of_lt_of_le z.2.1 hj) (Or.inr (Or.inr (Or.inl z.2.2.1)))
abbrev Y_P_soleNew : fm_Y := ("EscapeMill$Plan", b_P_soleNew, 4, (some .int), 2)
set_option maxRecDepth 100000 in
set_option maxHeartbeats 4000000 in
theorem k_P_soleNew {P : pr_T} {m : Nat} (hm : m < 5) (M : fm_M) (hP : cP M P) (hw : pr_wf P) {r : Nat} (hr : r < 4) : fm_ct SC y_P_soleNew b_P_soleNew 4 (some .int) 2 [.inr (kC m), .inl (nI r)] M (fm_nr (fun v => (∃ k, v = nI k ∧ fa_nw (P.1 m) (P.2.2 m) r k) ∨ (v = -1 ∧ ¬ ∃ k, fa_nw (P.1 m) (P.2.2 m) r k)) M) := by
  refine fm_of (ls := [some (.inr (kC m)), some (.inl (nI r)), none, none]) (by decide) wsA_good (Nat.le_of_ble_eq_true rfl) rfl (fun X hX => ?_)
  obtain ⟨wl, wi, wI⟩ := hw m hm
  have L4 : ∀ i, i ≤ P.1 m → ∀ s, fa_sv (P.2.2 m) r i s → fm_G SC Y_P_soleNew X M (fm_nr (fun v => (∃ k, v = nI k ∧ fa_nw (P.1 m) (P.2.2 m) r k) ∨ (v = -1 ∧ ¬ ∃ k, fa_nw (P.1 m) (P.2.2 m) r k)) M) 4 [some (.inr (kC m)), some (.inl (nI r)), some (.inl s), some (.inl (nI i))] [] M := by
    refine fm_ind (P.1 m) (fun i hle ih => ?_)
    intro s hs
    refine fm_iload_n hX d_P_soleNew_4 rfl rfl rfl ?_
    refine fm_aload_n hX d_P_soleNew_5 rfl rfl rfl ?_
    refine fm_geti (v := nI (P.1 m)) hX fP_55 (s_C (by omega)) rfl (hP m (by omega)).1 d_P_soleNew_6 rfl ?_
    refine fm_n_ge (tgt := 48) (pq := 12) hX d_P_soleNew_9 rfl rfl (by omega) (by omega) (fun h9 => ?_) (fun h9 => ?_)
    · show fm_G SC Y_P_soleNew X M (fm_nr (fun v => (∃ k, v = nI k ∧ fa_nw (P.1 m) (P.2.2 m) r k) ∨ (v = -1 ∧ ¬ ∃ k, fa_nw (P.1 m) (P.2.2 m) r k)) M) 48 [some (.inr (kC m)), some (.inl (nI r)), some (.inl s), some (.inl (nI i))] [] M
      refine fm_iload_n hX d_P_soleNew_48 rfl rfl rfl ?_
      refine fm_iret hX rfl d_P_soleNew_49 ?_
      have e : i = P.1 m := by omega
      rw [e] at hs
      exact ⟨_, rfl, fa_sv_end hs, rfl⟩
    · show fm_G SC Y_P_soleNew X M (fm_nr (fun v => (∃ k, v = nI k ∧ fa_nw (P.1 m) (P.2.2 m) r k) ∨ (v = -1 ∧ ¬ ∃ k, fa_nw (P.1 m) (P.2.2 m) r k)) M) 12 [some (.inr (kC m)), some (.inl (nI r)), some (.inl s), some (.inl (nI i))] [] M
      have w1 := (wI i (by omega)).1
      refine fm_aload_n hX d_P_soleNew_12 rfl rfl rfl ?_
      refine fm_iload_n hX d_P_soleNew_13 rfl rfl rfl ?_
      refine fm_iload_n hX d_P_soleNew_14 rfl rfl rfl ?_
      refine fm_callV_i (as := [.inl (nI i), .inl (nI r)]) (st := []) (pq := 18) hX (s_C (by omega)) rfl cP_58 rfl im_C_defines se_C_defines (k_C_defines (by omega) M hP hw (i := i) (by omega) (r := r) (by omega)) rfl rfl (Nat.le_of_ble_eq_true rfl) (Nat.le_of_ble_eq_true rfl) d_P_soleNew_15 rfl ?_
      refine fm_p1_ne (tgt := 24) (pq := 21) hX d_P_soleNew_18 rfl rfl (fun h18 => ?_) (fun h18 => ?_)
      · show fm_G SC Y_P_soleNew X M (fm_nr (fun v => (∃ k, v = nI k ∧ fa_nw (P.1 m) (P.2.2 m) r k) ∨ (v = -1 ∧ ¬ ∃ k, fa_nw (P.1 m) (P.2.2 m) r k)) M) 24 [some (.inr (kC m)), some (.inl (nI r)), some (.inl s), some (.inl (nI i))] [] M
        refine fm_aload_n hX d_P_soleNew_24 rfl rfl rfl ?_
        refine fm_getr (q := kCa m 0) hX fP_62 (s_C (by omega)) rfl d_P_soleNew_25 rfl ?_
        refine fm_iload_n hX d_P_soleNew_28 rfl rfl rfl ?_
        refine fm_iald (v := nI ((P.2.2 m i).1)) hX (s_Ca0 (by omega)) rfl rfl (by omega) (by decide) ((hP m (by omega)).2.2 i (by omega)).1 d_P_soleNew_29 rfl ?_
        refine fm_z_ne (tgt := 38) (pq := 33) hX d_P_soleNew_30 rfl rfl (by omega) (fun h30 => ?_) (fun h30 => ?_)
        · show fm_G SC Y_P_soleNew X M (fm_nr (fun v => (∃ k, v = nI k ∧ fa_nw (P.1 m) (P.2.2 m) r k) ∨ (v = -1 ∧ ¬ ∃ k, fa_nw (P.1 m) (P.2.2 m) r k)) M) 38 [some (.inr (kC m)), some (.inl (nI r)), some (.inl s), some (.inl (nI i))] [] M
          refine fm_iconst (v := (-1)) hX d_P_soleNew_38 (by decide) rfl ?_
          refine fm_iret hX rfl d_P_soleNew_39 ?_
          first | exact ⟨_, rfl, Or.inr ⟨rfl, fa_sv_e1 (by omega) h18 h30⟩, rfl⟩ | exact ⟨_, rfl, Or.inr ⟨rfl, fa_sv_e2 hs h35 (by omega) h18⟩, rfl⟩
        · show fm_G SC Y_P_soleNew X M (fm_nr (fun v => (∃ k, v = nI k ∧ fa_nw (P.1 m) (P.2.2 m) r k) ∨ (v = -1 ∧ ¬ ∃ k, fa_nw (P.1 m) (P.2.2 m) r k)) M) 33 [some (.inr (kC m)), some (.inl (nI r)), some (.inl s), some (.inl (nI i))] [] M
          refine fm_iload_n hX d_P_soleNew_33 rfl rfl rfl ?_
          refine fm_iconst (v := (-1)) hX d_P_soleNew_34 (by decide) rfl ?_
          refine fm_icmp_eq (tgt := 40) (pq := 38) hX d_P_soleNew_35 rfl rfl (fun h35 => ?_) (fun h35 => ?_)
          · show fm_G SC Y_P_soleNew X M (fm_nr (fun v => (∃ k, v = nI k ∧ fa_nw (P.1 m) (P.2.2 m) r k) ∨ (v = -1 ∧ ¬ ∃ k, fa_nw (P.1 m) (P.2.2 m) r k)) M) 40 [some (.inr (kC m)), some (.inl (nI r)), some (.inl s), some (.inl (nI i))] [] M
            refine fm_iload_n hX d_P_soleNew_40 rfl rfl rfl ?_
            refine fm_istore_n (ls1 := [some (.inr (kC m)), some (.inl (nI r)), some (.inl (nI i)), some (.inl (nI i))]) hX d_P_soleNew_41 rfl (by decide) rfl rfl ?_
            refine fm_iinc (v := nI (i + 1)) (ls1 := [some (.inr (kC m)), some (.inl (nI r)), some (.inl (nI i)), some (.inl (nI (i + 1)))]) hX d_P_soleNew_42 rfl (nI_add _ _) (by decide) rfl rfl ?_
            refine fm_goto (tgt := 4) hX d_P_soleNew_45 rfl ?_
            first | exact ih (by omega) _ (fa_sv_n hs h18) | exact ih (by omega) _ (fa_sv_y (by omega) hs h35 h30 h18)
          · show fm_G SC Y_P_soleNew X M (fm_nr (fun v => (∃ k, v = nI k ∧ fa_nw (P.1 m) (P.2.2 m) r k) ∨ (v = -1 ∧ ¬ ∃ k, fa_nw (P.1 m) (P.2.2 m) r k)) M) 38 [some (.inr (kC m)), some (.inl (nI r)), some (.inl s), some (.inl (nI i))] [] M
            refine fm_iconst (v := (-1)) hX d_P_soleNew_38 (by decide) rfl ?_
            refine fm_iret hX rfl d_P_soleNew_39 ?_
            first | exact ⟨_, rfl, Or.inr ⟨rfl, fa_sv_e1 (by omega) h18 h30⟩, rfl⟩ | exact ⟨_, rfl, Or.inr ⟨rfl, fa_sv_e2 hs h35 (by omega) h18⟩, rfl⟩
      · show fm_G SC Y_P_soleNew X M (fm_nr (fun v => (∃ k, v = nI k ∧ fa_nw (P.1 m) (P.2.2 m) r k) ∨ (v = -1 ∧ ¬ ∃ k, fa_nw (P.1 m) (P.2.2 m) r k)) M) 21 [some (.inr (kC m)), some (.inl (nI r)), some (.inl s), some (.inl (nI i))] [] M
        refine fm_goto (tgt := 42) hX d_P_soleNew_21 rfl ?_
        refine fm_iinc (v := nI (i + 1)) (ls1 := [some (.inr (kC m)), some (.inl (nI r)), some (.inl s), some (.inl (nI (i + 1)))]) hX d_P_soleNew_42 rfl (nI_add _ _) (by decide) rfl rfl ?_
        refine fm_goto (tgt := 4) hX d_P_soleNew_45 rfl ?_
        first | exact ih (by omega) _ (fa_sv_n hs h18) | exact ih (by omega) _ (fa_sv_y (by omega) hs h35 h30 h18)
  show fm_G SC Y_P_soleNew X M (fm_nr (fun v => (∃ k, v = nI k ∧ fa_nw (P.1 m) (P.2.2 m) r k) ∨ (v = -1 ∧ ¬ ∃ k, fa_nw (P.1 m) (P.2.2 m) r k)) M) 0 [some (.inr (kC m)), some (.inl (nI r)), none, none] [] M
  refine fm_iconst (v := (-1)) hX d_P_soleNew_0 (by decide) rfl ?_
  refine fm_istore_n (ls1 := [some (.inr (kC m)), some (.inl (nI r)), some (.inl ((-1))), none]) hX d_P_soleNew_1 rfl (by decide) rfl rfl ?_
  refine fm_iconst (v := nI 0) hX d_P_soleNew_2 (by decide) rfl ?_
  refine fm_istore_n (ls1 := [some (.inr (kC m)), some (.inl (nI r)), some (.inl ((-1))), some (.inl (nI 0))]) hX d_P_soleNew_3 rfl (by decide) rfl rfl ?_
  exact L4 0 (by omega) _ fa_sv_0
abbrev Y_P_staysInside : fm_Y := ("EscapeMill$Plan", b_P_staysInside, 6, (some .boolean), 2)
set_option maxRecDepth 100000 in
set_option maxHeartbeats 4000000 in
theorem k_P_staysInside {P : pr_T} {m : Nat} (hm : m < 5) (M : fm_M) (hP : cP M P) (hw : pr_wf P) {r : Nat} (hr : r < 4) : fm_ct SC y_P_staysInside b_P_staysInside 6 (some .boolean) 2 [.inr 1, .inl (nI m), .inl (nI r)] M (fm_br (∀ i, i < P.1 m → ¬ fa_hd (fa_k P (P.2.2 m i)) (P.2.2 m i) r) M) := by
  refine fm_of (ls := [some (.inr 1), some (.inl (nI m)), some (.inl (nI r)), none, none, none]) (by decide) wsA_good (Nat.le_of_ble_eq_true rfl) rfl (fun X hX => ?_)
  obtain ⟨wl, wi, wI⟩ := hw m hm
  have L7 : ∀ i, i ≤ P.1 m → (∀ j, j < i → ¬ fa_hd (fa_k P (P.2.2 m j)) (P.2.2 m j) r) → fm_G SC Y_P_staysInside X M (fm_br (∀ i, i < P.1 m → ¬ fa_hd (fa_k P (P.2.2 m i)) (P.2.2 m i) r) M) 7 [some (.inr 1), some (.inl (nI m)), some (.inl (nI r)), some (.inr (kC m)), some (.inl (nI i)), none] [] M := by
    refine fm_ind (P.1 m) (fun i hle ih => ?_)
    intro hs
    refine fm_iload hX d_P_staysInside_7 rfl rfl ?_
    refine fm_aload_n hX d_P_staysInside_9 rfl rfl rfl ?_
    refine fm_geti (v := nI (P.1 m)) hX fP_55 (s_C (by omega)) rfl (hP m (by omega)).1 d_P_staysInside_10 rfl ?_
    refine fm_n_ge (tgt := 66) (pq := 16) hX d_P_staysInside_13 rfl rfl (by omega) (by omega) (fun h13 => ?_) (fun h13 => ?_)
    · show fm_G SC Y_P_staysInside X M (fm_br (∀ i, i < P.1 m → ¬ fa_hd (fa_k P (P.2.2 m i)) (P.2.2 m i) r) M) 66 [some (.inr 1), some (.inl (nI m)), some (.inl (nI r)), some (.inr (kC m)), some (.inl (nI i)), none] [] M
      refine fm_iconst (v := nI 1) hX d_P_staysInside_66 (by decide) rfl ?_
      refine fm_zret hX rfl (by decide) d_P_staysInside_67 ?_
      exact fm_br1 (fun j hj => hs j (by omega))
    · show fm_G SC Y_P_staysInside X M (fm_br (∀ i, i < P.1 m → ¬ fa_hd (fa_k P (P.2.2 m i)) (P.2.2 m i) r) M) 16 [some (.inr 1), some (.inl (nI m)), some (.inl (nI r)), some (.inr (kC m)), some (.inl (nI i)), none] [] M
      obtain ⟨w1, w2, w3, w4, w5, w6⟩ := wI i (by omega)
      have L44 : ∀ q : Nat, q = fa_k P (P.2.2 m i) → fm_G SC Y_P_staysInside X M (fm_br (∀ i, i < P.1 m → ¬ fa_hd (fa_k P (P.2.2 m i)) (P.2.2 m i) r) M) 44 [some (.inr 1), some (.inl (nI m)), some (.inl (nI r)), some (.inr (kC m)), some (.inl (nI i)), none] [.inl (nI q)] M := by
        intro q hq
        subst hq
        refine fm_istore (ls1 := [some (.inr 1), some (.inl (nI m)), some (.inl (nI r)), some (.inr (kC m)), some (.inl (nI i)), some (.inl (nI (fa_k P (P.2.2 m i))))]) hX d_P_staysInside_44 (by decide) rfl rfl ?_
        have hk2 := fa_k_le hw hm (i := i) (by omega)
        refine fm_aload_n hX d_P_staysInside_46 rfl rfl rfl ?_
        refine fm_iload hX d_P_staysInside_47 rfl rfl ?_
        refine fm_iload_n hX d_P_staysInside_49 rfl rfl rfl ?_
        refine fm_iload hX d_P_staysInside_50 rfl rfl ?_
        refine fm_callV_i (as := [.inl (nI i), .inl (nI r), .inl (nI (fa_k P (P.2.2 m i)))]) (st := []) (pq := 55) hX (s_C (by omega)) rfl cP_68 rfl im_C_handsOn se_C_handsOn (k_C_handsOn (by omega) M hP hw (i := i) (by omega) (r := r) (by omega) (k := fa_k P (P.2.2 m i)) (by omega)) rfl rfl (Nat.le_of_ble_eq_true rfl) (Nat.le_of_ble_eq_true rfl) d_P_staysInside_52 rfl ?_
        refine fm_p1_eq (tgt := 60) (pq := 58) hX d_P_staysInside_55 rfl rfl (fun h55 => ?_) (fun h55 => ?_)
        · show fm_G SC Y_P_staysInside X M (fm_br (∀ i, i < P.1 m → ¬ fa_hd (fa_k P (P.2.2 m i)) (P.2.2 m i) r) M) 60 [some (.inr 1), some (.inl (nI m)), some (.inl (nI r)), some (.inr (kC m)), some (.inl (nI i)), some (.inl (nI (fa_k P (P.2.2 m i))))] [] M
          refine fm_iinc (v := nI (i + 1)) (ls1 := [some (.inr 1), some (.inl (nI m)), some (.inl (nI r)), some (.inr (kC m)), some (.inl (nI (i + 1))), some (.inl (nI (fa_k P (P.2.2 m i))))]) hX d_P_staysInside_60 rfl (nI_add _ _) (by decide) rfl rfl ?_
          refine fm_goto (tgt := 7) hX d_P_staysInside_63 rfl ?_
          refine fm_drop 5 (ls1 := [some (.inr 1), some (.inl (nI m)), some (.inl (nI r)), some (.inr (kC m)), some (.inl (nI (i + 1))), none]) rfl ?_
          exact ih (by omega) (lt_s hs h55)
        · show fm_G SC Y_P_staysInside X M (fm_br (∀ i, i < P.1 m → ¬ fa_hd (fa_k P (P.2.2 m i)) (P.2.2 m i) r) M) 58 [some (.inr 1), some (.inl (nI m)), some (.inl (nI r)), some (.inr (kC m)), some (.inl (nI i)), some (.inl (nI (fa_k P (P.2.2 m i))))] [] M
          refine fm_iconst (v := nI 0) hX d_P_staysInside_58 (by decide) rfl ?_
          refine fm_zret hX rfl (by decide) d_P_staysInside_59 ?_
          exact fm_br0 (fun z => z i (by omega) h55)
      refine fm_aload_n hX d_P_staysInside_16 rfl rfl rfl ?_
      refine fm_getr (q := kCa m 0) hX fP_62 (s_C (by omega)) rfl d_P_staysInside_17 rfl ?_
      refine fm_iload hX d_P_staysInside_20 rfl rfl ?_
      refine fm_iald (v := nI ((P.2.2 m i).1)) hX (s_Ca0 (by omega)) rfl rfl (by omega) (by decide) ((hP m (by omega)).2.2 i (by omega)).1 d_P_staysInside_22 rfl ?_
      refine fm_bipush (v := nI 16) hX d_P_staysInside_23 (by decide) rfl ?_
      refine fm_n_ne (tgt := 43) (pq := 28) hX d_P_staysInside_25 rfl rfl (by omega) (by omega) (fun h25 => ?_) (fun h25 => ?_)
      · show fm_G SC Y_P_staysInside X M (fm_br (∀ i, i < P.1 m → ¬ fa_hd (fa_k P (P.2.2 m i)) (P.2.2 m i) r) M) 43 [some (.inr 1), some (.inl (nI m)), some (.inl (nI r)), some (.inr (kC m)), some (.inl (nI i)), none] [] M
        refine fm_iconst (v := nI 0) hX d_P_staysInside_43 (by decide) rfl ?_
        first | exact L44 _ (by unfold fa_k; rw [if_pos h25, hn, nI_clamp (by omega)]) | exact L44 _ (by unfold fa_k; rw [if_neg h25])
      · show fm_G SC Y_P_staysInside X M (fm_br (∀ i, i < P.1 m → ¬ fa_hd (fa_k P (P.2.2 m i)) (P.2.2 m i) r) M) 28 [some (.inr 1), some (.inl (nI m)), some (.inl (nI r)), some (.inr (kC m)), some (.inl (nI i)), none] [] M
        obtain ⟨k, hk, hn⟩ := w6 h25
        refine fm_aload_n hX d_P_staysInside_28 rfl rfl rfl ?_
        refine fm_aload_n hX d_P_staysInside_29 rfl rfl rfl ?_
        refine fm_getr (q := kCa m 4) hX fP_65 (s_C (by omega)) rfl d_P_staysInside_30 rfl ?_
        refine fm_iload hX d_P_staysInside_33 rfl rfl ?_
        refine fm_iald (v := nI k) hX (s_Ca4 (by omega)) rfl rfl (by omega) (by decide) (((hP m (by omega)).2.2 i (by omega)).2.2.2.2.trans hn) d_P_staysInside_35 rfl ?_
        refine fm_aald (q := kC k) hX rfl (by decide) rfl rfl rfl (by omega) (by decide) (r_C (by omega)) d_P_staysInside_36 rfl ?_
        refine fm_geti (v := nI (P.2.1 k)) hX fP_21 (s_C (by omega)) rfl (hP k (by omega)).2.1 d_P_staysInside_37 rfl ?_
        refine fm_goto (tgt := 44) hX d_P_staysInside_40 rfl ?_
        first | exact L44 _ (by unfold fa_k; rw [if_pos h25, hn, nI_clamp (by omega)]) | exact L44 _ (by unfold fa_k; rw [if_neg h25])
  show fm_G SC Y_P_staysInside X M (fm_br (∀ i, i < P.1 m → ¬ fa_hd (fa_k P (P.2.2 m i)) (P.2.2 m i) r) M) 0 [some (.inr 1), some (.inl (nI m)), some (.inl (nI r)), none, none, none] [] M
  refine fm_aload_n hX d_P_staysInside_0 rfl rfl rfl ?_
  refine fm_iload_n hX d_P_staysInside_1 rfl rfl rfl ?_
  refine fm_aald (q := kC m) hX rfl (by decide) rfl rfl rfl (by omega) (by decide) (r_C (by omega)) d_P_staysInside_2 rfl ?_
  refine fm_astore_n (ls1 := [some (.inr 1), some (.inl (nI m)), some (.inl (nI r)), some (.inr (kC m)), none, none]) hX d_P_staysInside_3 rfl (by decide) rfl rfl ?_
  refine fm_iconst (v := nI 0) hX d_P_staysInside_4 (by decide) rfl ?_
  refine fm_istore (ls1 := [some (.inr 1), some (.inl (nI m)), some (.inl (nI r)), some (.inr (kC m)), some (.inl (nI 0)), none]) hX d_P_staysInside_5 (by decide) rfl rfl ?_
  exact L7 0 (by omega) (fun j hj => absurd hj (by omega))
abbrev Y_P_isMadeFirst : fm_Y := ("EscapeMill$Plan", b_P_isMadeFirst, 4, (some .boolean), 2)
set_option maxRecDepth 100000 in
set_option maxHeartbeats 4000000 in
theorem k_P_isMadeFirst {P : pr_T} {m : Nat} (hm : m < 5) (M : fm_M) (hP : cP M P) (hw : pr_wf P) {r : Nat} (hr : r < 4) (fr : Int32) : fm_ct SC y_P_isMadeFirst b_P_isMadeFirst 4 (some .boolean) 2 [.inr (kC m), .inl (nI r), .inl fr] M (fm_br (∀ i, i < P.1 m → fa_wk (P.2.2 m i) r → bt fr i = false) M) := by
  refine fm_of (ls := [some (.inr (kC m)), some (.inl (nI r)), some (.inl fr), none]) (by decide) wsA_good (Nat.le_of_ble_eq_true rfl) rfl (fun X hX => ?_)
  obtain ⟨wl, wi, wI⟩ := hw m hm
  have L2 : ∀ i, i ≤ P.1 m → (∀ j, j < i → fa_wk (P.2.2 m j) r → bt fr j = false) → fm_G SC Y_P_isMadeFirst X M (fm_br (∀ i, i < P.1 m → fa_wk (P.2.2 m i) r → bt fr i = false) M) 2 [some (.inr (kC m)), some (.inl (nI r)), some (.inl fr), some (.inl (nI i))] [] M := by
    refine fm_ind (P.1 m) (fun i hle ih => ?_)
    intro hs
    refine fm_iload_n hX d_P_isMadeFirst_2 rfl rfl rfl ?_
    refine fm_aload_n hX d_P_isMadeFirst_3 rfl rfl rfl ?_
    refine fm_geti (v := nI (P.1 m)) hX fP_55 (s_C (by omega)) rfl (hP m (by omega)).1 d_P_isMadeFirst_4 rfl ?_
    refine fm_n_ge (tgt := 36) (pq := 10) hX d_P_isMadeFirst_7 rfl rfl (by omega) (by omega) (fun h7 => ?_) (fun h7 => ?_)
    · show fm_G SC Y_P_isMadeFirst X M (fm_br (∀ i, i < P.1 m → fa_wk (P.2.2 m i) r → bt fr i = false) M) 36 [some (.inr (kC m)), some (.inl (nI r)), some (.inl fr), some (.inl (nI i))] [] M
      refine fm_iconst (v := nI 1) hX d_P_isMadeFirst_36 (by decide) rfl ?_
      refine fm_zret hX rfl (by decide) d_P_isMadeFirst_37 ?_
      exact fm_br1 (fun j hj => hs j (by omega))
    · show fm_G SC Y_P_isMadeFirst X M (fm_br (∀ i, i < P.1 m → fa_wk (P.2.2 m i) r → bt fr i = false) M) 10 [some (.inr (kC m)), some (.inl (nI r)), some (.inl fr), some (.inl (nI i))] [] M
      refine fm_aload_n hX d_P_isMadeFirst_10 rfl rfl rfl ?_
      refine fm_iload_n hX d_P_isMadeFirst_11 rfl rfl rfl ?_
      refine fm_iload_n hX d_P_isMadeFirst_12 rfl rfl rfl ?_
      refine fm_callV_i (as := [.inl (nI i), .inl (nI r)]) (st := []) (pq := 16) hX (s_C (by omega)) rfl cP_72 rfl im_C_worksOn se_C_worksOn (k_C_worksOn (by omega) M hP hw (i := i) (by omega) (r := r) (by omega)) rfl rfl (Nat.le_of_ble_eq_true rfl) (Nat.le_of_ble_eq_true rfl) d_P_isMadeFirst_13 rfl ?_
      refine fm_p1_eq (tgt := 30) (pq := 19) hX d_P_isMadeFirst_16 rfl rfl (fun h16 => ?_) (fun h16 => ?_)
      · show fm_G SC Y_P_isMadeFirst X M (fm_br (∀ i, i < P.1 m → fa_wk (P.2.2 m i) r → bt fr i = false) M) 30 [some (.inr (kC m)), some (.inl (nI r)), some (.inl fr), some (.inl (nI i))] [] M
        refine fm_iinc (v := nI (i + 1)) (ls1 := [some (.inr (kC m)), some (.inl (nI r)), some (.inl fr), some (.inl (nI (i + 1)))]) hX d_P_isMadeFirst_30 rfl (nI_add _ _) (by decide) rfl rfl ?_
        refine fm_goto (tgt := 2) hX d_P_isMadeFirst_33 rfl ?_
        first | exact ih (by omega) (lt_s hs (fun z => absurd z h16)) | exact ih (by omega) (lt_s hs (fun _ => h25))
      · show fm_G SC Y_P_isMadeFirst X M (fm_br (∀ i, i < P.1 m → fa_wk (P.2.2 m i) r → bt fr i = false) M) 19 [some (.inr (kC m)), some (.inl (nI r)), some (.inl fr), some (.inl (nI i))] [] M
        refine fm_iload_n hX d_P_isMadeFirst_19 rfl rfl rfl ?_
        refine fm_iload_n hX d_P_isMadeFirst_20 rfl rfl rfl ?_
        refine fm_ishr (v := fr >>> (nI i &&& 31)) hX d_P_isMadeFirst_21 rfl rfl ?_
        refine fm_iconst (v := nI 1) hX d_P_isMadeFirst_22 (by decide) rfl ?_
        refine fm_iand (v := bI (bt fr i)) hX d_P_isMadeFirst_23 (fm_bit _ (by omega)) rfl ?_
        refine fm_iconst (v := nI 1) hX d_P_isMadeFirst_24 (by decide) rfl ?_
        refine fm_b2_ne1 (tgt := 30) (pq := 28) hX d_P_isMadeFirst_25 rfl rfl (fun h25 => ?_) (fun h25 => ?_)
        · show fm_G SC Y_P_isMadeFirst X M (fm_br (∀ i, i < P.1 m → fa_wk (P.2.2 m i) r → bt fr i = false) M) 30 [some (.inr (kC m)), some (.inl (nI r)), some (.inl fr), some (.inl (nI i))] [] M
          refine fm_iinc (v := nI (i + 1)) (ls1 := [some (.inr (kC m)), some (.inl (nI r)), some (.inl fr), some (.inl (nI (i + 1)))]) hX d_P_isMadeFirst_30 rfl (nI_add _ _) (by decide) rfl rfl ?_
          refine fm_goto (tgt := 2) hX d_P_isMadeFirst_33 rfl ?_
          first | exact ih (by omega) (lt_s hs (fun z => absurd z h16)) | exact ih (by omega) (lt_s hs (fun _ => h25))
        · show fm_G SC Y_P_isMadeFirst X M (fm_br (∀ i, i < P.1 m → fa_wk (P.2.2 m i) r → bt fr i = false) M) 28 [some (.inr (kC m)), some (.inl (nI r)), some (.inl fr), some (.inl (nI i))] [] M
          refine fm_iconst (v := nI 0) hX d_P_isMadeFirst_28 (by decide) rfl ?_
          refine fm_zret hX rfl (by decide) d_P_isMadeFirst_29 ?_
          exact fm_br0 (fun z => absurd (z i (by omega) h16) (by rw [h25]; decide))
  show fm_G SC Y_P_isMadeFirst X M (fm_br (∀ i, i < P.1 m → fa_wk (P.2.2 m i) r → bt fr i = false) M) 0 [some (.inr (kC m)), some (.inl (nI r)), some (.inl fr), none] [] M
  refine fm_iconst (v := nI 0) hX d_P_isMadeFirst_0 (by decide) rfl ?_
  refine fm_istore_n (ls1 := [some (.inr (kC m)), some (.inl (nI r)), some (.inl fr), some (.inl (nI 0))]) hX d_P_isMadeFirst_1 rfl (by decide) rfl rfl ?_
  exact L2 0 (by omega) (fun j hj => absurd hj (by omega))
abbrev Y_P_takeApart : fm_Y := ("EscapeMill$Plan", b_P_takeApart, 5, none, 2)
set_option maxRecDepth 100000 in
set_option maxHeartbeats 4000000 in
theorem k_P_takeApart {P : pr_T} {m : Nat} (hm : m < 5) (M : fm_M) (hP : cP M P) (hw : pr_wf P) {r : Nat} (hr : r < 4) {k : Nat} (hk : k < 24) : fm_ct SC y_P_takeApart b_P_takeApart 5 none 2 [.inr (kPl m), .inr (kC m), .inl (nI r), .inl (nI k)] M (fm_vr (fun M' => pl_fr m M M' ∧ ∀ q, M' (kPf m) q = if q = k ∨ (q < P.1 m ∧ fa_wk (P.2.2 m q) r) then 1 else M (kPf m) q)) := by
  refine fm_of (ls := [some (.inr (kPl m)), some (.inr (kC m)), some (.inl (nI r)), some (.inl (nI k)), none]) (by decide) wsA_good (Nat.le_of_ble_eq_true rfl) rfl (fun X hX => ?_)
  obtain ⟨wl, wi, wI⟩ := hw m hm
  have L10 : ∀ i, i ≤ P.1 m → ∀ M1, (pl_fr m M M1 ∧ ∀ q, M1 (kPf m) q = if q = k ∨ (q < i ∧ fa_wk (P.2.2 m q) r) then 1 else M (kPf m) q) → fm_G SC Y_P_takeApart X M (fm_vr (fun M' => pl_fr m M M' ∧ ∀ q, M' (kPf m) q = if q = k ∨ (q < P.1 m ∧ fa_wk (P.2.2 m q) r) then 1 else M (kPf m) q)) 10 [some (.inr (kPl m)), some (.inr (kC m)), some (.inl (nI r)), some (.inl (nI k)), some (.inl (nI i))] [] M1 := by
    refine fm_ind (P.1 m) (fun i hle ih => ?_)
    intro M1 hs
    have hP1 := pl_fr_P hm hs.1 hP
    refine fm_iload hX d_P_takeApart_10 rfl rfl ?_
    refine fm_aload_n hX d_P_takeApart_12 rfl rfl rfl ?_
    refine fm_geti (v := nI (P.1 m)) hX fP_55 (s_C (by omega)) rfl (hP1 m (by omega)).1 d_P_takeApart_13 rfl ?_
    refine fm_n_ge (tgt := 43) (pq := 19) hX d_P_takeApart_16 rfl rfl (by omega) (by omega) (fun h16 => ?_) (fun h16 => ?_)
    · show fm_G SC Y_P_takeApart X M (fm_vr (fun M' => pl_fr m M M' ∧ ∀ q, M' (kPf m) q = if q = k ∨ (q < P.1 m ∧ fa_wk (P.2.2 m q) r) then 1 else M (kPf m) q)) 43 [some (.inr (kPl m)), some (.inr (kC m)), some (.inl (nI r)), some (.inl (nI k)), some (.inl (nI i))] [] M1
      refine fm_vret hX rfl d_P_takeApart_43 ?_
      have e : i = P.1 m := by omega
      rw [e] at hs
      exact ⟨rfl, hs⟩
    · show fm_G SC Y_P_takeApart X M (fm_vr (fun M' => pl_fr m M M' ∧ ∀ q, M' (kPf m) q = if q = k ∨ (q < P.1 m ∧ fa_wk (P.2.2 m q) r) then 1 else M (kPf m) q)) 19 [some (.inr (kPl m)), some (.inr (kC m)), some (.inl (nI r)), some (.inl (nI k)), some (.inl (nI i))] [] M1
      refine fm_aload_n hX d_P_takeApart_19 rfl rfl rfl ?_
      refine fm_iload hX d_P_takeApart_20 rfl rfl ?_
      refine fm_iload_n hX d_P_takeApart_22 rfl rfl rfl ?_
      refine fm_callV_i (as := [.inl (nI i), .inl (nI r)]) (st := []) (pq := 26) hX (s_C (by omega)) rfl cP_72 rfl im_C_worksOn se_C_worksOn (k_C_worksOn (by omega) M1 hP1 hw (i := i) (by omega) (r := r) (by omega)) rfl rfl (Nat.le_of_ble_eq_true rfl) (Nat.le_of_ble_eq_true rfl) d_P_takeApart_23 rfl ?_
      refine fm_p1_eq (tgt := 37) (pq := 29) hX d_P_takeApart_26 rfl rfl (fun h26 => ?_) (fun h26 => ?_)
      · show fm_G SC Y_P_takeApart X M (fm_vr (fun M' => pl_fr m M M' ∧ ∀ q, M' (kPf m) q = if q = k ∨ (q < P.1 m ∧ fa_wk (P.2.2 m q) r) then 1 else M (kPf m) q)) 37 [some (.inr (kPl m)), some (.inr (kC m)), some (.inl (nI r)), some (.inl (nI k)), some (.inl (nI i))] [] M1
        refine fm_iinc (v := nI (i + 1)) (ls1 := [some (.inr (kPl m)), some (.inr (kC m)), some (.inl (nI r)), some (.inl (nI k)), some (.inl (nI (i + 1)))]) hX d_P_takeApart_37 rfl (nI_add _ _) (by decide) rfl rfl ?_
        refine fm_goto (tgt := 10) hX d_P_takeApart_40 rfl ?_
        exact ih (by omega) _ (pl_ta2 hs h26)
      · show fm_G SC Y_P_takeApart X M (fm_vr (fun M' => pl_fr m M M' ∧ ∀ q, M' (kPf m) q = if q = k ∨ (q < P.1 m ∧ fa_wk (P.2.2 m q) r) then 1 else M (kPf m) q)) 29 [some (.inr (kPl m)), some (.inr (kC m)), some (.inl (nI r)), some (.inl (nI k)), some (.inl (nI i))] [] M1
        refine fm_aload_n hX d_P_takeApart_29 rfl rfl rfl ?_
        refine fm_getr (q := kPf m) hX fP_9 (s_P (by omega)) rfl d_P_takeApart_30 rfl ?_
        refine fm_iload hX d_P_takeApart_33 rfl rfl ?_
        refine fm_iconst (v := nI 1) hX d_P_takeApart_35 (by decide) rfl ?_
        refine fm_iast hX (s_Pf (by omega)) rfl rfl (by omega) (by decide) d_P_takeApart_36 rfl ?_
        refine fm_iinc (v := nI (i + 1)) (ls1 := [some (.inr (kPl m)), some (.inr (kC m)), some (.inl (nI r)), some (.inl (nI k)), some (.inl (nI (i + 1)))]) hX d_P_takeApart_37 rfl (nI_add _ _) (by decide) rfl rfl ?_
        refine fm_goto (tgt := 10) hX d_P_takeApart_40 rfl ?_
        exact ih (by omega) _ (pl_ta1 hs h26)
  show fm_G SC Y_P_takeApart X M (fm_vr (fun M' => pl_fr m M M' ∧ ∀ q, M' (kPf m) q = if q = k ∨ (q < P.1 m ∧ fa_wk (P.2.2 m q) r) then 1 else M (kPf m) q)) 0 [some (.inr (kPl m)), some (.inr (kC m)), some (.inl (nI r)), some (.inl (nI k)), none] [] M
  refine fm_aload_n hX d_P_takeApart_0 rfl rfl rfl ?_
  refine fm_getr (q := kPf m) hX fP_9 (s_P (by omega)) rfl d_P_takeApart_1 rfl ?_
  refine fm_iload_n hX d_P_takeApart_4 rfl rfl rfl ?_
  refine fm_iconst (v := nI 1) hX d_P_takeApart_5 (by decide) rfl ?_
  refine fm_iast hX (s_Pf (by omega)) rfl rfl (by omega) (by decide) d_P_takeApart_6 rfl ?_
  refine fm_iconst (v := nI 0) hX d_P_takeApart_7 (by decide) rfl ?_
  refine fm_istore (ls1 := [some (.inr (kPl m)), some (.inr (kC m)), some (.inl (nI r)), some (.inl (nI k)), some (.inl (nI 0))]) hX d_P_takeApart_8 (by decide) rfl rfl ?_
  exact L10 0 (by omega) _ (pl_ta0 M m r k)
abbrev Y_P_endsPairing : fm_Y := ("EscapeMill$Plan", b_P_endsPairing, 1, (some .boolean), 1)
set_option maxRecDepth 100000 in
set_option maxHeartbeats 4000000 in
theorem k_P_endsPairing {o : Nat} (ho : o ≤ 18) (M : fm_M) : fm_ct SC y_P_endsPairing b_P_endsPairing 1 (some .boolean) 1 [.inl (nI o)] M (fm_rv (bI (decide (o = 0 ∨ o = 10 ∨ o = 11 ∨ o = 14 ∨ o = 15 ∨ o = 17 ∨ o = 16))) M) := by
  refine fm_of (ls := [some (.inl (nI o))]) (by decide) wsA_good (Nat.le_of_ble_eq_true rfl) rfl (fun X hX => ?_)
  show fm_G SC Y_P_endsPairing X M (fm_rv (bI (decide (o = 0 ∨ o = 10 ∨ o = 11 ∨ o = 14 ∨ o = 15 ∨ o = 17 ∨ o = 16))) M) 0 [some (.inl (nI o))] [] M
  refine fm_iload_n hX d_P_endsPairing_0 rfl rfl rfl ?_
  rcases (by omega : (o = 0 ∨ o = 10 ∨ o = 11 ∨ o = 14 ∨ o = 15 ∨ o = 16 ∨ o = 17) ∨ (o = 1 ∨ o = 2 ∨ o = 3 ∨ o = 4 ∨ o = 5 ∨ o = 6 ∨ o = 7 ∨ o = 8 ∨ o = 9 ∨ o = 12 ∨ o = 13 ∨ o = 18)) with h1 | h1
  · refine fm_table (tgt := 88) (off := 87) hX d_P_endsPairing_1 (by decide) (by rcases h1 with e | e | e | e | e | e | e <;> rw [e] <;> decide) (by decide) ?_
    refine fm_iconst (v := nI 1) hX d_P_endsPairing_88 (by decide) rfl ?_
    refine fm_zret hX rfl (by decide) d_P_endsPairing_89 ?_
    first | exact fm_rvi (fm_b1 (by omega)) | exact fm_rvi (fm_b0 (by omega))
  · refine fm_table (tgt := 90) (off := 89) hX d_P_endsPairing_1 (by decide) (by rcases h1 with e | e | e | e | e | e | e | e | e | e | e | e <;> rw [e] <;> decide) (by decide) ?_
    refine fm_iconst (v := nI 0) hX d_P_endsPairing_90 (by decide) rfl ?_
    refine fm_zret hX rfl (by decide) d_P_endsPairing_91 ?_
    first | exact fm_rvi (fm_b1 (by omega)) | exact fm_rvi (fm_b0 (by omega))
abbrev Y_P_isJumpedInto : fm_Y := ("EscapeMill$Plan", b_P_isJumpedInto, 4, (some .boolean), 2)
set_option maxRecDepth 100000 in
set_option maxHeartbeats 4000000 in
theorem k_P_isJumpedInto {P : pr_T} {m : Nat} (hm : m < 5) (M : fm_M) (hP : cP M P) (hw : pr_wf P) {f t : Nat} (hf : f < 32) (ht : t < 32) : fm_ct SC y_P_isJumpedInto b_P_isJumpedInto 4 (some .boolean) 2 [.inr (kC m), .inl (nI f), .inl (nI t)] M (fm_br (fa_ji (P.1 m) (P.2.2 m) f t) M) := by
  refine fm_of (ls := [some (.inr (kC m)), some (.inl (nI f)), some (.inl (nI t)), none]) (by decide) wsA_good (Nat.le_of_ble_eq_true rfl) rfl (fun X hX => ?_)
  obtain ⟨wl, wi, wI⟩ := hw m hm
  have L2 : ∀ i, i ≤ P.1 m → (∀ j, j < i → ¬ (((P.2.2 m j).1 = 14 ∨ (P.2.2 m j).1 = 15) ∧ nI f ≤ (P.2.2 m j).2.2.2.2 ∧ (P.2.2 m j).2.2.2.2 ≤ nI t)) → fm_G SC Y_P_isJumpedInto X M (fm_br (fa_ji (P.1 m) (P.2.2 m) f t) M) 2 [some (.inr (kC m)), some (.inl (nI f)), some (.inl (nI t)), some (.inl (nI i))] [] M := by
    refine fm_ind (P.1 m) (fun i hle ih => ?_)
    intro hs
    refine fm_iload_n hX d_P_isJumpedInto_2 rfl rfl rfl ?_
    refine fm_aload_n hX d_P_isJumpedInto_3 rfl rfl rfl ?_
    refine fm_geti (v := nI (P.1 m)) hX fP_55 (s_C (by omega)) rfl (hP m (by omega)).1 d_P_isJumpedInto_4 rfl ?_
    refine fm_n_ge (tgt := 46) (pq := 10) hX d_P_isJumpedInto_7 rfl rfl (by omega) (by omega) (fun h7 => ?_) (fun h7 => ?_)
    · show fm_G SC Y_P_isJumpedInto X M (fm_br (fa_ji (P.1 m) (P.2.2 m) f t) M) 46 [some (.inr (kC m)), some (.inl (nI f)), some (.inl (nI t)), some (.inl (nI i))] [] M
      refine fm_iconst (v := nI 0) hX d_P_isJumpedInto_46 (by decide) rfl ?_
      refine fm_zret hX rfl (by decide) d_P_isJumpedInto_47 ?_
      exact fm_br0 (fun ⟨q, z1, z2⟩ => hs q (by omega) z2)
    · show fm_G SC Y_P_isJumpedInto X M (fm_br (fa_ji (P.1 m) (P.2.2 m) f t) M) 10 [some (.inr (kC m)), some (.inl (nI f)), some (.inl (nI t)), some (.inl (nI i))] [] M
      have w1 := (wI i (by omega)).1
      refine fm_aload_n hX d_P_isJumpedInto_10 rfl rfl rfl ?_
      refine fm_iload_n hX d_P_isJumpedInto_11 rfl rfl rfl ?_
      refine fm_callV_i (as := [.inl (nI i)]) (st := []) (pq := 15) hX (s_C (by omega)) rfl cP_88 rfl im_C_jumps se_C_jumps (k_C_jumps (by omega) M hP hw (i := i) (by omega)) rfl rfl (Nat.le_of_ble_eq_true rfl) (Nat.le_of_ble_eq_true rfl) d_P_isJumpedInto_12 rfl ?_
      refine fm_p1_eq (tgt := 40) (pq := 18) hX d_P_isJumpedInto_15 rfl rfl (fun h15 => ?_) (fun h15 => ?_)
      · show fm_G SC Y_P_isJumpedInto X M (fm_br (fa_ji (P.1 m) (P.2.2 m) f t) M) 40 [some (.inr (kC m)), some (.inl (nI f)), some (.inl (nI t)), some (.inl (nI i))] [] M
        refine fm_iinc (v := nI (i + 1)) (ls1 := [some (.inr (kC m)), some (.inl (nI f)), some (.inl (nI t)), some (.inl (nI (i + 1)))]) hX d_P_isJumpedInto_40 rfl (nI_add _ _) (by decide) rfl rfl ?_
        refine fm_goto (tgt := 2) hX d_P_isJumpedInto_43 rfl ?_
        first | exact ih (by omega) (lt_s hs (fun z => h15 z.1)) | exact ih (by omega) (lt_s hs (fun z => Int32.not_le.mpr h25 z.2.1)) | exact ih (by omega) (lt_s hs (fun z => Int32.not_le.mpr h35 z.2.2))
      · show fm_G SC Y_P_isJumpedInto X M (fm_br (fa_ji (P.1 m) (P.2.2 m) f t) M) 18 [some (.inr (kC m)), some (.inl (nI f)), some (.inl (nI t)), some (.inl (nI i))] [] M
        refine fm_aload_n hX d_P_isJumpedInto_18 rfl rfl rfl ?_
        refine fm_getr (q := kCa m 4) hX fP_65 (s_C (by omega)) rfl d_P_isJumpedInto_19 rfl ?_
        refine fm_iload_n hX d_P_isJumpedInto_22 rfl rfl rfl ?_
        refine fm_iald (v := (P.2.2 m i).2.2.2.2) hX (s_Ca4 (by omega)) rfl rfl (by omega) (by decide) ((hP m (by omega)).2.2 i (by omega)).2.2.2.2 d_P_isJumpedInto_23 rfl ?_
        refine fm_iload_n hX d_P_isJumpedInto_24 rfl rfl rfl ?_
        refine fm_icmp_lt (tgt := 40) (pq := 28) hX d_P_isJumpedInto_25 rfl rfl (fun h25 => ?_) (fun h25 => ?_)
        · show fm_G SC Y_P_isJumpedInto X M (fm_br (fa_ji (P.1 m) (P.2.2 m) f t) M) 40 [some (.inr (kC m)), some (.inl (nI f)), some (.inl (nI t)), some (.inl (nI i))] [] M
          refine fm_iinc (v := nI (i + 1)) (ls1 := [some (.inr (kC m)), some (.inl (nI f)), some (.inl (nI t)), some (.inl (nI (i + 1)))]) hX d_P_isJumpedInto_40 rfl (nI_add _ _) (by decide) rfl rfl ?_
          refine fm_goto (tgt := 2) hX d_P_isJumpedInto_43 rfl ?_
          first | exact ih (by omega) (lt_s hs (fun z => h15 z.1)) | exact ih (by omega) (lt_s hs (fun z => Int32.not_le.mpr h25 z.2.1)) | exact ih (by omega) (lt_s hs (fun z => Int32.not_le.mpr h35 z.2.2))
        · show fm_G SC Y_P_isJumpedInto X M (fm_br (fa_ji (P.1 m) (P.2.2 m) f t) M) 28 [some (.inr (kC m)), some (.inl (nI f)), some (.inl (nI t)), some (.inl (nI i))] [] M
          refine fm_aload_n hX d_P_isJumpedInto_28 rfl rfl rfl ?_
          refine fm_getr (q := kCa m 4) hX fP_65 (s_C (by omega)) rfl d_P_isJumpedInto_29 rfl ?_
          refine fm_iload_n hX d_P_isJumpedInto_32 rfl rfl rfl ?_
          refine fm_iald (v := (P.2.2 m i).2.2.2.2) hX (s_Ca4 (by omega)) rfl rfl (by omega) (by decide) ((hP m (by omega)).2.2 i (by omega)).2.2.2.2 d_P_isJumpedInto_33 rfl ?_
          refine fm_iload_n hX d_P_isJumpedInto_34 rfl rfl rfl ?_
          refine fm_icmp_gt (tgt := 40) (pq := 38) hX d_P_isJumpedInto_35 rfl rfl (fun h35 => ?_) (fun h35 => ?_)
          · show fm_G SC Y_P_isJumpedInto X M (fm_br (fa_ji (P.1 m) (P.2.2 m) f t) M) 40 [some (.inr (kC m)), some (.inl (nI f)), some (.inl (nI t)), some (.inl (nI i))] [] M
            refine fm_iinc (v := nI (i + 1)) (ls1 := [some (.inr (kC m)), some (.inl (nI f)), some (.inl (nI t)), some (.inl (nI (i + 1)))]) hX d_P_isJumpedInto_40 rfl (nI_add _ _) (by decide) rfl rfl ?_
            refine fm_goto (tgt := 2) hX d_P_isJumpedInto_43 rfl ?_
            first | exact ih (by omega) (lt_s hs (fun z => h15 z.1)) | exact ih (by omega) (lt_s hs (fun z => Int32.not_le.mpr h25 z.2.1)) | exact ih (by omega) (lt_s hs (fun z => Int32.not_le.mpr h35 z.2.2))
          · show fm_G SC Y_P_isJumpedInto X M (fm_br (fa_ji (P.1 m) (P.2.2 m) f t) M) 38 [some (.inr (kC m)), some (.inl (nI f)), some (.inl (nI t)), some (.inl (nI i))] [] M
            refine fm_iconst (v := nI 1) hX d_P_isJumpedInto_38 (by decide) rfl ?_
            refine fm_zret hX rfl (by decide) d_P_isJumpedInto_39 ?_
            exact fm_br1 ⟨i, by omega, h15, Int32.not_lt.mp h25, Int32.not_lt.mp h35⟩
  show fm_G SC Y_P_isJumpedInto X M (fm_br (fa_ji (P.1 m) (P.2.2 m) f t) M) 0 [some (.inr (kC m)), some (.inl (nI f)), some (.inl (nI t)), none] [] M
  refine fm_iconst (v := nI 0) hX d_P_isJumpedInto_0 (by decide) rfl ?_
  refine fm_istore_n (ls1 := [some (.inr (kC m)), some (.inl (nI f)), some (.inl (nI t)), some (.inl (nI 0))]) hX d_P_isJumpedInto_1 rfl (by decide) rfl rfl ?_
  exact L2 0 (by omega) (fun j hj => absurd hj (by omega))
abbrev Y_P_partner : fm_Y := ("EscapeMill$Plan", b_P_partner, 3, (some .int), 3)
set_option maxRecDepth 100000 in
set_option maxHeartbeats 4000000 in
theorem k_P_partner {P : pr_T} {m : Nat} (hm : m < 5) (M : fm_M) (hP : cP M P) (hw : pr_wf P) {i : Nat} (hi : i < P.1 m) : fm_ct SC y_P_partner b_P_partner 3 (some .int) 3 [.inr (kC m), .inl (nI i)] M (fm_nr (fun v => (∃ j, v = nI j ∧ fa_pt (P.1 m) (P.2.2 m) i j) ∨ (v = -1 ∧ ¬ ∃ j, fa_pt (P.1 m) (P.2.2 m) i j)) M) := by
  refine fm_of (ls := [some (.inr (kC m)), some (.inl (nI i)), none]) (by decide) wsA_good (Nat.le_of_ble_eq_true rfl) rfl (fun X hX => ?_)
  obtain ⟨wl, wi, wI⟩ := hw m hm
  obtain ⟨w1, w2, w3, w4, w5, w6⟩ := wI i hi
  have L4 : ∀ j, j ≤ P.1 m → i < j → (∀ q, i < q → q < j → ¬ fa_in (P.2.2 m q)) → fm_G SC Y_P_partner X M (fm_nr (fun v => (∃ j, v = nI j ∧ fa_pt (P.1 m) (P.2.2 m) i j) ∨ (v = -1 ∧ ¬ ∃ j, fa_pt (P.1 m) (P.2.2 m) i j)) M) 4 [some (.inr (kC m)), some (.inl (nI i)), some (.inl (nI j))] [] M := by
    refine fm_ind (P.1 m) (fun j hle ih => ?_)
    intro hij hs
    refine fm_iload_n hX d_P_partner_4 rfl rfl rfl ?_
    refine fm_aload_n hX d_P_partner_5 rfl rfl rfl ?_
    refine fm_geti (v := nI (P.1 m)) hX fP_55 (s_C (by omega)) rfl (hP m (by omega)).1 d_P_partner_6 rfl ?_
    refine fm_n_ge (tgt := 75) (pq := 12) hX d_P_partner_9 rfl rfl (by omega) (by omega) (fun h9 => ?_) (fun h9 => ?_)
    · show fm_G SC Y_P_partner X M (fm_nr (fun v => (∃ j, v = nI j ∧ fa_pt (P.1 m) (P.2.2 m) i j) ∨ (v = -1 ∧ ¬ ∃ j, fa_pt (P.1 m) (P.2.2 m) i j)) M) 75 [some (.inr (kC m)), some (.inl (nI i)), some (.inl (nI j))] [] M
      refine fm_iconst (v := (-1)) hX d_P_partner_75 (by decide) rfl ?_
      refine fm_iret hX rfl d_P_partner_76 ?_
      exact ⟨_, rfl, Or.inr ⟨rfl, fun ⟨l, z⟩ => fa_pt_no3 (by omega) hs z⟩, rfl⟩
    · show fm_G SC Y_P_partner X M (fm_nr (fun v => (∃ j, v = nI j ∧ fa_pt (P.1 m) (P.2.2 m) i j) ∨ (v = -1 ∧ ¬ ∃ j, fa_pt (P.1 m) (P.2.2 m) i j)) M) 12 [some (.inr (kC m)), some (.inl (nI i)), some (.inl (nI j))] [] M
      obtain ⟨v1, v2, -⟩ := wI j (by omega)
      refine fm_aload_n hX d_P_partner_12 rfl rfl rfl ?_
      refine fm_getr (q := kCa m 0) hX fP_62 (s_C (by omega)) rfl d_P_partner_13 rfl ?_
      refine fm_iload_n hX d_P_partner_16 rfl rfl rfl ?_
      refine fm_iald (v := nI ((P.2.2 m j).1)) hX (s_Ca0 (by omega)) rfl rfl (by omega) (by decide) ((hP m (by omega)).2.2 j (by omega)).1 d_P_partner_17 rfl ?_
      refine fm_bipush (v := nI 11) hX d_P_partner_18 (by decide) rfl ?_
      refine fm_n_ne (tgt := 55) (pq := 23) hX d_P_partner_20 rfl rfl (by omega) (by omega) (fun h20 => ?_) (fun h20 => ?_)
      · show fm_G SC Y_P_partner X M (fm_nr (fun v => (∃ j, v = nI j ∧ fa_pt (P.1 m) (P.2.2 m) i j) ∨ (v = -1 ∧ ¬ ∃ j, fa_pt (P.1 m) (P.2.2 m) i j)) M) 55 [some (.inr (kC m)), some (.inl (nI i)), some (.inl (nI j))] [] M
        refine fm_aload_n hX d_P_partner_55 rfl rfl rfl ?_
        refine fm_getr (q := kCa m 0) hX fP_62 (s_C (by omega)) rfl d_P_partner_56 rfl ?_
        refine fm_iload_n hX d_P_partner_59 rfl rfl rfl ?_
        refine fm_iald (v := nI ((P.2.2 m j).1)) hX (s_Ca0 (by omega)) rfl rfl (by omega) (by decide) ((hP m (by omega)).2.2 j (by omega)).1 d_P_partner_60 rfl ?_
        refine fm_callS_i (as := [.inl (nI ((P.2.2 m j).1))]) (st := []) (pq := 64) hX cP_84 st_P_endsPairing (k_P_endsPairing (o := (P.2.2 m j).1) (by omega) M) rfl rfl (Nat.le_of_ble_eq_true rfl) (Nat.le_of_ble_eq_true rfl) d_P_partner_61 rfl ?_
        refine fm_p1_eq (tgt := 69) (pq := 67) hX d_P_partner_64 rfl rfl (fun h64 => ?_) (fun h64 => ?_)
        · show fm_G SC Y_P_partner X M (fm_nr (fun v => (∃ j, v = nI j ∧ fa_pt (P.1 m) (P.2.2 m) i j) ∨ (v = -1 ∧ ¬ ∃ j, fa_pt (P.1 m) (P.2.2 m) i j)) M) 69 [some (.inr (kC m)), some (.inl (nI i)), some (.inl (nI j))] [] M
          refine fm_iinc (v := nI (j + 1)) (ls1 := [some (.inr (kC m)), some (.inl (nI i)), some (.inl (nI (j + 1)))]) hX d_P_partner_69 rfl (nI_add _ _) (by decide) rfl rfl ?_
          refine fm_goto (tgt := 4) hX d_P_partner_72 rfl ?_
          exact ih (by omega) (by omega) (fun q h1 h2 => by
            by_cases e : q = j
            · rw [e]; exact h64
            · exact hs q h1 (by omega))
        · show fm_G SC Y_P_partner X M (fm_nr (fun v => (∃ j, v = nI j ∧ fa_pt (P.1 m) (P.2.2 m) i j) ∨ (v = -1 ∧ ¬ ∃ j, fa_pt (P.1 m) (P.2.2 m) i j)) M) 67 [some (.inr (kC m)), some (.inl (nI i)), some (.inl (nI j))] [] M
          refine fm_iconst (v := (-1)) hX d_P_partner_67 (by decide) rfl ?_
          refine fm_iret hX rfl d_P_partner_68 ?_
          exact ⟨_, rfl, Or.inr ⟨rfl, fun ⟨l, z⟩ => fa_pt_no2 hij hs h64 z (by first | exact fun q => h20 q.1 | exact fun q => h35 q.2)⟩, rfl⟩
      · show fm_G SC Y_P_partner X M (fm_nr (fun v => (∃ j, v = nI j ∧ fa_pt (P.1 m) (P.2.2 m) i j) ∨ (v = -1 ∧ ¬ ∃ j, fa_pt (P.1 m) (P.2.2 m) i j)) M) 23 [some (.inr (kC m)), some (.inl (nI i)), some (.inl (nI j))] [] M
        refine fm_aload_n hX d_P_partner_23 rfl rfl rfl ?_
        refine fm_getr (q := kCa m 1) hX fP_75 (s_C (by omega)) rfl d_P_partner_24 rfl ?_
        refine fm_iload_n hX d_P_partner_27 rfl rfl rfl ?_
        refine fm_iald (v := nI ((P.2.2 m j).2.1)) hX (s_Ca1 (by omega)) rfl rfl (by omega) (by decide) ((hP m (by omega)).2.2 j (by omega)).2.1 d_P_partner_28 rfl ?_
        refine fm_aload_n hX d_P_partner_29 rfl rfl rfl ?_
        refine fm_getr (q := kCa m 1) hX fP_75 (s_C (by omega)) rfl d_P_partner_30 rfl ?_
        refine fm_iload_n hX d_P_partner_33 rfl rfl rfl ?_
        refine fm_iald (v := nI ((P.2.2 m i).2.1)) hX (s_Ca1 (by omega)) rfl rfl (by omega) (by decide) ((hP m (by omega)).2.2 i (by omega)).2.1 d_P_partner_34 rfl ?_
        refine fm_n_ne (tgt := 55) (pq := 38) hX d_P_partner_35 rfl rfl (by omega) (by omega) (fun h35 => ?_) (fun h35 => ?_)
        · show fm_G SC Y_P_partner X M (fm_nr (fun v => (∃ j, v = nI j ∧ fa_pt (P.1 m) (P.2.2 m) i j) ∨ (v = -1 ∧ ¬ ∃ j, fa_pt (P.1 m) (P.2.2 m) i j)) M) 55 [some (.inr (kC m)), some (.inl (nI i)), some (.inl (nI j))] [] M
          refine fm_aload_n hX d_P_partner_55 rfl rfl rfl ?_
          refine fm_getr (q := kCa m 0) hX fP_62 (s_C (by omega)) rfl d_P_partner_56 rfl ?_
          refine fm_iload_n hX d_P_partner_59 rfl rfl rfl ?_
          refine fm_iald (v := nI ((P.2.2 m j).1)) hX (s_Ca0 (by omega)) rfl rfl (by omega) (by decide) ((hP m (by omega)).2.2 j (by omega)).1 d_P_partner_60 rfl ?_
          refine fm_callS_i (as := [.inl (nI ((P.2.2 m j).1))]) (st := []) (pq := 64) hX cP_84 st_P_endsPairing (k_P_endsPairing (o := (P.2.2 m j).1) (by omega) M) rfl rfl (Nat.le_of_ble_eq_true rfl) (Nat.le_of_ble_eq_true rfl) d_P_partner_61 rfl ?_
          refine fm_p1_eq (tgt := 69) (pq := 67) hX d_P_partner_64 rfl rfl (fun h64 => ?_) (fun h64 => ?_)
          · show fm_G SC Y_P_partner X M (fm_nr (fun v => (∃ j, v = nI j ∧ fa_pt (P.1 m) (P.2.2 m) i j) ∨ (v = -1 ∧ ¬ ∃ j, fa_pt (P.1 m) (P.2.2 m) i j)) M) 69 [some (.inr (kC m)), some (.inl (nI i)), some (.inl (nI j))] [] M
            refine fm_iinc (v := nI (j + 1)) (ls1 := [some (.inr (kC m)), some (.inl (nI i)), some (.inl (nI (j + 1)))]) hX d_P_partner_69 rfl (nI_add _ _) (by decide) rfl rfl ?_
            refine fm_goto (tgt := 4) hX d_P_partner_72 rfl ?_
            exact ih (by omega) (by omega) (fun q h1 h2 => by
              by_cases e : q = j
              · rw [e]; exact h64
              · exact hs q h1 (by omega))
          · show fm_G SC Y_P_partner X M (fm_nr (fun v => (∃ j, v = nI j ∧ fa_pt (P.1 m) (P.2.2 m) i j) ∨ (v = -1 ∧ ¬ ∃ j, fa_pt (P.1 m) (P.2.2 m) i j)) M) 67 [some (.inr (kC m)), some (.inl (nI i)), some (.inl (nI j))] [] M
            refine fm_iconst (v := (-1)) hX d_P_partner_67 (by decide) rfl ?_
            refine fm_iret hX rfl d_P_partner_68 ?_
            exact ⟨_, rfl, Or.inr ⟨rfl, fun ⟨l, z⟩ => fa_pt_no2 hij hs h64 z (by first | exact fun q => h20 q.1 | exact fun q => h35 q.2)⟩, rfl⟩
        · show fm_G SC Y_P_partner X M (fm_nr (fun v => (∃ j, v = nI j ∧ fa_pt (P.1 m) (P.2.2 m) i j) ∨ (v = -1 ∧ ¬ ∃ j, fa_pt (P.1 m) (P.2.2 m) i j)) M) 38 [some (.inr (kC m)), some (.inl (nI i)), some (.inl (nI j))] [] M
          refine fm_aload_n hX d_P_partner_38 rfl rfl rfl ?_
          refine fm_iload_n hX d_P_partner_39 rfl rfl rfl ?_
          refine fm_iconst (v := nI 1) hX d_P_partner_40 (by decide) rfl ?_
          refine fm_iadd (v := nI (i + 1)) hX d_P_partner_41 (nI_add _ _) rfl ?_
          refine fm_iload_n hX d_P_partner_42 rfl rfl rfl ?_
          refine fm_callS_b (as := [.inr (kC m), .inl (nI (i + 1)), .inl (nI j)]) (st := []) (pq := 46) hX cP_81 st_P_isJumpedInto (k_P_isJumpedInto (by omega) M hP hw (f := i + 1) (t := j) (by omega) (by omega)) rfl rfl (Nat.le_of_ble_eq_true rfl) (Nat.le_of_ble_eq_true rfl) d_P_partner_43 rfl (fun b43 c43 => ?_)
          refine fm_b1_eq (tgt := 53) (pq := 49) hX d_P_partner_46 rfl rfl (fun h46 => ?_) (fun h46 => ?_)
          · show fm_G SC Y_P_partner X M (fm_nr (fun v => (∃ j, v = nI j ∧ fa_pt (P.1 m) (P.2.2 m) i j) ∨ (v = -1 ∧ ¬ ∃ j, fa_pt (P.1 m) (P.2.2 m) i j)) M) 53 [some (.inr (kC m)), some (.inl (nI i)), some (.inl (nI j))] [] M
            refine fm_iload_n hX d_P_partner_53 rfl rfl rfl ?_
            refine fm_iret hX rfl d_P_partner_54 ?_
            first | exact ⟨_, rfl, Or.inl ⟨j, rfl, hij, by omega, h20, h35, hs, fun z => absurd (c43.mpr z) (by rw [h46]; decide)⟩, rfl⟩ | exact ⟨_, rfl, Or.inr ⟨rfl, fun ⟨l, z⟩ => fa_pt_no1 hij hs h20 z (c43.mp h46)⟩, rfl⟩
          · show fm_G SC Y_P_partner X M (fm_nr (fun v => (∃ j, v = nI j ∧ fa_pt (P.1 m) (P.2.2 m) i j) ∨ (v = -1 ∧ ¬ ∃ j, fa_pt (P.1 m) (P.2.2 m) i j)) M) 49 [some (.inr (kC m)), some (.inl (nI i)), some (.inl (nI j))] [] M
            refine fm_iconst (v := (-1)) hX d_P_partner_49 (by decide) rfl ?_
            refine fm_goto (tgt := 54) hX d_P_partner_50 rfl ?_
            refine fm_iret hX rfl d_P_partner_54 ?_
            first | exact ⟨_, rfl, Or.inl ⟨j, rfl, hij, by omega, h20, h35, hs, fun z => absurd (c43.mpr z) (by rw [h46]; decide)⟩, rfl⟩ | exact ⟨_, rfl, Or.inr ⟨rfl, fun ⟨l, z⟩ => fa_pt_no1 hij hs h20 z (c43.mp h46)⟩, rfl⟩
  show fm_G SC Y_P_partner X M (fm_nr (fun v => (∃ j, v = nI j ∧ fa_pt (P.1 m) (P.2.2 m) i j) ∨ (v = -1 ∧ ¬ ∃ j, fa_pt (P.1 m) (P.2.2 m) i j)) M) 0 [some (.inr (kC m)), some (.inl (nI i)), none] [] M
  refine fm_iload_n hX d_P_partner_0 rfl rfl rfl ?_
  refine fm_iconst (v := nI 1) hX d_P_partner_1 (by decide) rfl ?_
  refine fm_iadd (v := nI (i + 1)) hX d_P_partner_2 (nI_add _ _) rfl ?_
  refine fm_istore_n (ls1 := [some (.inr (kC m)), some (.inl (nI i)), some (.inl (nI (i + 1)))]) hX d_P_partner_3 rfl (by decide) rfl rfl ?_
  exact L4 (i + 1) (by omega) (by omega) (fun q h1 h2 => absurd h2 (by omega))
