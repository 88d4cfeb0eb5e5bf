/-! The reference: know, escapeOf, gives, onlyNew (written by program) -/
abbrev Y_R_know : fm_Y := ("EscapeMillModel", b_R_know, 2, none, 5)
set_option maxRecDepth 100000 in
set_option maxHeartbeats 4000000 in
theorem k_R_know {P : pr_T} (M : fm_M) (hP : rP M P) (hw : pr_wf P) (b : Bool) (hb : M 0 8 = bI b) (hT : b = true → rT P M) : fm_ct SR y_R_know b_R_know 2 none 5 [.inr 0] M (fm_vr (fun M' => rT P M' ∧ M' 0 8 = 1 ∧ rFr M M')) := by
  refine fm_of (ls := [some (.inr 0), none]) (by decide) wsA_good (Nat.le_of_ble_eq_true rfl) rfl (fun X hX => ?_)
  have hi2 : ∀ n, n < 5 → P.2.1 n ≤ 2 := fun n hn => (hw n hn).2.1
  have L2 : ∀ d, d ≤ 5 → ∀ (v : Int32) (M1 : fm_M), ((d < 5 → v = nI (4 - d)) ∧ (d = 5 → v = -1)) → (b = true → M1 = M) → rD P d M M1 → fm_G SR Y_R_know X M (fm_vr (fun M' => rT P M' ∧ M' 0 8 = 1 ∧ rFr M M')) 2 [some (.inr 0), some (.inl v)] [] M1 := by
    refine fm_ind 5 (fun d hle ih => ?_)
    intro v M1 hv hbM hD
    have hP1 := rD_P hD hP
    refine fm_iload_n (pq := 3) hX d_R_know_2 rfl rfl rfl ?_
    refine fm_if_lt (tgt := 24) (pq := 6) hX d_R_know_3 rfl rfl (fun h3 => ?_) (fun h3 => ?_)
    · show fm_G SR Y_R_know X M (fm_vr (fun M' => rT P M' ∧ M' 0 8 = 1 ∧ rFr M M')) 24 [some (.inr 0), some (.inl v)] [] M1
      refine fm_aload_n (pq := 25) hX d_R_know_24 rfl rfl rfl ?_
      refine fm_iconst (pq := 26) (v := nI 1) hX d_R_know_25 (by decide) rfl ?_
      refine fm_puti (pq := 29) hX fR_85 pR_8 rfl rfl (by decide) (by decide) d_R_know_26 rfl ?_
      refine fm_vret hX rfl d_R_know_29 ?_
      first
      | (have hd5 : d = 5 := by
          by_cases e : d = 5
          · exact e
          · rw [hv.1 (by omega)] at h3; exact absurd h3 (nI_pos (by omega))
         exact ⟨rfl, rD_e hi2 hD hd5⟩)
      | (rw [hbM h10]; exact ⟨rfl, rT_cg hi2 (hT h10) (fun a j h1 _ => fm_up_a (by omega)), fm_up_s, fun a j _ h2 => fm_up_n h2⟩)
    · show fm_G SR Y_R_know X M (fm_vr (fun M' => rT P M' ∧ M' 0 8 = 1 ∧ rFr M M')) 6 [some (.inr 0), some (.inl v)] [] M1
      refine fm_aload_n (pq := 7) hX d_R_know_6 rfl rfl rfl ?_
      refine fm_geti (pq := 10) (v := bI b) hX fR_85 rfl rfl (by first | exact hb | exact (hD.1 0 8 (by omega)).trans hb) d_R_know_7 rfl ?_
      refine fm_b1_ne (tgt := 24) (pq := 13) hX d_R_know_10 rfl rfl (fun h10 => ?_) (fun h10 => ?_)
      · show fm_G SR Y_R_know X M (fm_vr (fun M' => rT P M' ∧ M' 0 8 = 1 ∧ rFr M M')) 24 [some (.inr 0), some (.inl v)] [] M1
        refine fm_aload_n (pq := 25) hX d_R_know_24 rfl rfl rfl ?_
        refine fm_iconst (pq := 26) (v := nI 1) hX d_R_know_25 (by decide) rfl ?_
        refine fm_puti (pq := 29) hX fR_85 pR_8 rfl rfl (by decide) (by decide) d_R_know_26 rfl ?_
        refine fm_vret hX rfl d_R_know_29 ?_
        first
        | (have hd5 : d = 5 := by
            by_cases e : d = 5
            · exact e
            · rw [hv.1 (by omega)] at h3; exact absurd h3 (nI_pos (by omega))
           exact ⟨rfl, rD_e hi2 hD hd5⟩)
        | (rw [hbM h10]; exact ⟨rfl, rT_cg hi2 (hT h10) (fun a j h1 _ => fm_up_a (by omega)), fm_up_s, fun a j _ h2 => fm_up_n h2⟩)
      · show fm_G SR Y_R_know X M (fm_vr (fun M' => rT P M' ∧ M' 0 8 = 1 ∧ rFr M M')) 13 [some (.inr 0), some (.inl v)] [] M1
        have hd : d < 5 := by
          by_cases e : d = 5
          · rw [hv.2 e] at h3; exact absurd (by decide) h3
          · omega
        obtain rfl := hv.1 hd
        obtain ⟨hf, S, hS⟩ := hD
        refine fm_aload_n (pq := 14) hX d_R_know_13 rfl rfl rfl ?_
        refine fm_iload_n (pq := 15) hX d_R_know_14 rfl rfl rfl ?_
        refine fm_callV_r (as := [.inl (nI (4 - d))]) (st := []) (pq := 18) hX rfl rfl cR_121 rfl im_R_analyse se_R_analyse (k_R_analyse (m := 4 - d) (by omega) M1 hP1 hw S (fun n h1 h2 => (hS n (by omega) h2).2)) rfl rfl (Nat.le_of_ble_eq_true rfl) (Nat.le_of_ble_eq_true rfl) d_R_know_15 rfl (fun M15 c15 => ?_)
        obtain ⟨σ, g1, g2, g3⟩ := c15
        refine fm_iinc (pq := 21) (v := (nI (4 - d)) + Int32.ofInt (-1)) (ls1 := [some (.inr 0), some (.inl ((nI (4 - d)) + Int32.ofInt (-1)))]) hX d_R_know_18 rfl rfl (by decide) rfl rfl ?_
        refine fm_goto (tgt := 2) hX d_R_know_21 rfl ?_
        exact ih (by omega) _ _ ⟨fun z => fm_dec (by omega), fun z => by rw [show d = 4 by omega]; decide⟩ (fun z => absurd z (by rw [h10]; decide)) (rD_s hi2 hd hf hS g1 g2 g3)
  show fm_G SR Y_R_know X M (fm_vr (fun M' => rT P M' ∧ M' 0 8 = 1 ∧ rFr M M')) 0 [some (.inr 0), none] [] M
  refine fm_iconst (pq := 1) (v := nI 4) hX d_R_know_0 (by decide) rfl ?_
  refine fm_istore_n (pq := 2) (ls1 := [some (.inr 0), some (.inl (nI 4))]) hX d_R_know_1 rfl (by decide) rfl rfl ?_
  exact L2 0 (by omega) _ M ⟨fun _ => rfl, fun z => absurd z (by decide)⟩ (fun _ => rfl) rD_0
abbrev Y_R_escapeOf : fm_Y := ("EscapeMillModel", b_R_escapeOf, 5, (some .int), 2)
set_option maxRecDepth 100000 in
set_option maxHeartbeats 4000000 in
theorem k_R_escapeOf {P : pr_T} {m : Nat} (hm : m < 5) (M : fm_M) (hP : rP M P) (hw : pr_wf P) {i : Nat} (hi : i < 32) : fm_ct SR y_R_escapeOf b_R_escapeOf 5 (some .int) 2 [.inr 0, .inl (nI m), .inl (nI i)] M (fm_rv (if bt (an_rc (rA M m).2.1 an_W) i = true then nI 2 else bI (bt (an_rc (rA M m).2.1 (an_as (P.2.1 m) ||| (rA M m).2.2)) i)) M) := by
  refine fm_of (ls := [some (.inr 0), some (.inl (nI m)), some (.inl (nI i)), none, none]) (by decide) wsA_good (Nat.le_of_ble_eq_true rfl) rfl (fun X hX => ?_)
  obtain ⟨wl, wi, wI⟩ := hw m hm
  show fm_G SR Y_R_escapeOf X M (fm_rv (if bt (an_rc (rA M m).2.1 an_W) i = true then nI 2 else bI (bt (an_rc (rA M m).2.1 (an_as (P.2.1 m) ||| (rA M m).2.2)) i)) M) 0 [some (.inr 0), some (.inl (nI m)), some (.inl (nI i)), none, none] [] M
  refine fm_aload_n (pq := 1) hX d_R_escapeOf_0 rfl rfl rfl ?_
  refine fm_iload_n (pq := 2) hX d_R_escapeOf_1 rfl rfl rfl ?_
  refine fm_ldc (pq := 4) (v := an_W) hX d_R_escapeOf_2 kR_92 rfl ?_
  refine fm_callV_i (as := [.inl (nI m), .inl an_W]) (st := []) (pq := 7) hX rfl rfl cR_93 rfl im_R_reached se_R_reached (k_R_reached (m := m) (by omega) M an_W) rfl rfl (Nat.le_of_ble_eq_true rfl) (Nat.le_of_ble_eq_true rfl) d_R_escapeOf_4 rfl ?_
  refine fm_istore_n (pq := 8) (ls1 := [some (.inr 0), some (.inl (nI m)), some (.inl (nI i)), some (.inl (an_rc (rA M m).2.1 an_W)), none]) hX d_R_escapeOf_7 rfl (by decide) rfl rfl ?_
  refine fm_aload_n (pq := 9) hX d_R_escapeOf_8 rfl rfl rfl ?_
  refine fm_iload_n (pq := 10) hX d_R_escapeOf_9 rfl rfl rfl ?_
  refine fm_aload_n (pq := 11) hX d_R_escapeOf_10 rfl rfl rfl ?_
  refine fm_iload_n (pq := 12) hX d_R_escapeOf_11 rfl rfl rfl ?_
  refine fm_callV_i (as := [.inl (nI m)]) (st := [.inl (nI m), .inr 0]) (pq := 15) hX rfl rfl cR_125 rfl im_R_argsOf se_R_argsOf (k_R_argsOf (m := m) (by omega) M hP hw) rfl rfl (Nat.le_of_ble_eq_true rfl) (Nat.le_of_ble_eq_true rfl) d_R_escapeOf_12 rfl ?_
  refine fm_aload_n (pq := 16) hX d_R_escapeOf_15 rfl rfl rfl ?_
  refine fm_getr (pq := 19) (q := 10) hX fR_37 rfl rfl d_R_escapeOf_16 rfl ?_
  refine fm_iload_n (pq := 20) hX d_R_escapeOf_19 rfl rfl rfl ?_
  refine fm_iald (pq := 21) (v := (rA M m).2.2) hX rfl rfl rfl (by omega) (by decide) rfl d_R_escapeOf_20 rfl ?_
  refine fm_ior (pq := 22) (v := (an_as (P.2.1 m)) ||| ((rA M m).2.2)) hX d_R_escapeOf_21 rfl rfl ?_
  refine fm_callV_i (as := [.inl (nI m), .inl ((an_as (P.2.1 m)) ||| ((rA M m).2.2))]) (st := []) (pq := 25) hX rfl rfl cR_93 rfl im_R_reached se_R_reached (k_R_reached (m := m) (by omega) M ((an_as (P.2.1 m)) ||| ((rA M m).2.2))) rfl rfl (Nat.le_of_ble_eq_true rfl) (Nat.le_of_ble_eq_true rfl) d_R_escapeOf_22 rfl ?_
  refine fm_istore (pq := 27) (ls1 := [some (.inr 0), some (.inl (nI m)), some (.inl (nI i)), some (.inl (an_rc (rA M m).2.1 an_W)), some (.inl (an_rc (rA M m).2.1 ((an_as (P.2.1 m)) ||| ((rA M m).2.2))))]) hX d_R_escapeOf_25 (by decide) rfl rfl ?_
  refine fm_iload_n (pq := 28) hX d_R_escapeOf_27 rfl rfl rfl ?_
  refine fm_iload_n (pq := 29) hX d_R_escapeOf_28 rfl rfl rfl ?_
  refine fm_ishr (pq := 30) (v := (an_rc (rA M m).2.1 an_W) >>> (nI i &&& 31)) hX d_R_escapeOf_29 rfl rfl ?_
  refine fm_iconst (pq := 31) (v := nI 1) hX d_R_escapeOf_30 (by decide) rfl ?_
  refine fm_iand (pq := 32) (v := bI (bt (an_rc (rA M m).2.1 an_W) i)) hX d_R_escapeOf_31 (fm_bit _ (by omega)) rfl ?_
  refine fm_iconst (pq := 33) (v := nI 1) hX d_R_escapeOf_32 (by decide) rfl ?_
  refine fm_b2_ne1 (tgt := 40) (pq := 36) hX d_R_escapeOf_33 rfl rfl (fun h33 => ?_) (fun h33 => ?_)
  · show fm_G SR Y_R_escapeOf X M (fm_rv (if bt (an_rc (rA M m).2.1 an_W) i = true then nI 2 else bI (bt (an_rc (rA M m).2.1 (an_as (P.2.1 m) ||| (rA M m).2.2)) i)) M) 40 [some (.inr 0), some (.inl (nI m)), some (.inl (nI i)), some (.inl (an_rc (rA M m).2.1 an_W)), some (.inl (an_rc (rA M m).2.1 ((an_as (P.2.1 m)) ||| ((rA M m).2.2))))] [] M
    refine fm_iload (pq := 42) hX d_R_escapeOf_40 rfl rfl ?_
    refine fm_iload_n (pq := 43) hX d_R_escapeOf_42 rfl rfl rfl ?_
    refine fm_ishr (pq := 44) (v := (an_rc (rA M m).2.1 ((an_as (P.2.1 m)) ||| ((rA M m).2.2))) >>> (nI i &&& 31)) hX d_R_escapeOf_43 rfl rfl ?_
    refine fm_iconst (pq := 45) (v := nI 1) hX d_R_escapeOf_44 (by decide) rfl ?_
    refine fm_iand (pq := 46) (v := bI (bt (an_rc (rA M m).2.1 ((an_as (P.2.1 m)) ||| ((rA M m).2.2))) i)) hX d_R_escapeOf_45 (fm_bit _ (by omega)) rfl ?_
    refine fm_iret hX rfl d_R_escapeOf_46 ?_
    first | exact fm_rvi (if_pos h33).symm | exact fm_rvi (if_neg (by rw [h33]; decide)).symm
  · show fm_G SR Y_R_escapeOf X M (fm_rv (if bt (an_rc (rA M m).2.1 an_W) i = true then nI 2 else bI (bt (an_rc (rA M m).2.1 (an_as (P.2.1 m) ||| (rA M m).2.2)) i)) M) 36 [some (.inr 0), some (.inl (nI m)), some (.inl (nI i)), some (.inl (an_rc (rA M m).2.1 an_W)), some (.inl (an_rc (rA M m).2.1 ((an_as (P.2.1 m)) ||| ((rA M m).2.2))))] [] M
    refine fm_iconst (pq := 37) (v := nI 2) hX d_R_escapeOf_36 (by decide) rfl ?_
    refine fm_goto (tgt := 46) hX d_R_escapeOf_37 rfl ?_
    refine fm_iret hX rfl d_R_escapeOf_46 ?_
    first | exact fm_rvi (if_pos h33).symm | exact fm_rvi (if_neg (by rw [h33]; decide)).symm
abbrev Y_R_gives : fm_Y := ("EscapeMillModel", b_R_gives, 9, (some .boolean), 1)
set_option maxRecDepth 100000 in
set_option maxHeartbeats 4000000 in
theorem k_R_gives {P : pr_T} {m : Nat} (hm : m < 5) (M : fm_M) (hP : rP M P) (hw : pr_wf P) {i : Nat} (hi : i < P.1 m) {r : Nat} (hr : r < 4) : fm_ct SR y_R_gives b_R_gives 9 (some .boolean) 1 [.inr 0, .inl (nI m), .inl (nI i), .inl (nI r)] M (fm_rv (bI (decide (fa_hd (fa_k P (P.2.2 m i)) (P.2.2 m i) r))) M) := by
  refine fm_of (ls := [some (.inr 0), some (.inl (nI m)), some (.inl (nI i)), some (.inl (nI r)), none, none, none, none, none]) (by decide) wsA_good (Nat.le_of_ble_eq_true rfl) rfl (fun X hX => ?_)
  obtain ⟨wl, wi, wI⟩ := hw m hm
  obtain ⟨w1, w2, w3, w4, w5, w6⟩ := wI i hi
  have hk2 := fa_k_le hw hm hi
  have hk0 : (P.2.2 m i).1 ≠ 16 → fa_k P (P.2.2 m i) = 0 := fun z => if_neg z
  have hkw := w6
  clear w6
  show fm_G SR Y_R_gives X M (fm_rv (bI (decide (fa_hd (fa_k P (P.2.2 m i)) (P.2.2 m i) r))) M) 0 [some (.inr 0), some (.inl (nI m)), some (.inl (nI i)), some (.inl (nI r)), none, none, none, none, none] [] M
  refine fm_bipush (pq := 2) (v := nI 24) hX d_R_gives_0 (by decide) rfl ?_
  refine fm_iload_n (pq := 3) hX d_R_gives_2 rfl rfl rfl ?_
  refine fm_imul (pq := 4) (v := nI (24 * m)) hX d_R_gives_3 (pk_mul _ _) rfl ?_
  refine fm_iload_n (pq := 5) hX d_R_gives_4 rfl rfl rfl ?_
  refine fm_iadd (pq := 6) (v := nI (24 * m + i)) hX d_R_gives_5 (nI_add _ _) rfl ?_
  refine fm_istore (pq := 8) (ls1 := [some (.inr 0), some (.inl (nI m)), some (.inl (nI i)), some (.inl (nI r)), some (.inl (nI (24 * m + i))), none, none, none, none]) hX d_R_gives_6 (by decide) rfl rfl ?_
  refine fm_aload_n (pq := 9) hX d_R_gives_8 rfl rfl rfl ?_
  refine fm_getr (pq := 12) (q := 3) hX fR_16 rfl rfl d_R_gives_9 rfl ?_
  refine fm_iload (pq := 14) hX d_R_gives_12 rfl rfl ?_
  refine fm_iald (pq := 15) (v := nI ((P.2.2 m i).1)) hX rfl rfl rfl (by omega) (by decide) ((hP m (by omega)).2.2 i (by omega)).1 d_R_gives_14 rfl ?_
  refine fm_istore (pq := 17) (ls1 := [some (.inr 0), some (.inl (nI m)), some (.inl (nI i)), some (.inl (nI r)), some (.inl (nI (24 * m + i))), some (.inl (nI ((P.2.2 m i).1))), none, none, none]) hX d_R_gives_15 (by decide) rfl rfl ?_
  have L45 : ∀ b : Bool, (b = true ↔ (((P.2.2 m i).1 = 1 ∨ (P.2.2 m i).1 = 4) ∧ (P.2.2 m i).2.2.1 = r)) → fm_G SR Y_R_gives X M (fm_rv (bI (decide (fa_hd (fa_k P (P.2.2 m i)) (P.2.2 m i) r))) M) 45 [some (.inr 0), some (.inl (nI m)), some (.inl (nI i)), some (.inl (nI r)), some (.inl (nI (24 * m + i))), some (.inl (nI ((P.2.2 m i).1))), none, none, none] [.inl (bI b)] M := by
    intro b45 hb45
    refine fm_istore (pq := 47) (ls1 := [some (.inr 0), some (.inl (nI m)), some (.inl (nI i)), some (.inl (nI r)), some (.inl (nI (24 * m + i))), some (.inl (nI ((P.2.2 m i).1))), some (.inl (bI b45)), none, none]) hX d_R_gives_45 (by decide) rfl rfl ?_
    have L77 : ∀ b : Bool, (b = true ↔ (((P.2.2 m i).1 = 12 ∨ (P.2.2 m i).1 = 17) ∧ (P.2.2 m i).2.1 = r)) → fm_G SR Y_R_gives X M (fm_rv (bI (decide (fa_hd (fa_k P (P.2.2 m i)) (P.2.2 m i) r))) M) 77 [some (.inr 0), some (.inl (nI m)), some (.inl (nI i)), some (.inl (nI r)), some (.inl (nI (24 * m + i))), some (.inl (nI ((P.2.2 m i).1))), some (.inl (bI b45)), none, none] [.inl (bI b)] M := by
      intro b77 hb77
      refine fm_istore (pq := 79) (ls1 := [some (.inr 0), some (.inl (nI m)), some (.inl (nI i)), some (.inl (nI r)), some (.inl (nI (24 * m + i))), some (.inl (nI ((P.2.2 m i).1))), some (.inl (bI b45)), some (.inl (bI b77)), none]) hX d_R_gives_77 (by decide) rfl rfl ?_
      have L102 : ∀ q : Nat, q = fa_k P (P.2.2 m i) → fm_G SR Y_R_gives X M (fm_rv (bI (decide (fa_hd (fa_k P (P.2.2 m i)) (P.2.2 m i) r))) M) 102 [some (.inr 0), some (.inl (nI m)), some (.inl (nI i)), some (.inl (nI r)), some (.inl (nI (24 * m + i))), some (.inl (nI ((P.2.2 m i).1))), some (.inl (bI b45)), some (.inl (bI b77)), none] [.inl (nI q)] M := by
        intro q hq
        subst hq
        refine fm_istore (pq := 104) (ls1 := [some (.inr 0), some (.inl (nI m)), some (.inl (nI i)), some (.inl (nI r)), some (.inl (nI (24 * m + i))), some (.inl (nI ((P.2.2 m i).1))), some (.inl (bI b45)), some (.inl (bI b77)), some (.inl (nI (fa_k P (P.2.2 m i))))]) hX d_R_gives_102 (by decide) rfl rfl ?_
        refine fm_iload (pq := 106) hX d_R_gives_104 rfl rfl ?_
        refine fm_b1_ne (tgt := 147) (pq := 109) hX d_R_gives_106 rfl rfl (fun h106 => ?_) (fun h106 => ?_)
        · show fm_G SR Y_R_gives X M (fm_rv (bI (decide (fa_hd (fa_k P (P.2.2 m i)) (P.2.2 m i) r))) M) 147 [some (.inr 0), some (.inl (nI m)), some (.inl (nI i)), some (.inl (nI r)), some (.inl (nI (24 * m + i))), some (.inl (nI ((P.2.2 m i).1))), some (.inl (bI b45)), some (.inl (bI b77)), some (.inl (nI (fa_k P (P.2.2 m i))))] [] M
          refine fm_iconst (pq := 148) (v := nI 1) hX d_R_gives_147 (by decide) rfl ?_
          refine fm_goto (tgt := 152) hX d_R_gives_148 rfl ?_
          refine fm_zret hX rfl (by decide) d_R_gives_152 ?_
          clear hkw
          have q45 : b45 = false → ¬ _ := fun z y => absurd (hb45.mpr y) (by rw [z]; decide)
          have q77 : b77 = false → ¬ _ := fun z y => absurd (hb77.mpr y) (by rw [z]; decide)
          first
          | exact fm_rvi (fm_b1 (by have := hb45.mp h106; omega))
          | exact fm_rvi (fm_b1 (by have := hb77.mp h111; omega))
          | exact fm_rvi (fm_b1 (by omega))
          | exact fm_rvi (fm_b0 (by have := q45 h106; have := q77 h111; omega))
        · show fm_G SR Y_R_gives X M (fm_rv (bI (decide (fa_hd (fa_k P (P.2.2 m i)) (P.2.2 m i) r))) M) 109 [some (.inr 0), some (.inl (nI m)), some (.inl (nI i)), some (.inl (nI r)), some (.inl (nI (24 * m + i))), some (.inl (nI ((P.2.2 m i).1))), some (.inl (bI b45)), some (.inl (bI b77)), some (.inl (nI (fa_k P (P.2.2 m i))))] [] M
          refine fm_iload (pq := 111) hX d_R_gives_109 rfl rfl ?_
          refine fm_b1_ne (tgt := 147) (pq := 114) hX d_R_gives_111 rfl rfl (fun h111 => ?_) (fun h111 => ?_)
          · show fm_G SR Y_R_gives X M (fm_rv (bI (decide (fa_hd (fa_k P (P.2.2 m i)) (P.2.2 m i) r))) M) 147 [some (.inr 0), some (.inl (nI m)), some (.inl (nI i)), some (.inl (nI r)), some (.inl (nI (24 * m + i))), some (.inl (nI ((P.2.2 m i).1))), some (.inl (bI b45)), some (.inl (bI b77)), some (.inl (nI (fa_k P (P.2.2 m i))))] [] M
            refine fm_iconst (pq := 148) (v := nI 1) hX d_R_gives_147 (by decide) rfl ?_
            refine fm_goto (tgt := 152) hX d_R_gives_148 rfl ?_
            refine fm_zret hX rfl (by decide) d_R_gives_152 ?_
            clear hkw
            have q45 : b45 = false → ¬ _ := fun z y => absurd (hb45.mpr y) (by rw [z]; decide)
            have q77 : b77 = false → ¬ _ := fun z y => absurd (hb77.mpr y) (by rw [z]; decide)
            first
            | exact fm_rvi (fm_b1 (by have := hb45.mp h106; omega))
            | exact fm_rvi (fm_b1 (by have := hb77.mp h111; omega))
            | exact fm_rvi (fm_b1 (by omega))
            | exact fm_rvi (fm_b0 (by have := q45 h106; have := q77 h111; omega))
          · show fm_G SR Y_R_gives X M (fm_rv (bI (decide (fa_hd (fa_k P (P.2.2 m i)) (P.2.2 m i) r))) M) 114 [some (.inr 0), some (.inl (nI m)), some (.inl (nI i)), some (.inl (nI r)), some (.inl (nI (24 * m + i))), some (.inl (nI ((P.2.2 m i).1))), some (.inl (bI b45)), some (.inl (bI b77)), some (.inl (nI (fa_k P (P.2.2 m i))))] [] M
            refine fm_iload (pq := 116) hX d_R_gives_114 rfl rfl ?_
            refine fm_z_le (tgt := 130) (pq := 119) hX d_R_gives_116 rfl rfl (by omega) (fun h116 => ?_) (fun h116 => ?_)
            · show fm_G SR Y_R_gives X M (fm_rv (bI (decide (fa_hd (fa_k P (P.2.2 m i)) (P.2.2 m i) r))) M) 130 [some (.inr 0), some (.inl (nI m)), some (.inl (nI i)), some (.inl (nI r)), some (.inl (nI (24 * m + i))), some (.inl (nI ((P.2.2 m i).1))), some (.inl (bI b45)), some (.inl (bI b77)), some (.inl (nI (fa_k P (P.2.2 m i))))] [] M
              refine fm_iload (pq := 132) hX d_R_gives_130 rfl rfl ?_
              refine fm_iconst (pq := 133) (v := nI 1) hX d_R_gives_132 (by decide) rfl ?_
              refine fm_n_le (tgt := 151) (pq := 136) hX d_R_gives_133 rfl rfl (by omega) (by omega) (fun h133 => ?_) (fun h133 => ?_)
              · show fm_G SR Y_R_gives X M (fm_rv (bI (decide (fa_hd (fa_k P (P.2.2 m i)) (P.2.2 m i) r))) M) 151 [some (.inr 0), some (.inl (nI m)), some (.inl (nI i)), some (.inl (nI r)), some (.inl (nI (24 * m + i))), some (.inl (nI ((P.2.2 m i).1))), some (.inl (bI b45)), some (.inl (bI b77)), some (.inl (nI (fa_k P (P.2.2 m i))))] [] M
                refine fm_iconst (pq := 152) (v := nI 0) hX d_R_gives_151 (by decide) rfl ?_
                refine fm_zret hX rfl (by decide) d_R_gives_152 ?_
                clear hkw
                have q45 : b45 = false → ¬ _ := fun z y => absurd (hb45.mpr y) (by rw [z]; decide)
                have q77 : b77 = false → ¬ _ := fun z y => absurd (hb77.mpr y) (by rw [z]; decide)
                first
                | exact fm_rvi (fm_b1 (by have := hb45.mp h106; omega))
                | exact fm_rvi (fm_b1 (by have := hb77.mp h111; omega))
                | exact fm_rvi (fm_b1 (by omega))
                | exact fm_rvi (fm_b0 (by have := q45 h106; have := q77 h111; omega))
              · show fm_G SR Y_R_gives X M (fm_rv (bI (decide (fa_hd (fa_k P (P.2.2 m i)) (P.2.2 m i) r))) M) 136 [some (.inr 0), some (.inl (nI m)), some (.inl (nI i)), some (.inl (nI r)), some (.inl (nI (24 * m + i))), some (.inl (nI ((P.2.2 m i).1))), some (.inl (bI b45)), some (.inl (bI b77)), some (.inl (nI (fa_k P (P.2.2 m i))))] [] M
                refine fm_aload_n (pq := 137) hX d_R_gives_136 rfl rfl rfl ?_
                refine fm_getr (pq := 140) (q := 6) hX fR_25 rfl rfl d_R_gives_137 rfl ?_
                refine fm_iload (pq := 142) hX d_R_gives_140 rfl rfl ?_
                refine fm_iald (pq := 143) (v := nI ((P.2.2 m i).2.2.2.1)) hX rfl rfl rfl (by omega) (by decide) ((hP m (by omega)).2.2 i (by omega)).2.2.2.1 d_R_gives_142 rfl ?_
                refine fm_iload_n (pq := 144) hX d_R_gives_143 rfl rfl rfl ?_
                refine fm_n_ne (tgt := 151) (pq := 147) hX d_R_gives_144 rfl rfl (by omega) (by omega) (fun h144 => ?_) (fun h144 => ?_)
                · show fm_G SR Y_R_gives X M (fm_rv (bI (decide (fa_hd (fa_k P (P.2.2 m i)) (P.2.2 m i) r))) M) 151 [some (.inr 0), some (.inl (nI m)), some (.inl (nI i)), some (.inl (nI r)), some (.inl (nI (24 * m + i))), some (.inl (nI ((P.2.2 m i).1))), some (.inl (bI b45)), some (.inl (bI b77)), some (.inl (nI (fa_k P (P.2.2 m i))))] [] M
                  refine fm_iconst (pq := 152) (v := nI 0) hX d_R_gives_151 (by decide) rfl ?_
                  refine fm_zret hX rfl (by decide) d_R_gives_152 ?_
                  clear hkw
                  have q45 : b45 = false → ¬ _ := fun z y => absurd (hb45.mpr y) (by rw [z]; decide)
                  have q77 : b77 = false → ¬ _ := fun z y => absurd (hb77.mpr y) (by rw [z]; decide)
                  first
                  | exact fm_rvi (fm_b1 (by have := hb45.mp h106; omega))
                  | exact fm_rvi (fm_b1 (by have := hb77.mp h111; omega))
                  | exact fm_rvi (fm_b1 (by omega))
                  | exact fm_rvi (fm_b0 (by have := q45 h106; have := q77 h111; omega))
                · show fm_G SR Y_R_gives X M (fm_rv (bI (decide (fa_hd (fa_k P (P.2.2 m i)) (P.2.2 m i) r))) M) 147 [some (.inr 0), some (.inl (nI m)), some (.inl (nI i)), some (.inl (nI r)), some (.inl (nI (24 * m + i))), some (.inl (nI ((P.2.2 m i).1))), some (.inl (bI b45)), some (.inl (bI b77)), some (.inl (nI (fa_k P (P.2.2 m i))))] [] M
                  refine fm_iconst (pq := 148) (v := nI 1) hX d_R_gives_147 (by decide) rfl ?_
                  refine fm_goto (tgt := 152) hX d_R_gives_148 rfl ?_
                  refine fm_zret hX rfl (by decide) d_R_gives_152 ?_
                  clear hkw
                  have q45 : b45 = false → ¬ _ := fun z y => absurd (hb45.mpr y) (by rw [z]; decide)
                  have q77 : b77 = false → ¬ _ := fun z y => absurd (hb77.mpr y) (by rw [z]; decide)
                  first
                  | exact fm_rvi (fm_b1 (by have := hb45.mp h106; omega))
                  | exact fm_rvi (fm_b1 (by have := hb77.mp h111; omega))
                  | exact fm_rvi (fm_b1 (by omega))
                  | exact fm_rvi (fm_b0 (by have := q45 h106; have := q77 h111; omega))
            · show fm_G SR Y_R_gives X M (fm_rv (bI (decide (fa_hd (fa_k P (P.2.2 m i)) (P.2.2 m i) r))) M) 119 [some (.inr 0), some (.inl (nI m)), some (.inl (nI i)), some (.inl (nI r)), some (.inl (nI (24 * m + i))), some (.inl (nI ((P.2.2 m i).1))), some (.inl (bI b45)), some (.inl (bI b77)), some (.inl (nI (fa_k P (P.2.2 m i))))] [] M
              refine fm_aload_n (pq := 120) hX d_R_gives_119 rfl rfl rfl ?_
              refine fm_getr (pq := 123) (q := 5) hX fR_22 rfl rfl d_R_gives_120 rfl ?_
              refine fm_iload (pq := 125) hX d_R_gives_123 rfl rfl ?_
              refine fm_iald (pq := 126) (v := nI ((P.2.2 m i).2.2.1)) hX rfl rfl rfl (by omega) (by decide) ((hP m (by omega)).2.2 i (by omega)).2.2.1 d_R_gives_125 rfl ?_
              refine fm_iload_n (pq := 127) hX d_R_gives_126 rfl rfl rfl ?_
              refine fm_n_eq (tgt := 147) (pq := 130) hX d_R_gives_127 rfl rfl (by omega) (by omega) (fun h127 => ?_) (fun h127 => ?_)
              · show fm_G SR Y_R_gives X M (fm_rv (bI (decide (fa_hd (fa_k P (P.2.2 m i)) (P.2.2 m i) r))) M) 147 [some (.inr 0), some (.inl (nI m)), some (.inl (nI i)), some (.inl (nI r)), some (.inl (nI (24 * m + i))), some (.inl (nI ((P.2.2 m i).1))), some (.inl (bI b45)), some (.inl (bI b77)), some (.inl (nI (fa_k P (P.2.2 m i))))] [] M
                refine fm_iconst (pq := 148) (v := nI 1) hX d_R_gives_147 (by decide) rfl ?_
                refine fm_goto (tgt := 152) hX d_R_gives_148 rfl ?_
                refine fm_zret hX rfl (by decide) d_R_gives_152 ?_
                clear hkw
                have q45 : b45 = false → ¬ _ := fun z y => absurd (hb45.mpr y) (by rw [z]; decide)
                have q77 : b77 = false → ¬ _ := fun z y => absurd (hb77.mpr y) (by rw [z]; decide)
                first
                | exact fm_rvi (fm_b1 (by have := hb45.mp h106; omega))
                | exact fm_rvi (fm_b1 (by have := hb77.mp h111; omega))
                | exact fm_rvi (fm_b1 (by omega))
                | exact fm_rvi (fm_b0 (by have := q45 h106; have := q77 h111; omega))
              · show fm_G SR Y_R_gives X M (fm_rv (bI (decide (fa_hd (fa_k P (P.2.2 m i)) (P.2.2 m i) r))) M) 130 [some (.inr 0), some (.inl (nI m)), some (.inl (nI i)), some (.inl (nI r)), some (.inl (nI (24 * m + i))), some (.inl (nI ((P.2.2 m i).1))), some (.inl (bI b45)), some (.inl (bI b77)), some (.inl (nI (fa_k P (P.2.2 m i))))] [] M
                refine fm_iload (pq := 132) hX d_R_gives_130 rfl rfl ?_
                refine fm_iconst (pq := 133) (v := nI 1) hX d_R_gives_132 (by decide) rfl ?_
                refine fm_n_le (tgt := 151) (pq := 136) hX d_R_gives_133 rfl rfl (by omega) (by omega) (fun h133 => ?_) (fun h133 => ?_)
                · show fm_G SR Y_R_gives X M (fm_rv (bI (decide (fa_hd (fa_k P (P.2.2 m i)) (P.2.2 m i) r))) M) 151 [some (.inr 0), some (.inl (nI m)), some (.inl (nI i)), some (.inl (nI r)), some (.inl (nI (24 * m + i))), some (.inl (nI ((P.2.2 m i).1))), some (.inl (bI b45)), some (.inl (bI b77)), some (.inl (nI (fa_k P (P.2.2 m i))))] [] M
                  refine fm_iconst (pq := 152) (v := nI 0) hX d_R_gives_151 (by decide) rfl ?_
                  refine fm_zret hX rfl (by decide) d_R_gives_152 ?_
                  clear hkw
                  have q45 : b45 = false → ¬ _ := fun z y => absurd (hb45.mpr y) (by rw [z]; decide)
                  have q77 : b77 = false → ¬ _ := fun z y => absurd (hb77.mpr y) (by rw [z]; decide)
                  first
                  | exact fm_rvi (fm_b1 (by have := hb45.mp h106; omega))
                  | exact fm_rvi (fm_b1 (by have := hb77.mp h111; omega))
                  | exact fm_rvi (fm_b1 (by omega))
                  | exact fm_rvi (fm_b0 (by have := q45 h106; have := q77 h111; omega))
                · show fm_G SR Y_R_gives X M (fm_rv (bI (decide (fa_hd (fa_k P (P.2.2 m i)) (P.2.2 m i) r))) M) 136 [some (.inr 0), some (.inl (nI m)), some (.inl (nI i)), some (.inl (nI r)), some (.inl (nI (24 * m + i))), some (.inl (nI ((P.2.2 m i).1))), some (.inl (bI b45)), some (.inl (bI b77)), some (.inl (nI (fa_k P (P.2.2 m i))))] [] M
                  refine fm_aload_n (pq := 137) hX d_R_gives_136 rfl rfl rfl ?_
                  refine fm_getr (pq := 140) (q := 6) hX fR_25 rfl rfl d_R_gives_137 rfl ?_
                  refine fm_iload (pq := 142) hX d_R_gives_140 rfl rfl ?_
                  refine fm_iald (pq := 143) (v := nI ((P.2.2 m i).2.2.2.1)) hX rfl rfl rfl (by omega) (by decide) ((hP m (by omega)).2.2 i (by omega)).2.2.2.1 d_R_gives_142 rfl ?_
                  refine fm_iload_n (pq := 144) hX d_R_gives_143 rfl rfl rfl ?_
                  refine fm_n_ne (tgt := 151) (pq := 147) hX d_R_gives_144 rfl rfl (by omega) (by omega) (fun h144 => ?_) (fun h144 => ?_)
                  · show fm_G SR Y_R_gives X M (fm_rv (bI (decide (fa_hd (fa_k P (P.2.2 m i)) (P.2.2 m i) r))) M) 151 [some (.inr 0), some (.inl (nI m)), some (.inl (nI i)), some (.inl (nI r)), some (.inl (nI (24 * m + i))), some (.inl (nI ((P.2.2 m i).1))), some (.inl (bI b45)), some (.inl (bI b77)), some (.inl (nI (fa_k P (P.2.2 m i))))] [] M
                    refine fm_iconst (pq := 152) (v := nI 0) hX d_R_gives_151 (by decide) rfl ?_
                    refine fm_zret hX rfl (by decide) d_R_gives_152 ?_
                    clear hkw
                    have q45 : b45 = false → ¬ _ := fun z y => absurd (hb45.mpr y) (by rw [z]; decide)
                    have q77 : b77 = false → ¬ _ := fun z y => absurd (hb77.mpr y) (by rw [z]; decide)
                    first
                    | exact fm_rvi (fm_b1 (by have := hb45.mp h106; omega))
                    | exact fm_rvi (fm_b1 (by have := hb77.mp h111; omega))
                    | exact fm_rvi (fm_b1 (by omega))
                    | exact fm_rvi (fm_b0 (by have := q45 h106; have := q77 h111; omega))
                  · show fm_G SR Y_R_gives X M (fm_rv (bI (decide (fa_hd (fa_k P (P.2.2 m i)) (P.2.2 m i) r))) M) 147 [some (.inr 0), some (.inl (nI m)), some (.inl (nI i)), some (.inl (nI r)), some (.inl (nI (24 * m + i))), some (.inl (nI ((P.2.2 m i).1))), some (.inl (bI b45)), some (.inl (bI b77)), some (.inl (nI (fa_k P (P.2.2 m i))))] [] M
                    refine fm_iconst (pq := 148) (v := nI 1) hX d_R_gives_147 (by decide) rfl ?_
                    refine fm_goto (tgt := 152) hX d_R_gives_148 rfl ?_
                    refine fm_zret hX rfl (by decide) d_R_gives_152 ?_
                    clear hkw
                    have q45 : b45 = false → ¬ _ := fun z y => absurd (hb45.mpr y) (by rw [z]; decide)
                    have q77 : b77 = false → ¬ _ := fun z y => absurd (hb77.mpr y) (by rw [z]; decide)
                    first
                    | exact fm_rvi (fm_b1 (by have := hb45.mp h106; omega))
                    | exact fm_rvi (fm_b1 (by have := hb77.mp h111; omega))
                    | exact fm_rvi (fm_b1 (by omega))
                    | exact fm_rvi (fm_b0 (by have := q45 h106; have := q77 h111; omega))
      refine fm_iload (pq := 81) hX d_R_gives_79 rfl rfl ?_
      refine fm_bipush (pq := 83) (v := nI 16) hX d_R_gives_81 (by decide) rfl ?_
      refine fm_n_ne (tgt := 101) (pq := 86) hX d_R_gives_83 rfl rfl (by omega) (by omega) (fun h83 => ?_) (fun h83 => ?_)
      · show fm_G SR Y_R_gives X M (fm_rv (bI (decide (fa_hd (fa_k P (P.2.2 m i)) (P.2.2 m i) r))) M) 101 [some (.inr 0), some (.inl (nI m)), some (.inl (nI i)), some (.inl (nI r)), some (.inl (nI (24 * m + i))), some (.inl (nI ((P.2.2 m i).1))), some (.inl (bI b45)), some (.inl (bI b77)), none] [] M
        refine fm_iconst (pq := 102) (v := nI 0) hX d_R_gives_101 (by decide) rfl ?_
        first | exact L102 _ (by unfold fa_k; rw [if_pos h83, hn, nI_clamp (by omega)]) | exact L102 _ (by unfold fa_k; rw [if_neg h83])
      · show fm_G SR Y_R_gives X M (fm_rv (bI (decide (fa_hd (fa_k P (P.2.2 m i)) (P.2.2 m i) r))) M) 86 [some (.inr 0), some (.inl (nI m)), some (.inl (nI i)), some (.inl (nI r)), some (.inl (nI (24 * m + i))), some (.inl (nI ((P.2.2 m i).1))), some (.inl (bI b45)), some (.inl (bI b77)), none] [] M
        obtain ⟨k, hk, hn⟩ := hkw h83
        refine fm_aload_n (pq := 87) hX d_R_gives_86 rfl rfl rfl ?_
        refine fm_getr (pq := 90) (q := 1) hX fR_7 rfl rfl d_R_gives_87 rfl ?_
        refine fm_aload_n (pq := 91) hX d_R_gives_90 rfl rfl rfl ?_
        refine fm_getr (pq := 94) (q := 7) hX fR_28 rfl rfl d_R_gives_91 rfl ?_
        refine fm_iload (pq := 96) hX d_R_gives_94 rfl rfl ?_
        refine fm_iald (pq := 97) (v := nI k) hX rfl rfl rfl (by omega) (by decide) (((hP m (by omega)).2.2 i (by omega)).2.2.2.2.trans hn) d_R_gives_96 rfl ?_
        refine fm_iald (pq := 98) (v := nI (P.2.1 k)) hX rfl rfl rfl (by omega) (by decide) (hP k (by omega)).2.1 d_R_gives_97 rfl ?_
        refine fm_goto (tgt := 102) hX d_R_gives_98 rfl ?_
        first | exact L102 _ (by unfold fa_k; rw [if_pos h83, hn, nI_clamp (by omega)]) | exact L102 _ (by unfold fa_k; rw [if_neg h83])
    refine fm_iload (pq := 49) hX d_R_gives_47 rfl rfl ?_
    refine fm_bipush (pq := 51) (v := nI 12) hX d_R_gives_49 (by decide) rfl ?_
    refine fm_n_eq (tgt := 61) (pq := 54) hX d_R_gives_51 rfl rfl (by omega) (by omega) (fun h51 => ?_) (fun h51 => ?_)
    · show fm_G SR Y_R_gives X M (fm_rv (bI (decide (fa_hd (fa_k P (P.2.2 m i)) (P.2.2 m i) r))) M) 61 [some (.inr 0), some (.inl (nI m)), some (.inl (nI i)), some (.inl (nI r)), some (.inl (nI (24 * m + i))), some (.inl (nI ((P.2.2 m i).1))), some (.inl (bI b45)), none, none] [] M
      refine fm_aload_n (pq := 62) hX d_R_gives_61 rfl rfl rfl ?_
      refine fm_getr (pq := 65) (q := 4) hX fR_19 rfl rfl d_R_gives_62 rfl ?_
      refine fm_iload (pq := 67) hX d_R_gives_65 rfl rfl ?_
      refine fm_iald (pq := 68) (v := nI ((P.2.2 m i).2.1)) hX rfl rfl rfl (by omega) (by decide) ((hP m (by omega)).2.2 i (by omega)).2.1 d_R_gives_67 rfl ?_
      refine fm_iload_n (pq := 69) hX d_R_gives_68 rfl rfl rfl ?_
      refine fm_n_ne (tgt := 76) (pq := 72) hX d_R_gives_69 rfl rfl (by omega) (by omega) (fun h69 => ?_) (fun h69 => ?_)
      · show fm_G SR Y_R_gives X M (fm_rv (bI (decide (fa_hd (fa_k P (P.2.2 m i)) (P.2.2 m i) r))) M) 76 [some (.inr 0), some (.inl (nI m)), some (.inl (nI i)), some (.inl (nI r)), some (.inl (nI (24 * m + i))), some (.inl (nI ((P.2.2 m i).1))), some (.inl (bI b45)), none, none] [] M
        refine fm_iconst (pq := 77) (v := nI 0) hX d_R_gives_76 (by decide) rfl ?_
        first | exact L77 true ⟨fun _ => by omega, fun _ => rfl⟩ | exact L77 false ⟨fun z => absurd z (by decide), fun z => absurd z (by omega)⟩
      · show fm_G SR Y_R_gives X M (fm_rv (bI (decide (fa_hd (fa_k P (P.2.2 m i)) (P.2.2 m i) r))) M) 72 [some (.inr 0), some (.inl (nI m)), some (.inl (nI i)), some (.inl (nI r)), some (.inl (nI (24 * m + i))), some (.inl (nI ((P.2.2 m i).1))), some (.inl (bI b45)), none, none] [] M
        refine fm_iconst (pq := 73) (v := nI 1) hX d_R_gives_72 (by decide) rfl ?_
        refine fm_goto (tgt := 77) hX d_R_gives_73 rfl ?_
        first | exact L77 true ⟨fun _ => by omega, fun _ => rfl⟩ | exact L77 false ⟨fun z => absurd z (by decide), fun z => absurd z (by omega)⟩
    · show fm_G SR Y_R_gives X M (fm_rv (bI (decide (fa_hd (fa_k P (P.2.2 m i)) (P.2.2 m i) r))) M) 54 [some (.inr 0), some (.inl (nI m)), some (.inl (nI i)), some (.inl (nI r)), some (.inl (nI (24 * m + i))), some (.inl (nI ((P.2.2 m i).1))), some (.inl (bI b45)), none, none] [] M
      refine fm_iload (pq := 56) hX d_R_gives_54 rfl rfl ?_
      refine fm_bipush (pq := 58) (v := nI 17) hX d_R_gives_56 (by decide) rfl ?_
      refine fm_n_ne (tgt := 76) (pq := 61) hX d_R_gives_58 rfl rfl (by omega) (by omega) (fun h58 => ?_) (fun h58 => ?_)
      · show fm_G SR Y_R_gives X M (fm_rv (bI (decide (fa_hd (fa_k P (P.2.2 m i)) (P.2.2 m i) r))) M) 76 [some (.inr 0), some (.inl (nI m)), some (.inl (nI i)), some (.inl (nI r)), some (.inl (nI (24 * m + i))), some (.inl (nI ((P.2.2 m i).1))), some (.inl (bI b45)), none, none] [] M
        refine fm_iconst (pq := 77) (v := nI 0) hX d_R_gives_76 (by decide) rfl ?_
        first | exact L77 true ⟨fun _ => by omega, fun _ => rfl⟩ | exact L77 false ⟨fun z => absurd z (by decide), fun z => absurd z (by omega)⟩
      · show fm_G SR Y_R_gives X M (fm_rv (bI (decide (fa_hd (fa_k P (P.2.2 m i)) (P.2.2 m i) r))) M) 61 [some (.inr 0), some (.inl (nI m)), some (.inl (nI i)), some (.inl (nI r)), some (.inl (nI (24 * m + i))), some (.inl (nI ((P.2.2 m i).1))), some (.inl (bI b45)), none, none] [] M
        refine fm_aload_n (pq := 62) hX d_R_gives_61 rfl rfl rfl ?_
        refine fm_getr (pq := 65) (q := 4) hX fR_19 rfl rfl d_R_gives_62 rfl ?_
        refine fm_iload (pq := 67) hX d_R_gives_65 rfl rfl ?_
        refine fm_iald (pq := 68) (v := nI ((P.2.2 m i).2.1)) hX rfl rfl rfl (by omega) (by decide) ((hP m (by omega)).2.2 i (by omega)).2.1 d_R_gives_67 rfl ?_
        refine fm_iload_n (pq := 69) hX d_R_gives_68 rfl rfl rfl ?_
        refine fm_n_ne (tgt := 76) (pq := 72) hX d_R_gives_69 rfl rfl (by omega) (by omega) (fun h69 => ?_) (fun h69 => ?_)
        · show fm_G SR Y_R_gives X M (fm_rv (bI (decide (fa_hd (fa_k P (P.2.2 m i)) (P.2.2 m i) r))) M) 76 [some (.inr 0), some (.inl (nI m)), some (.inl (nI i)), some (.inl (nI r)), some (.inl (nI (24 * m + i))), some (.inl (nI ((P.2.2 m i).1))), some (.inl (bI b45)), none, none] [] M
          refine fm_iconst (pq := 77) (v := nI 0) hX d_R_gives_76 (by decide) rfl ?_
          first | exact L77 true ⟨fun _ => by omega, fun _ => rfl⟩ | exact L77 false ⟨fun z => absurd z (by decide), fun z => absurd z (by omega)⟩
        · show fm_G SR Y_R_gives X M (fm_rv (bI (decide (fa_hd (fa_k P (P.2.2 m i)) (P.2.2 m i) r))) M) 72 [some (.inr 0), some (.inl (nI m)), some (.inl (nI i)), some (.inl (nI r)), some (.inl (nI (24 * m + i))), some (.inl (nI ((P.2.2 m i).1))), some (.inl (bI b45)), none, none] [] M
          refine fm_iconst (pq := 73) (v := nI 1) hX d_R_gives_72 (by decide) rfl ?_
          refine fm_goto (tgt := 77) hX d_R_gives_73 rfl ?_
          first | exact L77 true ⟨fun _ => by omega, fun _ => rfl⟩ | exact L77 false ⟨fun z => absurd z (by decide), fun z => absurd z (by omega)⟩
  refine fm_iload (pq := 19) hX d_R_gives_17 rfl rfl ?_
  refine fm_iconst (pq := 20) (v := nI 1) hX d_R_gives_19 (by decide) rfl ?_
  refine fm_n_eq (tgt := 29) (pq := 23) hX d_R_gives_20 rfl rfl (by omega) (by omega) (fun h20 => ?_) (fun h20 => ?_)
  · show fm_G SR Y_R_gives X M (fm_rv (bI (decide (fa_hd (fa_k P (P.2.2 m i)) (P.2.2 m i) r))) M) 29 [some (.inr 0), some (.inl (nI m)), some (.inl (nI i)), some (.inl (nI r)), some (.inl (nI (24 * m + i))), some (.inl (nI ((P.2.2 m i).1))), none, none, none] [] M
    refine fm_aload_n (pq := 30) hX d_R_gives_29 rfl rfl rfl ?_
    refine fm_getr (pq := 33) (q := 5) hX fR_22 rfl rfl d_R_gives_30 rfl ?_
    refine fm_iload (pq := 35) hX d_R_gives_33 rfl rfl ?_
    refine fm_iald (pq := 36) (v := nI ((P.2.2 m i).2.2.1)) hX rfl rfl rfl (by omega) (by decide) ((hP m (by omega)).2.2 i (by omega)).2.2.1 d_R_gives_35 rfl ?_
    refine fm_iload_n (pq := 37) hX d_R_gives_36 rfl rfl rfl ?_
    refine fm_n_ne (tgt := 44) (pq := 40) hX d_R_gives_37 rfl rfl (by omega) (by omega) (fun h37 => ?_) (fun h37 => ?_)
    · show fm_G SR Y_R_gives X M (fm_rv (bI (decide (fa_hd (fa_k P (P.2.2 m i)) (P.2.2 m i) r))) M) 44 [some (.inr 0), some (.inl (nI m)), some (.inl (nI i)), some (.inl (nI r)), some (.inl (nI (24 * m + i))), some (.inl (nI ((P.2.2 m i).1))), none, none, none] [] M
      refine fm_iconst (pq := 45) (v := nI 0) hX d_R_gives_44 (by decide) rfl ?_
      first | exact L45 true ⟨fun _ => by omega, fun _ => rfl⟩ | exact L45 false ⟨fun z => absurd z (by decide), fun z => absurd z (by omega)⟩
    · show fm_G SR Y_R_gives X M (fm_rv (bI (decide (fa_hd (fa_k P (P.2.2 m i)) (P.2.2 m i) r))) M) 40 [some (.inr 0), some (.inl (nI m)), some (.inl (nI i)), some (.inl (nI r)), some (.inl (nI (24 * m + i))), some (.inl (nI ((P.2.2 m i).1))), none, none, none] [] M
      refine fm_iconst (pq := 41) (v := nI 1) hX d_R_gives_40 (by decide) rfl ?_
      refine fm_goto (tgt := 45) hX d_R_gives_41 rfl ?_
      first | exact L45 true ⟨fun _ => by omega, fun _ => rfl⟩ | exact L45 false ⟨fun z => absurd z (by decide), fun z => absurd z (by omega)⟩
  · show fm_G SR Y_R_gives X M (fm_rv (bI (decide (fa_hd (fa_k P (P.2.2 m i)) (P.2.2 m i) r))) M) 23 [some (.inr 0), some (.inl (nI m)), some (.inl (nI i)), some (.inl (nI r)), some (.inl (nI (24 * m + i))), some (.inl (nI ((P.2.2 m i).1))), none, none, none] [] M
    refine fm_iload (pq := 25) hX d_R_gives_23 rfl rfl ?_
    refine fm_iconst (pq := 26) (v := nI 4) hX d_R_gives_25 (by decide) rfl ?_
    refine fm_n_ne (tgt := 44) (pq := 29) hX d_R_gives_26 rfl rfl (by omega) (by omega) (fun h26 => ?_) (fun h26 => ?_)
    · show fm_G SR Y_R_gives X M (fm_rv (bI (decide (fa_hd (fa_k P (P.2.2 m i)) (P.2.2 m i) r))) M) 44 [some (.inr 0), some (.inl (nI m)), some (.inl (nI i)), some (.inl (nI r)), some (.inl (nI (24 * m + i))), some (.inl (nI ((P.2.2 m i).1))), none, none, none] [] M
      refine fm_iconst (pq := 45) (v := nI 0) hX d_R_gives_44 (by decide) rfl ?_
      first | exact L45 true ⟨fun _ => by omega, fun _ => rfl⟩ | exact L45 false ⟨fun z => absurd z (by decide), fun z => absurd z (by omega)⟩
    · show fm_G SR Y_R_gives X M (fm_rv (bI (decide (fa_hd (fa_k P (P.2.2 m i)) (P.2.2 m i) r))) M) 29 [some (.inr 0), some (.inl (nI m)), some (.inl (nI i)), some (.inl (nI r)), some (.inl (nI (24 * m + i))), some (.inl (nI ((P.2.2 m i).1))), none, none, none] [] M
      refine fm_aload_n (pq := 30) hX d_R_gives_29 rfl rfl rfl ?_
      refine fm_getr (pq := 33) (q := 5) hX fR_22 rfl rfl d_R_gives_30 rfl ?_
      refine fm_iload (pq := 35) hX d_R_gives_33 rfl rfl ?_
      refine fm_iald (pq := 36) (v := nI ((P.2.2 m i).2.2.1)) hX rfl rfl rfl (by omega) (by decide) ((hP m (by omega)).2.2 i (by omega)).2.2.1 d_R_gives_35 rfl ?_
      refine fm_iload_n (pq := 37) hX d_R_gives_36 rfl rfl rfl ?_
      refine fm_n_ne (tgt := 44) (pq := 40) hX d_R_gives_37 rfl rfl (by omega) (by omega) (fun h37 => ?_) (fun h37 => ?_)
      · show fm_G SR Y_R_gives X M (fm_rv (bI (decide (fa_hd (fa_k P (P.2.2 m i)) (P.2.2 m i) r))) M) 44 [some (.inr 0), some (.inl (nI m)), some (.inl (nI i)), some (.inl (nI r)), some (.inl (nI (24 * m + i))), some (.inl (nI ((P.2.2 m i).1))), none, none, none] [] M
        refine fm_iconst (pq := 45) (v := nI 0) hX d_R_gives_44 (by decide) rfl ?_
        first | exact L45 true ⟨fun _ => by omega, fun _ => rfl⟩ | exact L45 false ⟨fun z => absurd z (by decide), fun z => absurd z (by omega)⟩
      · show fm_G SR Y_R_gives X M (fm_rv (bI (decide (fa_hd (fa_k P (P.2.2 m i)) (P.2.2 m i) r))) M) 40 [some (.inr 0), some (.inl (nI m)), some (.inl (nI i)), some (.inl (nI r)), some (.inl (nI (24 * m + i))), some (.inl (nI ((P.2.2 m i).1))), none, none, none] [] M
        refine fm_iconst (pq := 41) (v := nI 1) hX d_R_gives_40 (by decide) rfl ?_
        refine fm_goto (tgt := 45) hX d_R_gives_41 rfl ?_
        first | exact L45 true ⟨fun _ => by omega, fun _ => rfl⟩ | exact L45 false ⟨fun z => absurd z (by decide), fun z => absurd z (by omega)⟩
abbrev Y_R_onlyNew : fm_Y := ("EscapeMillModel", b_R_onlyNew, 7, (some .int), 2)
set_option maxRecDepth 100000 in
set_option maxHeartbeats 4000000 in
theorem k_R_onlyNew {P : pr_T} {m : Nat} (hm : m < 5) (M : fm_M) (hP : rP M P) (hw : pr_wf P) {r : Nat} (hr : r < 4) : fm_ct SR y_R_onlyNew b_R_onlyNew 7 (some .int) 2 [.inr 0, .inl (nI m), .inl (nI r)] M (fm_nr (fun v => (∃ k, v = nI k ∧ P.2.1 m ≤ r ∧ fa_nw (P.1 m) (P.2.2 m) r k) ∨ (v = -1 ∧ ¬ (P.2.1 m ≤ r ∧ ∃ k, fa_nw (P.1 m) (P.2.2 m) r k))) M) := by
  refine fm_of (ls := [some (.inr 0), some (.inl (nI m)), some (.inl (nI r)), none, none, none, none]) (by decide) wsA_good (Nat.le_of_ble_eq_true rfl) rfl (fun X hX => ?_)
  obtain ⟨wl, wi, wI⟩ := hw m hm
  have L8 : ∀ i, i ≤ P.1 m → ∀ (f : Int32) (n : Nat), n ≤ i → fa_ov (P.2.2 m) r i f n → fm_G SR Y_R_onlyNew X M (fm_nr (fun v => (∃ k, v = nI k ∧ P.2.1 m ≤ r ∧ fa_nw (P.1 m) (P.2.2 m) r k) ∨ (v = -1 ∧ ¬ (P.2.1 m ≤ r ∧ ∃ k, fa_nw (P.1 m) (P.2.2 m) r k))) M) 8 [some (.inr 0), some (.inl (nI m)), some (.inl (nI r)), some (.inl f), some (.inl (nI n)), some (.inl (nI i)), none] [] M := by
    refine fm_ind (P.1 m) (fun i hle ih => ?_)
    intro f n hn hs
    refine fm_iload (pq := 10) hX d_R_onlyNew_8 rfl rfl ?_
    refine fm_aload_n (pq := 11) hX d_R_onlyNew_10 rfl rfl rfl ?_
    refine fm_getr (pq := 14) (q := 2) hX fR_13 rfl rfl d_R_onlyNew_11 rfl ?_
    refine fm_iload_n (pq := 15) hX d_R_onlyNew_14 rfl rfl rfl ?_
    refine fm_iald (pq := 16) (v := nI (P.1 m)) hX rfl rfl rfl (by omega) (by decide) (hP m (by omega)).1 d_R_onlyNew_15 rfl ?_
    refine fm_n_ge (tgt := 108) (pq := 19) hX d_R_onlyNew_16 rfl rfl (by omega) (by omega) (fun h16 => ?_) (fun h16 => ?_)
    · show fm_G SR Y_R_onlyNew X M (fm_nr (fun v => (∃ k, v = nI k ∧ P.2.1 m ≤ r ∧ fa_nw (P.1 m) (P.2.2 m) r k) ∨ (v = -1 ∧ ¬ (P.2.1 m ≤ r ∧ ∃ k, fa_nw (P.1 m) (P.2.2 m) r k))) M) 108 [some (.inr 0), some (.inl (nI m)), some (.inl (nI r)), some (.inl f), some (.inl (nI n)), some (.inl (nI i)), none] [] M
      refine fm_iload (pq := 110) hX d_R_onlyNew_108 rfl rfl ?_
      refine fm_iconst (pq := 111) (v := nI 1) hX d_R_onlyNew_110 (by decide) rfl ?_
      refine fm_n_ne (tgt := 128) (pq := 114) hX d_R_onlyNew_111 rfl rfl (by omega) (by omega) (fun h111 => ?_) (fun h111 => ?_)
      · show fm_G SR Y_R_onlyNew X M (fm_nr (fun v => (∃ k, v = nI k ∧ P.2.1 m ≤ r ∧ fa_nw (P.1 m) (P.2.2 m) r k) ∨ (v = -1 ∧ ¬ (P.2.1 m ≤ r ∧ ∃ k, fa_nw (P.1 m) (P.2.2 m) r k))) M) 128 [some (.inr 0), some (.inl (nI m)), some (.inl (nI r)), some (.inl f), some (.inl (nI n)), some (.inl (nI i)), none] [] M
        refine fm_iconst (pq := 129) (v := (-1)) hX d_R_onlyNew_128 (by decide) rfl ?_
        refine fm_iret hX rfl d_R_onlyNew_129 ?_
        have e : i = P.1 m := by omega
        rw [e] at hs
        first
        | (have e1 : n = 1 := h111
           rw [e1] at hs
           refine ⟨_, rfl, ?_, rfl⟩
           rcases fa_ov_e1 hs with ⟨k, a1, a2⟩ | ⟨a1, a2⟩
           · exact Or.inl ⟨k, a1, by omega, a2⟩
           · exact Or.inr ⟨a1, fun z => a2 z.2⟩)
        | exact ⟨_, rfl, Or.inr ⟨rfl, fun z => absurd z.1 (by omega)⟩, rfl⟩
        | exact ⟨_, rfl, Or.inr ⟨rfl, fun z => fa_ov_e0 hs h111 z.2⟩, rfl⟩
      · show fm_G SR Y_R_onlyNew X M (fm_nr (fun v => (∃ k, v = nI k ∧ P.2.1 m ≤ r ∧ fa_nw (P.1 m) (P.2.2 m) r k) ∨ (v = -1 ∧ ¬ (P.2.1 m ≤ r ∧ ∃ k, fa_nw (P.1 m) (P.2.2 m) r k))) M) 114 [some (.inr 0), some (.inl (nI m)), some (.inl (nI r)), some (.inl f), some (.inl (nI n)), some (.inl (nI i)), none] [] M
        refine fm_iload_n (pq := 115) hX d_R_onlyNew_114 rfl rfl rfl ?_
        refine fm_aload_n (pq := 116) hX d_R_onlyNew_115 rfl rfl rfl ?_
        refine fm_getr (pq := 119) (q := 1) hX fR_7 rfl rfl d_R_onlyNew_116 rfl ?_
        refine fm_iload_n (pq := 120) hX d_R_onlyNew_119 rfl rfl rfl ?_
        refine fm_iald (pq := 121) (v := nI (P.2.1 m)) hX rfl rfl rfl (by omega) (by decide) (hP m (by omega)).2.1 d_R_onlyNew_120 rfl ?_
        refine fm_n_lt (tgt := 128) (pq := 124) hX d_R_onlyNew_121 rfl rfl (by omega) (by omega) (fun h121 => ?_) (fun h121 => ?_)
        · show fm_G SR Y_R_onlyNew X M (fm_nr (fun v => (∃ k, v = nI k ∧ P.2.1 m ≤ r ∧ fa_nw (P.1 m) (P.2.2 m) r k) ∨ (v = -1 ∧ ¬ (P.2.1 m ≤ r ∧ ∃ k, fa_nw (P.1 m) (P.2.2 m) r k))) M) 128 [some (.inr 0), some (.inl (nI m)), some (.inl (nI r)), some (.inl f), some (.inl (nI n)), some (.inl (nI i)), none] [] M
          refine fm_iconst (pq := 129) (v := (-1)) hX d_R_onlyNew_128 (by decide) rfl ?_
          refine fm_iret hX rfl d_R_onlyNew_129 ?_
          have e : i = P.1 m := by omega
          rw [e] at hs
          first
          | (have e1 : n = 1 := h111
             rw [e1] at hs
             refine ⟨_, rfl, ?_, rfl⟩
             rcases fa_ov_e1 hs with ⟨k, a1, a2⟩ | ⟨a1, a2⟩
             · exact Or.inl ⟨k, a1, by omega, a2⟩
             · exact Or.inr ⟨a1, fun z => a2 z.2⟩)
          | exact ⟨_, rfl, Or.inr ⟨rfl, fun z => absurd z.1 (by omega)⟩, rfl⟩
          | exact ⟨_, rfl, Or.inr ⟨rfl, fun z => fa_ov_e0 hs h111 z.2⟩, rfl⟩
        · show fm_G SR Y_R_onlyNew X M (fm_nr (fun v => (∃ k, v = nI k ∧ P.2.1 m ≤ r ∧ fa_nw (P.1 m) (P.2.2 m) r k) ∨ (v = -1 ∧ ¬ (P.2.1 m ≤ r ∧ ∃ k, fa_nw (P.1 m) (P.2.2 m) r k))) M) 124 [some (.inr 0), some (.inl (nI m)), some (.inl (nI r)), some (.inl f), some (.inl (nI n)), some (.inl (nI i)), none] [] M
          refine fm_iload_n (pq := 125) hX d_R_onlyNew_124 rfl rfl rfl ?_
          refine fm_goto (tgt := 129) hX d_R_onlyNew_125 rfl ?_
          refine fm_iret hX rfl d_R_onlyNew_129 ?_
          have e : i = P.1 m := by omega
          rw [e] at hs
          first
          | (have e1 : n = 1 := h111
             rw [e1] at hs
             refine ⟨_, rfl, ?_, rfl⟩
             rcases fa_ov_e1 hs with ⟨k, a1, a2⟩ | ⟨a1, a2⟩
             · exact Or.inl ⟨k, a1, by omega, a2⟩
             · exact Or.inr ⟨a1, fun z => a2 z.2⟩)
          | exact ⟨_, rfl, Or.inr ⟨rfl, fun z => absurd z.1 (by omega)⟩, rfl⟩
          | exact ⟨_, rfl, Or.inr ⟨rfl, fun z => fa_ov_e0 hs h111 z.2⟩, rfl⟩
    · show fm_G SR Y_R_onlyNew X M (fm_nr (fun v => (∃ k, v = nI k ∧ P.2.1 m ≤ r ∧ fa_nw (P.1 m) (P.2.2 m) r k) ∨ (v = -1 ∧ ¬ (P.2.1 m ≤ r ∧ ∃ k, fa_nw (P.1 m) (P.2.2 m) r k))) M) 19 [some (.inr 0), some (.inl (nI m)), some (.inl (nI r)), some (.inl f), some (.inl (nI n)), some (.inl (nI i)), none] [] M
      obtain ⟨w1, w2, -⟩ := wI i (by omega)
      have L58 : ∀ b : Bool, (b = true ↔ (((P.2.2 m i).1 ≤ 3 ∨ (P.2.2 m i).1 = 13 ∨ (P.2.2 m i).1 = 16) ∧ (P.2.2 m i).2.1 = r)) → fm_G SR Y_R_onlyNew X M (fm_nr (fun v => (∃ k, v = nI k ∧ P.2.1 m ≤ r ∧ fa_nw (P.1 m) (P.2.2 m) r k) ∨ (v = -1 ∧ ¬ (P.2.1 m ≤ r ∧ ∃ k, fa_nw (P.1 m) (P.2.2 m) r k))) M) 58 [some (.inr 0), some (.inl (nI m)), some (.inl (nI r)), some (.inl f), some (.inl (nI n)), some (.inl (nI i)), none] [.inl (bI b)] M := by
        intro b58 hb58
        refine fm_istore (pq := 60) (ls1 := [some (.inr 0), some (.inl (nI m)), some (.inl (nI r)), some (.inl f), some (.inl (nI n)), some (.inl (nI i)), some (.inl (bI b58))]) hX d_R_onlyNew_58 (by decide) rfl rfl ?_
        refine fm_iload (pq := 62) hX d_R_onlyNew_60 rfl rfl ?_
        refine fm_iload (pq := 64) hX d_R_onlyNew_62 rfl rfl ?_
        refine fm_b1_eq (tgt := 71) (pq := 67) hX d_R_onlyNew_64 rfl rfl (fun h64 => ?_) (fun h64 => ?_)
        · show fm_G SR Y_R_onlyNew X M (fm_nr (fun v => (∃ k, v = nI k ∧ P.2.1 m ≤ r ∧ fa_nw (P.1 m) (P.2.2 m) r k) ∨ (v = -1 ∧ ¬ (P.2.1 m ≤ r ∧ ∃ k, fa_nw (P.1 m) (P.2.2 m) r k))) M) 71 [some (.inr 0), some (.inl (nI m)), some (.inl (nI r)), some (.inl f), some (.inl (nI n)), some (.inl (nI i)), some (.inl (bI b58))] [.inl (nI n)] M
          refine fm_iconst (pq := 72) (v := nI 0) hX d_R_onlyNew_71 (by decide) rfl ?_
          refine fm_iadd (pq := 73) (v := nI (n + 0)) hX d_R_onlyNew_72 (nI_add _ _) rfl ?_
          refine fm_istore (pq := 75) (ls1 := [some (.inr 0), some (.inl (nI m)), some (.inl (nI r)), some (.inl f), some (.inl (nI (n + 0))), some (.inl (nI i)), some (.inl (bI b58))]) hX d_R_onlyNew_73 (by decide) rfl rfl ?_
          refine fm_iload (pq := 77) hX d_R_onlyNew_75 rfl rfl ?_
          refine fm_b1_eq (tgt := 100) (pq := 80) hX d_R_onlyNew_77 rfl rfl (fun h77 => ?_) (fun h77 => ?_)
          · show fm_G SR Y_R_onlyNew X M (fm_nr (fun v => (∃ k, v = nI k ∧ P.2.1 m ≤ r ∧ fa_nw (P.1 m) (P.2.2 m) r k) ∨ (v = -1 ∧ ¬ (P.2.1 m ≤ r ∧ ∃ k, fa_nw (P.1 m) (P.2.2 m) r k))) M) 100 [some (.inr 0), some (.inl (nI m)), some (.inl (nI r)), some (.inl f), some (.inl (nI (n + 0))), some (.inl (nI i)), some (.inl (bI b58))] [] M
            refine fm_iload_n (pq := 101) hX d_R_onlyNew_100 rfl rfl rfl ?_
            refine fm_istore_n (pq := 102) (ls1 := [some (.inr 0), some (.inl (nI m)), some (.inl (nI r)), some (.inl f), some (.inl (nI (n + 0))), some (.inl (nI i)), some (.inl (bI b58))]) hX d_R_onlyNew_101 rfl (by decide) rfl rfl ?_
            refine fm_iinc (pq := 105) (v := nI (i + 1)) (ls1 := [some (.inr 0), some (.inl (nI m)), some (.inl (nI r)), some (.inl f), some (.inl (nI (n + 0))), some (.inl (nI (i + 1))), some (.inl (bI b58))]) hX d_R_onlyNew_102 rfl (nI_add _ _) (by decide) rfl rfl ?_
            refine fm_goto (tgt := 8) hX d_R_onlyNew_105 rfl ?_
            refine fm_drop 6 (ls1 := [some (.inr 0), some (.inl (nI m)), some (.inl (nI r)), some (.inl f), some (.inl (nI (n + 0))), some (.inl (nI (i + 1))), none]) rfl ?_
            first
            | exact absurd (h64.symm.trans h77) (by decide)
            | exact absurd (h77.symm.trans h64) (by decide)
            | exact ih (by omega) _ (n + 1) (by omega) (fa_ov_y hs (hb58.mp h64) (fun _ => rfl) (fun z => absurd h92 z))
            | exact ih (by omega) _ (n + 1) (by omega) (fa_ov_y hs (hb58.mp h64) (fun z => absurd z h92) (fun _ => rfl))
            | exact ih (by omega) _ n (by omega) (fa_ov_n hs (fun z => absurd (hb58.mpr z) (by rw [h64]; decide)))
          · show fm_G SR Y_R_onlyNew X M (fm_nr (fun v => (∃ k, v = nI k ∧ P.2.1 m ≤ r ∧ fa_nw (P.1 m) (P.2.2 m) r k) ∨ (v = -1 ∧ ¬ (P.2.1 m ≤ r ∧ ∃ k, fa_nw (P.1 m) (P.2.2 m) r k))) M) 80 [some (.inr 0), some (.inl (nI m)), some (.inl (nI r)), some (.inl f), some (.inl (nI (n + 0))), some (.inl (nI i)), some (.inl (bI b58))] [] M
            refine fm_aload_n (pq := 81) hX d_R_onlyNew_80 rfl rfl rfl ?_
            refine fm_getr (pq := 84) (q := 3) hX fR_16 rfl rfl d_R_onlyNew_81 rfl ?_
            refine fm_bipush (pq := 86) (v := nI 24) hX d_R_onlyNew_84 (by decide) rfl ?_
            refine fm_iload_n (pq := 87) hX d_R_onlyNew_86 rfl rfl rfl ?_
            refine fm_imul (pq := 88) (v := nI (24 * m)) hX d_R_onlyNew_87 (pk_mul _ _) rfl ?_
            refine fm_iload (pq := 90) hX d_R_onlyNew_88 rfl rfl ?_
            refine fm_iadd (pq := 91) (v := nI (24 * m + i)) hX d_R_onlyNew_90 (nI_add _ _) rfl ?_
            refine fm_iald (pq := 92) (v := nI ((P.2.2 m i).1)) hX rfl rfl rfl (by omega) (by decide) ((hP m (by omega)).2.2 i (by omega)).1 d_R_onlyNew_91 rfl ?_
            refine fm_z_ne (tgt := 100) (pq := 95) hX d_R_onlyNew_92 rfl rfl (by omega) (fun h92 => ?_) (fun h92 => ?_)
            · show fm_G SR Y_R_onlyNew X M (fm_nr (fun v => (∃ k, v = nI k ∧ P.2.1 m ≤ r ∧ fa_nw (P.1 m) (P.2.2 m) r k) ∨ (v = -1 ∧ ¬ (P.2.1 m ≤ r ∧ ∃ k, fa_nw (P.1 m) (P.2.2 m) r k))) M) 100 [some (.inr 0), some (.inl (nI m)), some (.inl (nI r)), some (.inl f), some (.inl (nI (n + 0))), some (.inl (nI i)), some (.inl (bI b58))] [] M
              refine fm_iload_n (pq := 101) hX d_R_onlyNew_100 rfl rfl rfl ?_
              refine fm_istore_n (pq := 102) (ls1 := [some (.inr 0), some (.inl (nI m)), some (.inl (nI r)), some (.inl f), some (.inl (nI (n + 0))), some (.inl (nI i)), some (.inl (bI b58))]) hX d_R_onlyNew_101 rfl (by decide) rfl rfl ?_
              refine fm_iinc (pq := 105) (v := nI (i + 1)) (ls1 := [some (.inr 0), some (.inl (nI m)), some (.inl (nI r)), some (.inl f), some (.inl (nI (n + 0))), some (.inl (nI (i + 1))), some (.inl (bI b58))]) hX d_R_onlyNew_102 rfl (nI_add _ _) (by decide) rfl rfl ?_
              refine fm_goto (tgt := 8) hX d_R_onlyNew_105 rfl ?_
              refine fm_drop 6 (ls1 := [some (.inr 0), some (.inl (nI m)), some (.inl (nI r)), some (.inl f), some (.inl (nI (n + 0))), some (.inl (nI (i + 1))), none]) rfl ?_
              first
              | exact absurd (h64.symm.trans h77) (by decide)
              | exact absurd (h77.symm.trans h64) (by decide)
              | exact ih (by omega) _ (n + 1) (by omega) (fa_ov_y hs (hb58.mp h64) (fun _ => rfl) (fun z => absurd h92 z))
              | exact ih (by omega) _ (n + 1) (by omega) (fa_ov_y hs (hb58.mp h64) (fun z => absurd z h92) (fun _ => rfl))
              | exact ih (by omega) _ n (by omega) (fa_ov_n hs (fun z => absurd (hb58.mpr z) (by rw [h64]; decide)))
            · show fm_G SR Y_R_onlyNew X M (fm_nr (fun v => (∃ k, v = nI k ∧ P.2.1 m ≤ r ∧ fa_nw (P.1 m) (P.2.2 m) r k) ∨ (v = -1 ∧ ¬ (P.2.1 m ≤ r ∧ ∃ k, fa_nw (P.1 m) (P.2.2 m) r k))) M) 95 [some (.inr 0), some (.inl (nI m)), some (.inl (nI r)), some (.inl f), some (.inl (nI (n + 0))), some (.inl (nI i)), some (.inl (bI b58))] [] M
              refine fm_iload (pq := 97) hX d_R_onlyNew_95 rfl rfl ?_
              refine fm_goto (tgt := 101) hX d_R_onlyNew_97 rfl ?_
              refine fm_istore_n (pq := 102) (ls1 := [some (.inr 0), some (.inl (nI m)), some (.inl (nI r)), some (.inl (nI i)), some (.inl (nI (n + 0))), some (.inl (nI i)), some (.inl (bI b58))]) hX d_R_onlyNew_101 rfl (by decide) rfl rfl ?_
              refine fm_iinc (pq := 105) (v := nI (i + 1)) (ls1 := [some (.inr 0), some (.inl (nI m)), some (.inl (nI r)), some (.inl (nI i)), some (.inl (nI (n + 0))), some (.inl (nI (i + 1))), some (.inl (bI b58))]) hX d_R_onlyNew_102 rfl (nI_add _ _) (by decide) rfl rfl ?_
              refine fm_goto (tgt := 8) hX d_R_onlyNew_105 rfl ?_
              refine fm_drop 6 (ls1 := [some (.inr 0), some (.inl (nI m)), some (.inl (nI r)), some (.inl (nI i)), some (.inl (nI (n + 0))), some (.inl (nI (i + 1))), none]) rfl ?_
              first
              | exact absurd (h64.symm.trans h77) (by decide)
              | exact absurd (h77.symm.trans h64) (by decide)
              | exact ih (by omega) _ (n + 1) (by omega) (fa_ov_y hs (hb58.mp h64) (fun _ => rfl) (fun z => absurd h92 z))
              | exact ih (by omega) _ (n + 1) (by omega) (fa_ov_y hs (hb58.mp h64) (fun z => absurd z h92) (fun _ => rfl))
              | exact ih (by omega) _ n (by omega) (fa_ov_n hs (fun z => absurd (hb58.mpr z) (by rw [h64]; decide)))
        · show fm_G SR Y_R_onlyNew X M (fm_nr (fun v => (∃ k, v = nI k ∧ P.2.1 m ≤ r ∧ fa_nw (P.1 m) (P.2.2 m) r k) ∨ (v = -1 ∧ ¬ (P.2.1 m ≤ r ∧ ∃ k, fa_nw (P.1 m) (P.2.2 m) r k))) M) 67 [some (.inr 0), some (.inl (nI m)), some (.inl (nI r)), some (.inl f), some (.inl (nI n)), some (.inl (nI i)), some (.inl (bI b58))] [.inl (nI n)] M
          refine fm_iconst (pq := 68) (v := nI 1) hX d_R_onlyNew_67 (by decide) rfl ?_
          refine fm_goto (tgt := 72) hX d_R_onlyNew_68 rfl ?_
          refine fm_iadd (pq := 73) (v := nI (n + 1)) hX d_R_onlyNew_72 (nI_add _ _) rfl ?_
          refine fm_istore (pq := 75) (ls1 := [some (.inr 0), some (.inl (nI m)), some (.inl (nI r)), some (.inl f), some (.inl (nI (n + 1))), some (.inl (nI i)), some (.inl (bI b58))]) hX d_R_onlyNew_73 (by decide) rfl rfl ?_
          refine fm_iload (pq := 77) hX d_R_onlyNew_75 rfl rfl ?_
          refine fm_b1_eq (tgt := 100) (pq := 80) hX d_R_onlyNew_77 rfl rfl (fun h77 => ?_) (fun h77 => ?_)
          · show fm_G SR Y_R_onlyNew X M (fm_nr (fun v => (∃ k, v = nI k ∧ P.2.1 m ≤ r ∧ fa_nw (P.1 m) (P.2.2 m) r k) ∨ (v = -1 ∧ ¬ (P.2.1 m ≤ r ∧ ∃ k, fa_nw (P.1 m) (P.2.2 m) r k))) M) 100 [some (.inr 0), some (.inl (nI m)), some (.inl (nI r)), some (.inl f), some (.inl (nI (n + 1))), some (.inl (nI i)), some (.inl (bI b58))] [] M
            refine fm_iload_n (pq := 101) hX d_R_onlyNew_100 rfl rfl rfl ?_
            refine fm_istore_n (pq := 102) (ls1 := [some (.inr 0), some (.inl (nI m)), some (.inl (nI r)), some (.inl f), some (.inl (nI (n + 1))), some (.inl (nI i)), some (.inl (bI b58))]) hX d_R_onlyNew_101 rfl (by decide) rfl rfl ?_
            refine fm_iinc (pq := 105) (v := nI (i + 1)) (ls1 := [some (.inr 0), some (.inl (nI m)), some (.inl (nI r)), some (.inl f), some (.inl (nI (n + 1))), some (.inl (nI (i + 1))), some (.inl (bI b58))]) hX d_R_onlyNew_102 rfl (nI_add _ _) (by decide) rfl rfl ?_
            refine fm_goto (tgt := 8) hX d_R_onlyNew_105 rfl ?_
            refine fm_drop 6 (ls1 := [some (.inr 0), some (.inl (nI m)), some (.inl (nI r)), some (.inl f), some (.inl (nI (n + 1))), some (.inl (nI (i + 1))), none]) rfl ?_
            first
            | exact absurd (h64.symm.trans h77) (by decide)
            | exact absurd (h77.symm.trans h64) (by decide)
            | exact ih (by omega) _ (n + 1) (by omega) (fa_ov_y hs (hb58.mp h64) (fun _ => rfl) (fun z => absurd h92 z))
            | exact ih (by omega) _ (n + 1) (by omega) (fa_ov_y hs (hb58.mp h64) (fun z => absurd z h92) (fun _ => rfl))
            | exact ih (by omega) _ n (by omega) (fa_ov_n hs (fun z => absurd (hb58.mpr z) (by rw [h64]; decide)))
          · show fm_G SR Y_R_onlyNew X M (fm_nr (fun v => (∃ k, v = nI k ∧ P.2.1 m ≤ r ∧ fa_nw (P.1 m) (P.2.2 m) r k) ∨ (v = -1 ∧ ¬ (P.2.1 m ≤ r ∧ ∃ k, fa_nw (P.1 m) (P.2.2 m) r k))) M) 80 [some (.inr 0), some (.inl (nI m)), some (.inl (nI r)), some (.inl f), some (.inl (nI (n + 1))), some (.inl (nI i)), some (.inl (bI b58))] [] M
            refine fm_aload_n (pq := 81) hX d_R_onlyNew_80 rfl rfl rfl ?_
            refine fm_getr (pq := 84) (q := 3) hX fR_16 rfl rfl d_R_onlyNew_81 rfl ?_
            refine fm_bipush (pq := 86) (v := nI 24) hX d_R_onlyNew_84 (by decide) rfl ?_
            refine fm_iload_n (pq := 87) hX d_R_onlyNew_86 rfl rfl rfl ?_
            refine fm_imul (pq := 88) (v := nI (24 * m)) hX d_R_onlyNew_87 (pk_mul _ _) rfl ?_
            refine fm_iload (pq := 90) hX d_R_onlyNew_88 rfl rfl ?_
            refine fm_iadd (pq := 91) (v := nI (24 * m + i)) hX d_R_onlyNew_90 (nI_add _ _) rfl ?_
            refine fm_iald (pq := 92) (v := nI ((P.2.2 m i).1)) hX rfl rfl rfl (by omega) (by decide) ((hP m (by omega)).2.2 i (by omega)).1 d_R_onlyNew_91 rfl ?_
            refine fm_z_ne (tgt := 100) (pq := 95) hX d_R_onlyNew_92 rfl rfl (by omega) (fun h92 => ?_) (fun h92 => ?_)
            · show fm_G SR Y_R_onlyNew X M (fm_nr (fun v => (∃ k, v = nI k ∧ P.2.1 m ≤ r ∧ fa_nw (P.1 m) (P.2.2 m) r k) ∨ (v = -1 ∧ ¬ (P.2.1 m ≤ r ∧ ∃ k, fa_nw (P.1 m) (P.2.2 m) r k))) M) 100 [some (.inr 0), some (.inl (nI m)), some (.inl (nI r)), some (.inl f), some (.inl (nI (n + 1))), some (.inl (nI i)), some (.inl (bI b58))] [] M
              refine fm_iload_n (pq := 101) hX d_R_onlyNew_100 rfl rfl rfl ?_
              refine fm_istore_n (pq := 102) (ls1 := [some (.inr 0), some (.inl (nI m)), some (.inl (nI r)), some (.inl f), some (.inl (nI (n + 1))), some (.inl (nI i)), some (.inl (bI b58))]) hX d_R_onlyNew_101 rfl (by decide) rfl rfl ?_
              refine fm_iinc (pq := 105) (v := nI (i + 1)) (ls1 := [some (.inr 0), some (.inl (nI m)), some (.inl (nI r)), some (.inl f), some (.inl (nI (n + 1))), some (.inl (nI (i + 1))), some (.inl (bI b58))]) hX d_R_onlyNew_102 rfl (nI_add _ _) (by decide) rfl rfl ?_
              refine fm_goto (tgt := 8) hX d_R_onlyNew_105 rfl ?_
              refine fm_drop 6 (ls1 := [some (.inr 0), some (.inl (nI m)), some (.inl (nI r)), some (.inl f), some (.inl (nI (n + 1))), some (.inl (nI (i + 1))), none]) rfl ?_
              first
              | exact absurd (h64.symm.trans h77) (by decide)
              | exact absurd (h77.symm.trans h64) (by decide)
              | exact ih (by omega) _ (n + 1) (by omega) (fa_ov_y hs (hb58.mp h64) (fun _ => rfl) (fun z => absurd h92 z))
              | exact ih (by omega) _ (n + 1) (by omega) (fa_ov_y hs (hb58.mp h64) (fun z => absurd z h92) (fun _ => rfl))
              | exact ih (by omega) _ n (by omega) (fa_ov_n hs (fun z => absurd (hb58.mpr z) (by rw [h64]; decide)))
            · show fm_G SR Y_R_onlyNew X M (fm_nr (fun v => (∃ k, v = nI k ∧ P.2.1 m ≤ r ∧ fa_nw (P.1 m) (P.2.2 m) r k) ∨ (v = -1 ∧ ¬ (P.2.1 m ≤ r ∧ ∃ k, fa_nw (P.1 m) (P.2.2 m) r k))) M) 95 [some (.inr 0), some (.inl (nI m)), some (.inl (nI r)), some (.inl f), some (.inl (nI (n + 1))), some (.inl (nI i)), some (.inl (bI b58))] [] M
              refine fm_iload (pq := 97) hX d_R_onlyNew_95 rfl rfl ?_
              refine fm_goto (tgt := 101) hX d_R_onlyNew_97 rfl ?_
              refine fm_istore_n (pq := 102) (ls1 := [some (.inr 0), some (.inl (nI m)), some (.inl (nI r)), some (.inl (nI i)), some (.inl (nI (n + 1))), some (.inl (nI i)), some (.inl (bI b58))]) hX d_R_onlyNew_101 rfl (by decide) rfl rfl ?_
              refine fm_iinc (pq := 105) (v := nI (i + 1)) (ls1 := [some (.inr 0), some (.inl (nI m)), some (.inl (nI r)), some (.inl (nI i)), some (.inl (nI (n + 1))), some (.inl (nI (i + 1))), some (.inl (bI b58))]) hX d_R_onlyNew_102 rfl (nI_add _ _) (by decide) rfl rfl ?_
              refine fm_goto (tgt := 8) hX d_R_onlyNew_105 rfl ?_
              refine fm_drop 6 (ls1 := [some (.inr 0), some (.inl (nI m)), some (.inl (nI r)), some (.inl (nI i)), some (.inl (nI (n + 1))), some (.inl (nI (i + 1))), none]) rfl ?_
              first
              | exact absurd (h64.symm.trans h77) (by decide)
              | exact absurd (h77.symm.trans h64) (by decide)
              | exact ih (by omega) _ (n + 1) (by omega) (fa_ov_y hs (hb58.mp h64) (fun _ => rfl) (fun z => absurd h92 z))
              | exact ih (by omega) _ (n + 1) (by omega) (fa_ov_y hs (hb58.mp h64) (fun z => absurd z h92) (fun _ => rfl))
              | exact ih (by omega) _ n (by omega) (fa_ov_n hs (fun z => absurd (hb58.mpr z) (by rw [h64]; decide)))
      refine fm_aload_n (pq := 20) hX d_R_onlyNew_19 rfl rfl rfl ?_
      refine fm_getr (pq := 23) (q := 3) hX fR_16 rfl rfl d_R_onlyNew_20 rfl ?_
      refine fm_bipush (pq := 25) (v := nI 24) hX d_R_onlyNew_23 (by decide) rfl ?_
      refine fm_iload_n (pq := 26) hX d_R_onlyNew_25 rfl rfl rfl ?_
      refine fm_imul (pq := 27) (v := nI (24 * m)) hX d_R_onlyNew_26 (pk_mul _ _) rfl ?_
      refine fm_iload (pq := 29) hX d_R_onlyNew_27 rfl rfl ?_
      refine fm_iadd (pq := 30) (v := nI (24 * m + i)) hX d_R_onlyNew_29 (nI_add _ _) rfl ?_
      refine fm_iald (pq := 31) (v := nI ((P.2.2 m i).1)) hX rfl rfl rfl (by omega) (by decide) ((hP m (by omega)).2.2 i (by omega)).1 d_R_onlyNew_30 rfl ?_
      refine fm_callS_i (as := [.inl (nI ((P.2.2 m i).1))]) (st := []) (pq := 34) hX cR_132 st_R_defines (k_R_defines (o := (P.2.2 m i).1) (by omega) M) rfl rfl (Nat.le_of_ble_eq_true rfl) (Nat.le_of_ble_eq_true rfl) d_R_onlyNew_31 rfl ?_
      refine fm_p1_eq (tgt := 57) (pq := 37) hX d_R_onlyNew_34 rfl rfl (fun h34 => ?_) (fun h34 => ?_)
      · show fm_G SR Y_R_onlyNew X M (fm_nr (fun v => (∃ k, v = nI k ∧ P.2.1 m ≤ r ∧ fa_nw (P.1 m) (P.2.2 m) r k) ∨ (v = -1 ∧ ¬ (P.2.1 m ≤ r ∧ ∃ k, fa_nw (P.1 m) (P.2.2 m) r k))) M) 57 [some (.inr 0), some (.inl (nI m)), some (.inl (nI r)), some (.inl f), some (.inl (nI n)), some (.inl (nI i)), none] [] M
        refine fm_iconst (pq := 58) (v := nI 0) hX d_R_onlyNew_57 (by decide) rfl ?_
        first | exact L58 true ⟨fun _ => by omega, fun _ => rfl⟩ | exact L58 false ⟨fun z => absurd z (by decide), fun z => absurd z (by omega)⟩
      · show fm_G SR Y_R_onlyNew X M (fm_nr (fun v => (∃ k, v = nI k ∧ P.2.1 m ≤ r ∧ fa_nw (P.1 m) (P.2.2 m) r k) ∨ (v = -1 ∧ ¬ (P.2.1 m ≤ r ∧ ∃ k, fa_nw (P.1 m) (P.2.2 m) r k))) M) 37 [some (.inr 0), some (.inl (nI m)), some (.inl (nI r)), some (.inl f), some (.inl (nI n)), some (.inl (nI i)), none] [] M
        refine fm_aload_n (pq := 38) hX d_R_onlyNew_37 rfl rfl rfl ?_
        refine fm_getr (pq := 41) (q := 4) hX fR_19 rfl rfl d_R_onlyNew_38 rfl ?_
        refine fm_bipush (pq := 43) (v := nI 24) hX d_R_onlyNew_41 (by decide) rfl ?_
        refine fm_iload_n (pq := 44) hX d_R_onlyNew_43 rfl rfl rfl ?_
        refine fm_imul (pq := 45) (v := nI (24 * m)) hX d_R_onlyNew_44 (pk_mul _ _) rfl ?_
        refine fm_iload (pq := 47) hX d_R_onlyNew_45 rfl rfl ?_
        refine fm_iadd (pq := 48) (v := nI (24 * m + i)) hX d_R_onlyNew_47 (nI_add _ _) rfl ?_
        refine fm_iald (pq := 49) (v := nI ((P.2.2 m i).2.1)) hX rfl rfl rfl (by omega) (by decide) ((hP m (by omega)).2.2 i (by omega)).2.1 d_R_onlyNew_48 rfl ?_
        refine fm_iload_n (pq := 50) hX d_R_onlyNew_49 rfl rfl rfl ?_
        refine fm_n_ne (tgt := 57) (pq := 53) hX d_R_onlyNew_50 rfl rfl (by omega) (by omega) (fun h50 => ?_) (fun h50 => ?_)
        · show fm_G SR Y_R_onlyNew X M (fm_nr (fun v => (∃ k, v = nI k ∧ P.2.1 m ≤ r ∧ fa_nw (P.1 m) (P.2.2 m) r k) ∨ (v = -1 ∧ ¬ (P.2.1 m ≤ r ∧ ∃ k, fa_nw (P.1 m) (P.2.2 m) r k))) M) 57 [some (.inr 0), some (.inl (nI m)), some (.inl (nI r)), some (.inl f), some (.inl (nI n)), some (.inl (nI i)), none] [] M
          refine fm_iconst (pq := 58) (v := nI 0) hX d_R_onlyNew_57 (by decide) rfl ?_
          first | exact L58 true ⟨fun _ => by omega, fun _ => rfl⟩ | exact L58 false ⟨fun z => absurd z (by decide), fun z => absurd z (by omega)⟩
        · show fm_G SR Y_R_onlyNew X M (fm_nr (fun v => (∃ k, v = nI k ∧ P.2.1 m ≤ r ∧ fa_nw (P.1 m) (P.2.2 m) r k) ∨ (v = -1 ∧ ¬ (P.2.1 m ≤ r ∧ ∃ k, fa_nw (P.1 m) (P.2.2 m) r k))) M) 53 [some (.inr 0), some (.inl (nI m)), some (.inl (nI r)), some (.inl f), some (.inl (nI n)), some (.inl (nI i)), none] [] M
          refine fm_iconst (pq := 54) (v := nI 1) hX d_R_onlyNew_53 (by decide) rfl ?_
          refine fm_goto (tgt := 58) hX d_R_onlyNew_54 rfl ?_
          first | exact L58 true ⟨fun _ => by omega, fun _ => rfl⟩ | exact L58 false ⟨fun z => absurd z (by decide), fun z => absurd z (by omega)⟩
  show fm_G SR Y_R_onlyNew X M (fm_nr (fun v => (∃ k, v = nI k ∧ P.2.1 m ≤ r ∧ fa_nw (P.1 m) (P.2.2 m) r k) ∨ (v = -1 ∧ ¬ (P.2.1 m ≤ r ∧ ∃ k, fa_nw (P.1 m) (P.2.2 m) r k))) M) 0 [some (.inr 0), some (.inl (nI m)), some (.inl (nI r)), none, none, none, none] [] M
  refine fm_iconst (pq := 1) (v := (-1)) hX d_R_onlyNew_0 (by decide) rfl ?_
  refine fm_istore_n (pq := 2) (ls1 := [some (.inr 0), some (.inl (nI m)), some (.inl (nI r)), some (.inl ((-1))), none, none, none]) hX d_R_onlyNew_1 rfl (by decide) rfl rfl ?_
  refine fm_iconst (pq := 3) (v := nI 0) hX d_R_onlyNew_2 (by decide) rfl ?_
  refine fm_istore (pq := 5) (ls1 := [some (.inr 0), some (.inl (nI m)), some (.inl (nI r)), some (.inl ((-1))), some (.inl (nI 0)), none, none]) hX d_R_onlyNew_3 (by decide) rfl rfl ?_
  refine fm_iconst (pq := 6) (v := nI 0) hX d_R_onlyNew_5 (by decide) rfl ?_
  refine fm_istore (pq := 8) (ls1 := [some (.inr 0), some (.inl (nI m)), some (.inl (nI r)), some (.inl ((-1))), some (.inl (nI 0)), some (.inl (nI 0)), none]) hX d_R_onlyNew_6 (by decide) rfl rfl ?_
  exact L8 0 (by omega) _ 0 (by omega) fa_ov_0
