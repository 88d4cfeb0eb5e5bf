/-! Plan.pairLocks, Plan.draw (written by program) -/
theorem cP_fill {M : fm_M} {P : pr_T} (h : cP M P) (m : Nat) : cP (fm_fill M (kPf m) 24 (nI 0)) P :=
  cP_cg h (fun a j q => by
    obtain ⟨n, t, h1, h2, e⟩ := q
    exact fm_fill_o (fun z => by have : a = 29 + 15 * m := z; omega))
theorem pl_es {m k : Nat} {M M1 : fm_M} (h : pl_fr m M M1) : (if bt (M1 (kF m) 5) k = true then (2 : Int32) else if bt (M1 (kF m) 6) k = true then 1 else 0) = 0 ↔ (bt (M (kF m) 5) k = false ∧ bt (M (kF m) 6) k = false) := by
  rw [h (kF m) 5 (by show 21 + 15 * m ≠ 29 + 15 * m; omega), h (kF m) 6 (by show 21 + 15 * m ≠ 29 + 15 * m; omega)]
  cases bt (M (kF m) 5) k <;> cases bt (M (kF m) 6) k <;> decide
theorem pl_es1 {m k : Nat} {M M1 : fm_M} (h : pl_fr m M M1) (e : (if bt (M1 (kF m) 5) k = true then (2 : Int32) else if bt (M1 (kF m) 6) k = true then 1 else 0) = 0) : bt (M (kF m) 5) k = false ∧ bt (M (kF m) 6) k = false := (pl_es h).mp e
theorem pl_es2 {m k : Nat} {M M1 : fm_M} (h : pl_fr m M M1) (e : bt (M (kF m) 5) k = false ∧ bt (M (kF m) 6) k = false) : (if bt (M1 (kF m) 5) k = true then (2 : Int32) else if bt (M1 (kF m) 6) k = true then 1 else 0) = 0 := (pl_es h).mpr e
abbrev Y_P_pairLocks : fm_Y := ("EscapeMill$Plan", b_P_pairLocks, 6, none, 4)
set_option maxRecDepth 100000 in
set_option maxHeartbeats 4000000 in
theorem k_P_pairLocks {P : pr_T} {m : Nat} (hm : m < 5) (M : fm_M) (hP : cP M P) (hw : pr_wf P) {r : Nat} (hr : r < 4) (fr : Int32) : fm_ct SC y_P_pairLocks b_P_pairLocks 6 none 4 [.inr (kPl m), .inr (kC m), .inl (nI r), .inl fr] M (fm_vr (fun M' => pl_lk P m r fr (P.1 m) M M')) := by
  refine fm_of (ls := [some (.inr (kPl m)), some (.inr (kC m)), some (.inl (nI r)), some (.inl fr), none, none]) (by decide) wsA_good (Nat.le_of_ble_eq_true rfl) rfl (fun X hX => ?_)
  obtain ⟨wl, wi, wI⟩ := hw m hm
  have L3 : ∀ i, i ≤ P.1 m → ∀ M1, pl_lk P m r fr i M M1 → fm_G SC Y_P_pairLocks X M (fm_vr (fun M' => pl_lk P m r fr (P.1 m) M M')) 3 [some (.inr (kPl m)), some (.inr (kC m)), some (.inl (nI r)), some (.inl fr), some (.inl (nI i)), none] [] M1 := by
    refine fm_ind (P.1 m) (fun i hle ih => ?_)
    intro M1 hs
    have hP1 := pl_fr_P hm hs.1 hP
    refine fm_iload hX d_P_pairLocks_3 rfl rfl ?_
    refine fm_aload_n hX d_P_pairLocks_5 rfl rfl rfl ?_
    refine fm_geti (v := nI (P.1 m)) hX fP_55 (s_C (by omega)) rfl (hP1 m (by omega)).1 d_P_pairLocks_6 rfl ?_
    refine fm_n_ge (tgt := 84) (pq := 12) hX d_P_pairLocks_9 rfl rfl (by omega) (by omega) (fun h9 => ?_) (fun h9 => ?_)
    · show fm_G SC Y_P_pairLocks X M (fm_vr (fun M' => pl_lk P m r fr (P.1 m) M M')) 84 [some (.inr (kPl m)), some (.inr (kC m)), some (.inl (nI r)), some (.inl fr), some (.inl (nI i)), none] [] M1
      refine fm_vret hX rfl d_P_pairLocks_84 ?_
      have e : i = P.1 m := by omega
      rw [e] at hs
      exact ⟨rfl, hs⟩
    · show fm_G SC Y_P_pairLocks X M (fm_vr (fun M' => pl_lk P m r fr (P.1 m) M M')) 12 [some (.inr (kPl m)), some (.inr (kC m)), some (.inl (nI r)), some (.inl fr), some (.inl (nI i)), none] [] M1
      obtain ⟨w1, w2, w3, w4, w5, w6⟩ := wI i (by omega)
      refine fm_aload_n hX d_P_pairLocks_12 rfl rfl rfl ?_
      refine fm_getr (q := kCa m 0) hX fP_62 (s_C (by omega)) rfl d_P_pairLocks_13 rfl ?_
      refine fm_iload hX d_P_pairLocks_16 rfl rfl ?_
      refine fm_iald (v := nI ((P.2.2 m i).1)) hX (s_Ca0 (by omega)) rfl rfl (by omega) (by decide) ((hP1 m (by omega)).2.2 i (by omega)).1 d_P_pairLocks_18 rfl ?_
      refine fm_bipush (v := nI 10) hX d_P_pairLocks_19 (by decide) rfl ?_
      refine fm_n_ne (tgt := 78) (pq := 24) hX d_P_pairLocks_21 rfl rfl (by omega) (by omega) (fun h21 => ?_) (fun h21 => ?_)
      · show fm_G SC Y_P_pairLocks X M (fm_vr (fun M' => pl_lk P m r fr (P.1 m) M M')) 78 [some (.inr (kPl m)), some (.inr (kC m)), some (.inl (nI r)), some (.inl fr), some (.inl (nI i)), none] [] M1
        refine fm_iinc (v := nI (i + 1)) (ls1 := [some (.inr (kPl m)), some (.inr (kC m)), some (.inl (nI r)), some (.inl fr), some (.inl (nI (i + 1))), none]) hX d_P_pairLocks_78 rfl (nI_add _ _) (by decide) rfl rfl ?_
        refine fm_goto (tgt := 3) hX d_P_pairLocks_81 rfl ?_
        first | exact ih (by omega) _ (pl_lk_n hs (fun z => h21 z.1)) | exact ih (by omega) _ (pl_lk_n hs (fun z => h32 z.2.1)) | exact ih (by omega) _ (pl_lk_n hs (fun z => absurd z.2.2.1 (by rw [h42]; decide))) | exact ih (by omega) _ (pl_lk_n hs (fun z => by
          rcases c51 with ⟨j, e, pj⟩ | e
          · rw [h59] at e; exact absurd e.symm (nI_m1 (by have := pj.2.1; omega))
          · exact e.2 z.2.2.2))
      · show fm_G SC Y_P_pairLocks X M (fm_vr (fun M' => pl_lk P m r fr (P.1 m) M M')) 24 [some (.inr (kPl m)), some (.inr (kC m)), some (.inl (nI r)), some (.inl fr), some (.inl (nI i)), none] [] M1
        refine fm_aload_n hX d_P_pairLocks_24 rfl rfl rfl ?_
        refine fm_getr (q := kCa m 1) hX fP_75 (s_C (by omega)) rfl d_P_pairLocks_25 rfl ?_
        refine fm_iload hX d_P_pairLocks_28 rfl rfl ?_
        refine fm_iald (v := nI ((P.2.2 m i).2.1)) hX (s_Ca1 (by omega)) rfl rfl (by omega) (by decide) ((hP1 m (by omega)).2.2 i (by omega)).2.1 d_P_pairLocks_30 rfl ?_
        refine fm_iload_n hX d_P_pairLocks_31 rfl rfl rfl ?_
        refine fm_n_ne (tgt := 78) (pq := 35) hX d_P_pairLocks_32 rfl rfl (by omega) (by omega) (fun h32 => ?_) (fun h32 => ?_)
        · show fm_G SC Y_P_pairLocks X M (fm_vr (fun M' => pl_lk P m r fr (P.1 m) M M')) 78 [some (.inr (kPl m)), some (.inr (kC m)), some (.inl (nI r)), some (.inl fr), some (.inl (nI i)), none] [] M1
          refine fm_iinc (v := nI (i + 1)) (ls1 := [some (.inr (kPl m)), some (.inr (kC m)), some (.inl (nI r)), some (.inl fr), some (.inl (nI (i + 1))), none]) hX d_P_pairLocks_78 rfl (nI_add _ _) (by decide) rfl rfl ?_
          refine fm_goto (tgt := 3) hX d_P_pairLocks_81 rfl ?_
          first | exact ih (by omega) _ (pl_lk_n hs (fun z => h21 z.1)) | exact ih (by omega) _ (pl_lk_n hs (fun z => h32 z.2.1)) | exact ih (by omega) _ (pl_lk_n hs (fun z => absurd z.2.2.1 (by rw [h42]; decide))) | exact ih (by omega) _ (pl_lk_n hs (fun z => by
            rcases c51 with ⟨j, e, pj⟩ | e
            · rw [h59] at e; exact absurd e.symm (nI_m1 (by have := pj.2.1; omega))
            · exact e.2 z.2.2.2))
        · show fm_G SC Y_P_pairLocks X M (fm_vr (fun M' => pl_lk P m r fr (P.1 m) M M')) 35 [some (.inr (kPl m)), some (.inr (kC m)), some (.inl (nI r)), some (.inl fr), some (.inl (nI i)), none] [] M1
          refine fm_iload_n hX d_P_pairLocks_35 rfl rfl rfl ?_
          refine fm_iload hX d_P_pairLocks_36 rfl rfl ?_
          refine fm_ishr (v := fr >>> (nI i &&& 31)) hX d_P_pairLocks_38 rfl rfl ?_
          refine fm_iconst (v := nI 1) hX d_P_pairLocks_39 (by decide) rfl ?_
          refine fm_iand (v := bI (bt fr i)) hX d_P_pairLocks_40 (fm_bit _ (by omega)) rfl ?_
          refine fm_iconst (v := nI 1) hX d_P_pairLocks_41 (by decide) rfl ?_
          refine fm_b2_ne1 (tgt := 48) (pq := 45) hX d_P_pairLocks_42 rfl rfl (fun h42 => ?_) (fun h42 => ?_)
          · show fm_G SC Y_P_pairLocks X M (fm_vr (fun M' => pl_lk P m r fr (P.1 m) M M')) 48 [some (.inr (kPl m)), some (.inr (kC m)), some (.inl (nI r)), some (.inl fr), some (.inl (nI i)), none] [] M1
            refine fm_aload_n hX d_P_pairLocks_48 rfl rfl rfl ?_
            refine fm_iload hX d_P_pairLocks_49 rfl rfl ?_
            refine fm_callS_n (as := [.inr (kC m), .inl (nI i)]) (st := []) (pq := 54) hX cP_78 st_P_partner (k_P_partner (by omega) M1 hP1 hw (i := i) (by omega)) rfl rfl (Nat.le_of_ble_eq_true rfl) (Nat.le_of_ble_eq_true rfl) d_P_pairLocks_51 rfl (fun v51 c51 => ?_)
            refine fm_istore (ls1 := [some (.inr (kPl m)), some (.inr (kC m)), some (.inl (nI r)), some (.inl fr), some (.inl (nI i)), some (.inl v51)]) hX d_P_pairLocks_54 (by decide) rfl rfl ?_
            refine fm_iload hX d_P_pairLocks_56 rfl rfl ?_
            refine fm_iconst (v := (-1)) hX d_P_pairLocks_58 (by decide) rfl ?_
            refine fm_icmp_eq (tgt := 78) (pq := 62) hX d_P_pairLocks_59 rfl rfl (fun h59 => ?_) (fun h59 => ?_)
            · show fm_G SC Y_P_pairLocks X M (fm_vr (fun M' => pl_lk P m r fr (P.1 m) M M')) 78 [some (.inr (kPl m)), some (.inr (kC m)), some (.inl (nI r)), some (.inl fr), some (.inl (nI i)), some (.inl v51)] [] M1
              refine fm_iinc (v := nI (i + 1)) (ls1 := [some (.inr (kPl m)), some (.inr (kC m)), some (.inl (nI r)), some (.inl fr), some (.inl (nI (i + 1))), some (.inl v51)]) hX d_P_pairLocks_78 rfl (nI_add _ _) (by decide) rfl rfl ?_
              refine fm_goto (tgt := 3) hX d_P_pairLocks_81 rfl ?_
              refine fm_drop 5 (ls1 := [some (.inr (kPl m)), some (.inr (kC m)), some (.inl (nI r)), some (.inl fr), some (.inl (nI (i + 1))), none]) rfl ?_
              first | exact ih (by omega) _ (pl_lk_n hs (fun z => h21 z.1)) | exact ih (by omega) _ (pl_lk_n hs (fun z => h32 z.2.1)) | exact ih (by omega) _ (pl_lk_n hs (fun z => absurd z.2.2.1 (by rw [h42]; decide))) | exact ih (by omega) _ (pl_lk_n hs (fun z => by
                rcases c51 with ⟨j, e, pj⟩ | e
                · rw [h59] at e; exact absurd e.symm (nI_m1 (by have := pj.2.1; omega))
                · exact e.2 z.2.2.2))
            · show fm_G SC Y_P_pairLocks X M (fm_vr (fun M' => pl_lk P m r fr (P.1 m) M M')) 62 [some (.inr (kPl m)), some (.inr (kC m)), some (.inl (nI r)), some (.inl fr), some (.inl (nI i)), some (.inl v51)] [] M1
              obtain ⟨j, hj, pj⟩ := c51.resolve_right (fun z => h59 z.1)
              subst hj
              have hj24 := pj.2.1
              refine fm_aload_n hX d_P_pairLocks_62 rfl rfl rfl ?_
              refine fm_getr (q := kPf m) hX fP_9 (s_P (by omega)) rfl d_P_pairLocks_63 rfl ?_
              refine fm_iload hX d_P_pairLocks_66 rfl rfl ?_
              refine fm_iconst (v := nI 2) hX d_P_pairLocks_68 (by decide) rfl ?_
              refine fm_iast hX (s_Pf (by omega)) rfl rfl (by omega) (by decide) d_P_pairLocks_69 rfl ?_
              refine fm_aload_n hX d_P_pairLocks_70 rfl rfl rfl ?_
              refine fm_getr (q := kPf m) hX fP_9 (s_P (by omega)) rfl d_P_pairLocks_71 rfl ?_
              refine fm_iload hX d_P_pairLocks_74 rfl rfl ?_
              refine fm_iconst (v := nI 2) hX d_P_pairLocks_76 (by decide) rfl ?_
              refine fm_iast hX (s_Pf (by omega)) rfl rfl (by omega) (by decide) d_P_pairLocks_77 rfl ?_
              refine fm_iinc (v := nI (i + 1)) (ls1 := [some (.inr (kPl m)), some (.inr (kC m)), some (.inl (nI r)), some (.inl fr), some (.inl (nI (i + 1))), some (.inl (nI j))]) hX d_P_pairLocks_78 rfl (nI_add _ _) (by decide) rfl rfl ?_
              refine fm_goto (tgt := 3) hX d_P_pairLocks_81 rfl ?_
              refine fm_drop 5 (ls1 := [some (.inr (kPl m)), some (.inr (kC m)), some (.inl (nI r)), some (.inl fr), some (.inl (nI (i + 1))), none]) rfl ?_
              exact ih (by omega) _ (pl_lk_y hs h21 h32 h42 pj)
          · show fm_G SC Y_P_pairLocks X M (fm_vr (fun M' => pl_lk P m r fr (P.1 m) M M')) 45 [some (.inr (kPl m)), some (.inr (kC m)), some (.inl (nI r)), some (.inl fr), some (.inl (nI i)), none] [] M1
            refine fm_goto (tgt := 78) hX d_P_pairLocks_45 rfl ?_
            refine fm_iinc (v := nI (i + 1)) (ls1 := [some (.inr (kPl m)), some (.inr (kC m)), some (.inl (nI r)), some (.inl fr), some (.inl (nI (i + 1))), none]) hX d_P_pairLocks_78 rfl (nI_add _ _) (by decide) rfl rfl ?_
            refine fm_goto (tgt := 3) hX d_P_pairLocks_81 rfl ?_
            first | exact ih (by omega) _ (pl_lk_n hs (fun z => h21 z.1)) | exact ih (by omega) _ (pl_lk_n hs (fun z => h32 z.2.1)) | exact ih (by omega) _ (pl_lk_n hs (fun z => absurd z.2.2.1 (by rw [h42]; decide))) | exact ih (by omega) _ (pl_lk_n hs (fun z => by
              rcases c51 with ⟨j, e, pj⟩ | e
              · rw [h59] at e; exact absurd e.symm (nI_m1 (by have := pj.2.1; omega))
              · exact e.2 z.2.2.2))
  show fm_G SC Y_P_pairLocks X M (fm_vr (fun M' => pl_lk P m r fr (P.1 m) M M')) 0 [some (.inr (kPl m)), some (.inr (kC m)), some (.inl (nI r)), some (.inl fr), none, none] [] M
  refine fm_iconst (v := nI 0) hX d_P_pairLocks_0 (by decide) rfl ?_
  refine fm_istore (ls1 := [some (.inr (kPl m)), some (.inr (kC m)), some (.inl (nI r)), some (.inl fr), some (.inl (nI 0)), none]) hX d_P_pairLocks_1 (by decide) rfl rfl ?_
  exact L3 0 (by omega) _ pl_lk_0
abbrev Y_P_draw : fm_Y := ("EscapeMill$Plan", b_P_draw, 8, none, 5)
set_option maxRecDepth 100000 in
set_option maxHeartbeats 4000000 in
theorem k_P_draw {P : pr_T} {m : Nat} (hm : m < 5) (M : fm_M) (hP : cP M P) (hw : pr_wf P) : fm_ct SC y_P_draw b_P_draw 8 none 5 [.inr (kPl m), .inr 1, .inr (kF m), .inl (nI m)] M (fm_vr (fun M' => pl_fr m M M' ∧ ∀ q, q < P.1 m → fa_is P m (fun k => bt (M (kF m) 5) k = false ∧ bt (M (kF m) 6) k = false) q (M' (kPf m) q))) := by
  refine fm_of (ls := [some (.inr (kPl m)), some (.inr 1), some (.inr (kF m)), some (.inl (nI m)), none, none, none, none]) (by decide) wsA_good (Nat.le_of_ble_eq_true rfl) rfl (fun X hX => ?_)
  obtain ⟨wl, wi, wI⟩ := hw m hm
  have L20 : ∀ r, r ≤ 4 → P.2.1 m ≤ r → ∀ M1, pl_dr P m (fun k => bt (M (kF m) 5) k = false ∧ bt (M (kF m) 6) k = false) r M M1 → fm_G SC Y_P_draw X M (fm_vr (fun M' => pl_fr m M M' ∧ ∀ q, q < P.1 m → fa_is P m (fun k => bt (M (kF m) 5) k = false ∧ bt (M (kF m) 6) k = false) q (M' (kPf m) q))) 20 [some (.inr (kPl m)), some (.inr 1), some (.inr (kF m)), some (.inl (nI m)), some (.inr (kC m)), some (.inl (nI r)), none, none] [] M1 := by
    refine fm_ind 4 (fun r hle ih => ?_)
    intro hir M1 hs
    have hP1 := pl_fr_P hm hs.1 hP
    refine fm_iload hX d_P_draw_20 rfl rfl ?_
    refine fm_iconst (v := nI 4) hX d_P_draw_22 (by decide) rfl ?_
    refine fm_n_ge (tgt := 113) (pq := 26) hX d_P_draw_23 rfl rfl (by omega) (by omega) (fun h23 => ?_) (fun h23 => ?_)
    · show fm_G SC Y_P_draw X M (fm_vr (fun M' => pl_fr m M M' ∧ ∀ q, q < P.1 m → fa_is P m (fun k => bt (M (kF m) 5) k = false ∧ bt (M (kF m) 6) k = false) q (M' (kPf m) q))) 113 [some (.inr (kPl m)), some (.inr 1), some (.inr (kF m)), some (.inl (nI m)), some (.inr (kC m)), some (.inl (nI r)), none, none] [] M1
      refine fm_vret hX rfl d_P_draw_113 ?_
      have e : r = 4 := by omega
      rw [e] at hs
      exact ⟨rfl, pl_dr_end hw hm hs⟩
    · show fm_G SC Y_P_draw X M (fm_vr (fun M' => pl_fr m M M' ∧ ∀ q, q < P.1 m → fa_is P m (fun k => bt (M (kF m) 5) k = false ∧ bt (M (kF m) 6) k = false) q (M' (kPf m) q))) 26 [some (.inr (kPl m)), some (.inr 1), some (.inr (kF m)), some (.inl (nI m)), some (.inr (kC m)), some (.inl (nI r)), none, none] [] M1
      refine fm_aload hX d_P_draw_26 rfl rfl ?_
      refine fm_iload hX d_P_draw_28 rfl rfl ?_
      refine fm_callS_n (as := [.inr (kC m), .inl (nI r)]) (st := []) (pq := 33) hX cP_27 st_P_soleNew (k_P_soleNew (by omega) M1 hP1 hw (r := r) (by omega)) rfl rfl (Nat.le_of_ble_eq_true rfl) (Nat.le_of_ble_eq_true rfl) d_P_draw_30 rfl (fun v30 c30 => ?_)
      refine fm_istore (ls1 := [some (.inr (kPl m)), some (.inr 1), some (.inr (kF m)), some (.inl (nI m)), some (.inr (kC m)), some (.inl (nI r)), some (.inl v30), none]) hX d_P_draw_33 (by decide) rfl rfl ?_
      refine fm_iload hX d_P_draw_35 rfl rfl ?_
      refine fm_iconst (v := (-1)) hX d_P_draw_37 (by decide) rfl ?_
      refine fm_icmp_ne (tgt := 44) (pq := 41) hX d_P_draw_38 rfl rfl (fun h38 => ?_) (fun h38 => ?_)
      · show fm_G SC Y_P_draw X M (fm_vr (fun M' => pl_fr m M M' ∧ ∀ q, q < P.1 m → fa_is P m (fun k => bt (M (kF m) 5) k = false ∧ bt (M (kF m) 6) k = false) q (M' (kPf m) q))) 44 [some (.inr (kPl m)), some (.inr 1), some (.inr (kF m)), some (.inl (nI m)), some (.inr (kC m)), some (.inl (nI r)), some (.inl v30), none] [] M1
        obtain ⟨k, hk, pk⟩ := c30.resolve_right (fun z => h38 z.1)
        subst hk
        have hk24 := pk.1
        refine fm_aload hX d_P_draw_44 rfl rfl ?_
        refine fm_iload hX d_P_draw_46 rfl rfl ?_
        refine fm_callV_i (as := [.inl (nI k)]) (st := []) (pq := 51) hX (s_C (by omega)) rfl cP_31 rfl im_C_reachedWithout se_C_reachedWithout (k_C_reachedWithout (by omega) M1 hP1 hw (h := k) (by omega)) rfl rfl (Nat.le_of_ble_eq_true rfl) (Nat.le_of_ble_eq_true rfl) d_P_draw_48 rfl ?_
        refine fm_istore (ls1 := [some (.inr (kPl m)), some (.inr 1), some (.inr (kF m)), some (.inl (nI m)), some (.inr (kC m)), some (.inl (nI r)), some (.inl (nI k)), some (.inl (dm_free (P.1 m) (P.2.2 m) k))]) hX d_P_draw_51 (by decide) rfl rfl ?_
        refine fm_aload_n hX d_P_draw_53 rfl rfl rfl ?_
        refine fm_iload_n hX d_P_draw_54 rfl rfl rfl ?_
        refine fm_iload hX d_P_draw_55 rfl rfl ?_
        refine fm_callS_b (as := [.inr 1, .inl (nI m), .inl (nI r)]) (st := []) (pq := 60) hX cP_35 st_P_staysInside (k_P_staysInside (by omega) M1 hP1 hw (r := r) (by omega)) rfl rfl (Nat.le_of_ble_eq_true rfl) (Nat.le_of_ble_eq_true rfl) d_P_draw_57 rfl (fun b57 c57 => ?_)
        refine fm_b1_eq (tgt := 88) (pq := 63) hX d_P_draw_60 rfl rfl (fun h60 => ?_) (fun h60 => ?_)
        · show fm_G SC Y_P_draw X M (fm_vr (fun M' => pl_fr m M M' ∧ ∀ q, q < P.1 m → fa_is P m (fun k => bt (M (kF m) 5) k = false ∧ bt (M (kF m) 6) k = false) q (M' (kPf m) q))) 88 [some (.inr (kPl m)), some (.inr 1), some (.inr (kF m)), some (.inl (nI m)), some (.inr (kC m)), some (.inl (nI r)), some (.inl (nI k)), some (.inl (dm_free (P.1 m) (P.2.2 m) k))] [] M1
          have hna : ¬ fa_ap P m r k := fun z => by
            first
            | exact absurd (c57.mpr (fun i hi => (z.2.2 i hi).1)) (by rw [h60]; decide)
            | exact absurd (c69.mpr (fun i hi w => by
                cases y : bt (dm_free (P.1 m) (P.2.2 m) k) i with
                | false => rfl
                | true => exact absurd ((dm_free_bt wl (by omega) i).mp y) ((z.2.2 i hi).2 w))) (by rw [h72]; decide)
          refine fm_aload_n hX d_P_draw_88 rfl rfl rfl ?_
          refine fm_iload hX d_P_draw_89 rfl rfl ?_
          refine fm_callV_i (as := [.inl (nI k)]) (st := []) (pq := 94) hX (s_F (by omega)) rfl cP_47 rfl im_F_escapeOf se_F_escapeOf (k_F_escapeOf (by omega) M1 (i := k) (by omega)) rfl rfl (Nat.le_of_ble_eq_true rfl) (Nat.le_of_ble_eq_true rfl) d_P_draw_91 rfl ?_
          refine fm_if_ne (tgt := 107) (pq := 97) hX d_P_draw_94 rfl rfl (fun h94 => ?_) (fun h94 => ?_)
          · show fm_G SC Y_P_draw X M (fm_vr (fun M' => pl_fr m M M' ∧ ∀ q, q < P.1 m → fa_is P m (fun k => bt (M (kF m) 5) k = false ∧ bt (M (kF m) 6) k = false) q (M' (kPf m) q))) 107 [some (.inr (kPl m)), some (.inr 1), some (.inr (kF m)), some (.inl (nI m)), some (.inr (kC m)), some (.inl (nI r)), some (.inl (nI k)), some (.inl (dm_free (P.1 m) (P.2.2 m) k))] [] M1
            refine fm_iinc (v := nI (r + 1)) (ls1 := [some (.inr (kPl m)), some (.inr 1), some (.inr (kF m)), some (.inl (nI m)), some (.inr (kC m)), some (.inl (nI (r + 1))), some (.inl (nI k)), some (.inl (dm_free (P.1 m) (P.2.2 m) k))]) hX d_P_draw_107 rfl (nI_add _ _) (by decide) rfl rfl ?_
            refine fm_goto (tgt := 20) hX d_P_draw_110 rfl ?_
            refine fm_drop 6 (ls1 := [some (.inr (kPl m)), some (.inr 1), some (.inr (kF m)), some (.inl (nI m)), some (.inr (kC m)), some (.inl (nI (r + 1))), none, some (.inl (dm_free (P.1 m) (P.2.2 m) k))]) rfl ?_
            refine fm_drop 7 (ls1 := [some (.inr (kPl m)), some (.inr 1), some (.inr (kF m)), some (.inl (nI m)), some (.inr (kC m)), some (.inl (nI (r + 1))), none, none]) rfl ?_
            first | exact ih (by omega) (by omega) _ (pl_dr_es hs pk hna (fun z => h94 (pl_es2 hs.1 z))) | exact ih (by omega) (by omega) _ (pl_dr_no hs (c30.resolve_left (fun ⟨k, e, pk⟩ => by rw [h38] at e; exact nI_m1 (by have := pk.1; omega) e.symm)).2)
          · show fm_G SC Y_P_draw X M (fm_vr (fun M' => pl_fr m M M' ∧ ∀ q, q < P.1 m → fa_is P m (fun k => bt (M (kF m) 5) k = false ∧ bt (M (kF m) 6) k = false) q (M' (kPf m) q))) 97 [some (.inr (kPl m)), some (.inr 1), some (.inr (kF m)), some (.inl (nI m)), some (.inr (kC m)), some (.inl (nI r)), some (.inl (nI k)), some (.inl (dm_free (P.1 m) (P.2.2 m) k))] [] M1
            have hes : (fun k => bt (M (kF m) 5) k = false ∧ bt (M (kF m) 6) k = false) k := pl_es1 hs.1 h94
            refine fm_aload_n hX d_P_draw_97 rfl rfl rfl ?_
            refine fm_aload hX d_P_draw_98 rfl rfl ?_
            refine fm_iload hX d_P_draw_100 rfl rfl ?_
            refine fm_iload hX d_P_draw_102 rfl rfl ?_
            refine fm_callV_r (as := [.inr (kC m), .inl (nI r), .inl (dm_free (P.1 m) (P.2.2 m) k)]) (st := []) (pq := 107) hX (s_P (by omega)) rfl cP_52 rfl im_P_pairLocks se_P_pairLocks (k_P_pairLocks (by omega) M1 hP1 hw (r := r) (by omega) (dm_free (P.1 m) (P.2.2 m) k)) rfl rfl (Nat.le_of_ble_eq_true rfl) (Nat.le_of_ble_eq_true rfl) d_P_draw_104 rfl (fun M104 c104 => ?_)
            refine fm_iinc (v := nI (r + 1)) (ls1 := [some (.inr (kPl m)), some (.inr 1), some (.inr (kF m)), some (.inl (nI m)), some (.inr (kC m)), some (.inl (nI (r + 1))), some (.inl (nI k)), some (.inl (dm_free (P.1 m) (P.2.2 m) k))]) hX d_P_draw_107 rfl (nI_add _ _) (by decide) rfl rfl ?_
            refine fm_goto (tgt := 20) hX d_P_draw_110 rfl ?_
            refine fm_drop 6 (ls1 := [some (.inr (kPl m)), some (.inr 1), some (.inr (kF m)), some (.inl (nI m)), some (.inr (kC m)), some (.inl (nI (r + 1))), none, some (.inl (dm_free (P.1 m) (P.2.2 m) k))]) rfl ?_
            refine fm_drop 7 (ls1 := [some (.inr (kPl m)), some (.inr 1), some (.inr (kF m)), some (.inl (nI m)), some (.inr (kC m)), some (.inl (nI (r + 1))), none, none]) rfl ?_
            exact ih (by omega) (by omega) _ (pl_dr_lk wl hir hs pk hna hes c104)
        · show fm_G SC Y_P_draw X M (fm_vr (fun M' => pl_fr m M M' ∧ ∀ q, q < P.1 m → fa_is P m (fun k => bt (M (kF m) 5) k = false ∧ bt (M (kF m) 6) k = false) q (M' (kPf m) q))) 63 [some (.inr (kPl m)), some (.inr 1), some (.inr (kF m)), some (.inl (nI m)), some (.inr (kC m)), some (.inl (nI r)), some (.inl (nI k)), some (.inl (dm_free (P.1 m) (P.2.2 m) k))] [] M1
          refine fm_aload hX d_P_draw_63 rfl rfl ?_
          refine fm_iload hX d_P_draw_65 rfl rfl ?_
          refine fm_iload hX d_P_draw_67 rfl rfl ?_
          refine fm_callS_b (as := [.inr (kC m), .inl (nI r), .inl (dm_free (P.1 m) (P.2.2 m) k)]) (st := []) (pq := 72) hX cP_39 st_P_isMadeFirst (k_P_isMadeFirst (by omega) M1 hP1 hw (r := r) (by omega) (dm_free (P.1 m) (P.2.2 m) k)) rfl rfl (Nat.le_of_ble_eq_true rfl) (Nat.le_of_ble_eq_true rfl) d_P_draw_69 rfl (fun b69 c69 => ?_)
          refine fm_b1_eq (tgt := 88) (pq := 75) hX d_P_draw_72 rfl rfl (fun h72 => ?_) (fun h72 => ?_)
          · show fm_G SC Y_P_draw X M (fm_vr (fun M' => pl_fr m M M' ∧ ∀ q, q < P.1 m → fa_is P m (fun k => bt (M (kF m) 5) k = false ∧ bt (M (kF m) 6) k = false) q (M' (kPf m) q))) 88 [some (.inr (kPl m)), some (.inr 1), some (.inr (kF m)), some (.inl (nI m)), some (.inr (kC m)), some (.inl (nI r)), some (.inl (nI k)), some (.inl (dm_free (P.1 m) (P.2.2 m) k))] [] M1
            have hna : ¬ fa_ap P m r k := fun z => by
              first
              | exact absurd (c57.mpr (fun i hi => (z.2.2 i hi).1)) (by rw [h60]; decide)
              | exact absurd (c69.mpr (fun i hi w => by
                  cases y : bt (dm_free (P.1 m) (P.2.2 m) k) i with
                  | false => rfl
                  | true => exact absurd ((dm_free_bt wl (by omega) i).mp y) ((z.2.2 i hi).2 w))) (by rw [h72]; decide)
            refine fm_aload_n hX d_P_draw_88 rfl rfl rfl ?_
            refine fm_iload hX d_P_draw_89 rfl rfl ?_
            refine fm_callV_i (as := [.inl (nI k)]) (st := []) (pq := 94) hX (s_F (by omega)) rfl cP_47 rfl im_F_escapeOf se_F_escapeOf (k_F_escapeOf (by omega) M1 (i := k) (by omega)) rfl rfl (Nat.le_of_ble_eq_true rfl) (Nat.le_of_ble_eq_true rfl) d_P_draw_91 rfl ?_
            refine fm_if_ne (tgt := 107) (pq := 97) hX d_P_draw_94 rfl rfl (fun h94 => ?_) (fun h94 => ?_)
            · show fm_G SC Y_P_draw X M (fm_vr (fun M' => pl_fr m M M' ∧ ∀ q, q < P.1 m → fa_is P m (fun k => bt (M (kF m) 5) k = false ∧ bt (M (kF m) 6) k = false) q (M' (kPf m) q))) 107 [some (.inr (kPl m)), some (.inr 1), some (.inr (kF m)), some (.inl (nI m)), some (.inr (kC m)), some (.inl (nI r)), some (.inl (nI k)), some (.inl (dm_free (P.1 m) (P.2.2 m) k))] [] M1
              refine fm_iinc (v := nI (r + 1)) (ls1 := [some (.inr (kPl m)), some (.inr 1), some (.inr (kF m)), some (.inl (nI m)), some (.inr (kC m)), some (.inl (nI (r + 1))), some (.inl (nI k)), some (.inl (dm_free (P.1 m) (P.2.2 m) k))]) hX d_P_draw_107 rfl (nI_add _ _) (by decide) rfl rfl ?_
              refine fm_goto (tgt := 20) hX d_P_draw_110 rfl ?_
              refine fm_drop 6 (ls1 := [some (.inr (kPl m)), some (.inr 1), some (.inr (kF m)), some (.inl (nI m)), some (.inr (kC m)), some (.inl (nI (r + 1))), none, some (.inl (dm_free (P.1 m) (P.2.2 m) k))]) rfl ?_
              refine fm_drop 7 (ls1 := [some (.inr (kPl m)), some (.inr 1), some (.inr (kF m)), some (.inl (nI m)), some (.inr (kC m)), some (.inl (nI (r + 1))), none, none]) rfl ?_
              first | exact ih (by omega) (by omega) _ (pl_dr_es hs pk hna (fun z => h94 (pl_es2 hs.1 z))) | exact ih (by omega) (by omega) _ (pl_dr_no hs (c30.resolve_left (fun ⟨k, e, pk⟩ => by rw [h38] at e; exact nI_m1 (by have := pk.1; omega) e.symm)).2)
            · show fm_G SC Y_P_draw X M (fm_vr (fun M' => pl_fr m M M' ∧ ∀ q, q < P.1 m → fa_is P m (fun k => bt (M (kF m) 5) k = false ∧ bt (M (kF m) 6) k = false) q (M' (kPf m) q))) 97 [some (.inr (kPl m)), some (.inr 1), some (.inr (kF m)), some (.inl (nI m)), some (.inr (kC m)), some (.inl (nI r)), some (.inl (nI k)), some (.inl (dm_free (P.1 m) (P.2.2 m) k))] [] M1
              have hes : (fun k => bt (M (kF m) 5) k = false ∧ bt (M (kF m) 6) k = false) k := pl_es1 hs.1 h94
              refine fm_aload_n hX d_P_draw_97 rfl rfl rfl ?_
              refine fm_aload hX d_P_draw_98 rfl rfl ?_
              refine fm_iload hX d_P_draw_100 rfl rfl ?_
              refine fm_iload hX d_P_draw_102 rfl rfl ?_
              refine fm_callV_r (as := [.inr (kC m), .inl (nI r), .inl (dm_free (P.1 m) (P.2.2 m) k)]) (st := []) (pq := 107) hX (s_P (by omega)) rfl cP_52 rfl im_P_pairLocks se_P_pairLocks (k_P_pairLocks (by omega) M1 hP1 hw (r := r) (by omega) (dm_free (P.1 m) (P.2.2 m) k)) rfl rfl (Nat.le_of_ble_eq_true rfl) (Nat.le_of_ble_eq_true rfl) d_P_draw_104 rfl (fun M104 c104 => ?_)
              refine fm_iinc (v := nI (r + 1)) (ls1 := [some (.inr (kPl m)), some (.inr 1), some (.inr (kF m)), some (.inl (nI m)), some (.inr (kC m)), some (.inl (nI (r + 1))), some (.inl (nI k)), some (.inl (dm_free (P.1 m) (P.2.2 m) k))]) hX d_P_draw_107 rfl (nI_add _ _) (by decide) rfl rfl ?_
              refine fm_goto (tgt := 20) hX d_P_draw_110 rfl ?_
              refine fm_drop 6 (ls1 := [some (.inr (kPl m)), some (.inr 1), some (.inr (kF m)), some (.inl (nI m)), some (.inr (kC m)), some (.inl (nI (r + 1))), none, some (.inl (dm_free (P.1 m) (P.2.2 m) k))]) rfl ?_
              refine fm_drop 7 (ls1 := [some (.inr (kPl m)), some (.inr 1), some (.inr (kF m)), some (.inl (nI m)), some (.inr (kC m)), some (.inl (nI (r + 1))), none, none]) rfl ?_
              exact ih (by omega) (by omega) _ (pl_dr_lk wl hir hs pk hna hes c104)
          · show fm_G SC Y_P_draw X M (fm_vr (fun M' => pl_fr m M M' ∧ ∀ q, q < P.1 m → fa_is P m (fun k => bt (M (kF m) 5) k = false ∧ bt (M (kF m) 6) k = false) q (M' (kPf m) q))) 75 [some (.inr (kPl m)), some (.inr 1), some (.inr (kF m)), some (.inl (nI m)), some (.inr (kC m)), some (.inl (nI r)), some (.inl (nI k)), some (.inl (dm_free (P.1 m) (P.2.2 m) k))] [] M1
            have hap : fa_ap P m r k := ⟨hir, pk, fun i hi => ⟨c57.mp h60 i hi, fun w => fun z => absurd (c69.mp h72 i hi w) (by rw [(dm_free_bt wl (by omega) i).mpr z]; decide)⟩⟩
            refine fm_aload_n hX d_P_draw_75 rfl rfl rfl ?_
            refine fm_aload hX d_P_draw_76 rfl rfl ?_
            refine fm_iload hX d_P_draw_78 rfl rfl ?_
            refine fm_iload hX d_P_draw_80 rfl rfl ?_
            refine fm_callV_r (as := [.inr (kC m), .inl (nI r), .inl (nI k)]) (st := []) (pq := 85) hX (s_P (by omega)) rfl cP_43 rfl im_P_takeApart se_P_takeApart (k_P_takeApart (by omega) M1 hP1 hw (r := r) (by omega) (k := k) (by omega)) rfl rfl (Nat.le_of_ble_eq_true rfl) (Nat.le_of_ble_eq_true rfl) d_P_draw_82 rfl (fun M82 c82 => ?_)
            refine fm_goto (tgt := 107) hX d_P_draw_85 rfl ?_
            refine fm_iinc (v := nI (r + 1)) (ls1 := [some (.inr (kPl m)), some (.inr 1), some (.inr (kF m)), some (.inl (nI m)), some (.inr (kC m)), some (.inl (nI (r + 1))), some (.inl (nI k)), some (.inl (dm_free (P.1 m) (P.2.2 m) k))]) hX d_P_draw_107 rfl (nI_add _ _) (by decide) rfl rfl ?_
            refine fm_goto (tgt := 20) hX d_P_draw_110 rfl ?_
            refine fm_drop 6 (ls1 := [some (.inr (kPl m)), some (.inr 1), some (.inr (kF m)), some (.inl (nI m)), some (.inr (kC m)), some (.inl (nI (r + 1))), none, some (.inl (dm_free (P.1 m) (P.2.2 m) k))]) rfl ?_
            refine fm_drop 7 (ls1 := [some (.inr (kPl m)), some (.inr 1), some (.inr (kF m)), some (.inl (nI m)), some (.inr (kC m)), some (.inl (nI (r + 1))), none, none]) rfl ?_
            exact ih (by omega) (by omega) _ (pl_dr_ap hs hap c82)
      · show fm_G SC Y_P_draw X M (fm_vr (fun M' => pl_fr m M M' ∧ ∀ q, q < P.1 m → fa_is P m (fun k => bt (M (kF m) 5) k = false ∧ bt (M (kF m) 6) k = false) q (M' (kPf m) q))) 41 [some (.inr (kPl m)), some (.inr 1), some (.inr (kF m)), some (.inl (nI m)), some (.inr (kC m)), some (.inl (nI r)), some (.inl v30), none] [] M1
        refine fm_goto (tgt := 107) hX d_P_draw_41 rfl ?_
        refine fm_iinc (v := nI (r + 1)) (ls1 := [some (.inr (kPl m)), some (.inr 1), some (.inr (kF m)), some (.inl (nI m)), some (.inr (kC m)), some (.inl (nI (r + 1))), some (.inl v30), none]) hX d_P_draw_107 rfl (nI_add _ _) (by decide) rfl rfl ?_
        refine fm_goto (tgt := 20) hX d_P_draw_110 rfl ?_
        refine fm_drop 6 (ls1 := [some (.inr (kPl m)), some (.inr 1), some (.inr (kF m)), some (.inl (nI m)), some (.inr (kC m)), some (.inl (nI (r + 1))), none, none]) rfl ?_
        first | exact ih (by omega) (by omega) _ (pl_dr_es hs pk hna (fun z => h94 (pl_es2 hs.1 z))) | exact ih (by omega) (by omega) _ (pl_dr_no hs (c30.resolve_left (fun ⟨k, e, pk⟩ => by rw [h38] at e; exact nI_m1 (by have := pk.1; omega) e.symm)).2)
  show fm_G SC Y_P_draw X M (fm_vr (fun M' => pl_fr m M M' ∧ ∀ q, q < P.1 m → fa_is P m (fun k => bt (M (kF m) 5) k = false ∧ bt (M (kF m) 6) k = false) q (M' (kPf m) q))) 0 [some (.inr (kPl m)), some (.inr 1), some (.inr (kF m)), some (.inl (nI m)), none, none, none, none] [] M
  refine fm_aload_n hX d_P_draw_0 rfl rfl rfl ?_
  refine fm_getr (q := kPf m) hX fP_9 (s_P (by omega)) rfl d_P_draw_1 rfl ?_
  refine fm_iconst (v := nI 0) hX d_P_draw_4 (by decide) rfl ?_
  refine fm_callS_v (as := [.inr (kPf m), .inl (nI 0)]) (st := []) (pq := 8) hX cP_15 st_A_fill (k_A_fill (n := 24) (s_Pf (by omega)) (by decide) M (nI 0)) rfl rfl (Nat.le_of_ble_eq_true rfl) (Nat.le_of_ble_eq_true rfl) d_P_draw_5 rfl ?_
  have hPf := cP_fill hP m
  refine fm_aload_n hX d_P_draw_8 rfl rfl rfl ?_
  refine fm_iload_n hX d_P_draw_9 rfl rfl rfl ?_
  refine fm_aald (q := kC m) hX rfl (by decide) rfl rfl rfl (by omega) (by decide) (r_C (by omega)) d_P_draw_10 rfl ?_
  refine fm_astore (ls1 := [some (.inr (kPl m)), some (.inr 1), some (.inr (kF m)), some (.inl (nI m)), some (.inr (kC m)), none, none, none]) hX d_P_draw_11 (by decide) rfl rfl ?_
  refine fm_aload hX d_P_draw_13 rfl rfl ?_
  refine fm_geti (v := nI (P.2.1 m)) hX fP_21 (s_C (by omega)) rfl (hPf m (by omega)).2.1 d_P_draw_15 rfl ?_
  refine fm_istore (ls1 := [some (.inr (kPl m)), some (.inr 1), some (.inr (kF m)), some (.inl (nI m)), some (.inr (kC m)), some (.inl (nI (P.2.1 m))), none, none]) hX d_P_draw_18 (by decide) rfl rfl ?_
  exact L20 _ (by omega) (Nat.le_refl _) _ (pl_dr_0 wi wl)
