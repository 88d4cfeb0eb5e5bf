/-! The reference: apart, pair (written by program) -/
abbrev Y_R_apart : fm_Y := ("EscapeMillModel", b_R_apart, 8, (some .boolean), 4)
set_option maxRecDepth 100000 in
set_option maxHeartbeats 4000000 in
theorem k_R_apart {P : pr_T} {m : Nat} (hm : m < 5) (M : fm_M) (hP : rP M P) (hw : pr_wf P) {r : Nat} (hr : r < 4) : fm_ct SR y_R_apart b_R_apart 8 (some .boolean) 4 [.inr 0, .inl (nI m), .inl (nI r)] M (fm_xb (∃ k, fa_ap P m r k) M) := by
  refine fm_of (ls := [some (.inr 0), some (.inl (nI m)), some (.inl (nI r)), none, none, none, none, none]) (by decide) wsA_good (Nat.le_of_ble_eq_true rfl) rfl (fun X hX => ?_)
  obtain ⟨wl, wi, wI⟩ := hw m hm
  have L21 : ∀ k, P.2.1 m ≤ r → fa_nw (P.1 m) (P.2.2 m) r k → ∀ i, i ≤ P.1 m → ∀ (b : Bool) (M1 : fm_M), fr12 M M1 → (b = true ↔ ∀ j, j < i → fa_a1 P m r k j) → fm_G SR Y_R_apart X M (fm_xb (∃ k, fa_ap P m r k) M) 21 [some (.inr 0), some (.inl (nI m)), some (.inl (nI r)), some (.inl (nI k)), some (.inl (bI b)), some (.inl (nI i)), none, none] [] M1 := by
    intro k hir pk
    have hk24 := pk.1
    refine fm_ind (P.1 m) (fun i hle ih => ?_)
    intro b M1 hf hb
    have hP1 := fr12_P hf hP
    refine fm_iload (pq := 23) hX d_R_apart_21 rfl rfl ?_
    refine fm_aload_n (pq := 24) hX d_R_apart_23 rfl rfl rfl ?_
    refine fm_getr (pq := 27) (q := 2) hX fR_13 rfl rfl d_R_apart_24 rfl ?_
    refine fm_iload_n (pq := 28) hX d_R_apart_27 rfl rfl rfl ?_
    refine fm_iald (pq := 29) (v := nI (P.1 m)) hX rfl rfl rfl (by omega) (by decide) (hP1 m (by omega)).1 d_R_apart_28 rfl ?_
    refine fm_n_ge (tgt := 91) (pq := 32) hX d_R_apart_29 rfl rfl (by omega) (by omega) (fun h29 => ?_) (fun h29 => ?_)
    · show fm_G SR Y_R_apart X M (fm_xb (∃ k, fa_ap P m r k) M) 91 [some (.inr 0), some (.inl (nI m)), some (.inl (nI r)), some (.inl (nI k)), some (.inl (bI b)), some (.inl (nI i)), none, none] [] M1
      refine fm_iload (pq := 93) hX d_R_apart_91 rfl rfl ?_
      refine fm_zret hX rfl (fm_nb b) d_R_apart_93 ?_
      first
      | exact fm_xbb ⟨fun z => ⟨k, hir, pk, fun j hj => hb.mp z j (by omega)⟩, fun ⟨l, z⟩ => hb.mpr (fun j hj => by rw [fa_nw_uq z.2.1 pk] at z; exact z.2.2 j (by omega))⟩ hf
      | exact fm_xbb ⟨fun z => absurd z (by rw [h34]; decide), fun ⟨l, z⟩ => hb.mpr (fun j hj => by rw [fa_nw_uq z.2.1 pk] at z; exact z.2.2 j (by omega))⟩ hf
    · show fm_G SR Y_R_apart X M (fm_xb (∃ k, fa_ap P m r k) M) 32 [some (.inr 0), some (.inl (nI m)), some (.inl (nI r)), some (.inl (nI k)), some (.inl (bI b)), some (.inl (nI i)), none, none] [] M1
      refine fm_iload (pq := 34) hX d_R_apart_32 rfl rfl ?_
      refine fm_b1_eq (tgt := 91) (pq := 37) hX d_R_apart_34 rfl rfl (fun h34 => ?_) (fun h34 => ?_)
      · show fm_G SR Y_R_apart X M (fm_xb (∃ k, fa_ap P m r k) M) 91 [some (.inr 0), some (.inl (nI m)), some (.inl (nI r)), some (.inl (nI k)), some (.inl (bI b)), some (.inl (nI i)), none, none] [] M1
        refine fm_iload (pq := 93) hX d_R_apart_91 rfl rfl ?_
        refine fm_zret hX rfl (fm_nb b) d_R_apart_93 ?_
        first
        | exact fm_xbb ⟨fun z => ⟨k, hir, pk, fun j hj => hb.mp z j (by omega)⟩, fun ⟨l, z⟩ => hb.mpr (fun j hj => by rw [fa_nw_uq z.2.1 pk] at z; exact z.2.2 j (by omega))⟩ hf
        | exact fm_xbb ⟨fun z => absurd z (by rw [h34]; decide), fun ⟨l, z⟩ => hb.mpr (fun j hj => by rw [fa_nw_uq z.2.1 pk] at z; exact z.2.2 j (by omega))⟩ hf
      · show fm_G SR Y_R_apart X M (fm_xb (∃ k, fa_ap P m r k) M) 37 [some (.inr 0), some (.inl (nI m)), some (.inl (nI r)), some (.inl (nI k)), some (.inl (bI b)), some (.inl (nI i)), none, none] [] M1
        have L83 : ∀ (b1 : Bool) (M2 : fm_M), fr12 M M2 → (b1 = true ↔ fa_a1 P m r k i) → fm_G SR Y_R_apart X M (fm_xb (∃ k, fa_ap P m r k) M) 83 [some (.inr 0), some (.inl (nI m)), some (.inl (nI r)), some (.inl (nI k)), some (.inl (bI b)), some (.inl (nI i)), none, none] [.inl (bI b1)] M2 := by
          intro b83 M2 hf2 hb83
          refine fm_istore (pq := 85) (ls1 := [some (.inr 0), some (.inl (nI m)), some (.inl (nI r)), some (.inl (nI k)), some (.inl (bI b83)), some (.inl (nI i)), none, none]) hX d_R_apart_83 (by decide) rfl rfl ?_
          refine fm_iinc (pq := 88) (v := nI (i + 1)) (ls1 := [some (.inr 0), some (.inl (nI m)), some (.inl (nI r)), some (.inl (nI k)), some (.inl (bI b83)), some (.inl (nI (i + 1))), none, none]) hX d_R_apart_85 rfl (nI_add _ _) (by decide) rfl rfl ?_
          refine fm_goto (tgt := 21) hX d_R_apart_88 rfl ?_
          exact ih (by omega) b83 M2 hf2 (lt_iff hb h34 hb83)
        refine fm_aload_n (pq := 38) hX d_R_apart_37 rfl rfl rfl ?_
        refine fm_iload_n (pq := 39) hX d_R_apart_38 rfl rfl rfl ?_
        refine fm_iload (pq := 41) hX d_R_apart_39 rfl rfl ?_
        refine fm_iload_n (pq := 42) hX d_R_apart_41 rfl rfl rfl ?_
        refine fm_callV_i (as := [.inl (nI m), .inl (nI i), .inl (nI r)]) (st := []) (pq := 45) hX rfl rfl cR_138 rfl im_R_worksOn se_R_worksOn (k_R_worksOn (m := m) (by omega) M1 hP1 hw (i := i) (by omega) (r := r) (by omega)) rfl rfl (Nat.le_of_ble_eq_true rfl) (Nat.le_of_ble_eq_true rfl) d_R_apart_42 rfl ?_
        refine fm_istore (pq := 47) (ls1 := [some (.inr 0), some (.inl (nI m)), some (.inl (nI r)), some (.inl (nI k)), some (.inl (bI b)), some (.inl (nI i)), some (.inl (bI (decide (fa_wk (P.2.2 m i) r)))), none]) hX d_R_apart_45 (by decide) rfl rfl ?_
        refine fm_aload_n (pq := 48) hX d_R_apart_47 rfl rfl rfl ?_
        refine fm_iload_n (pq := 49) hX d_R_apart_48 rfl rfl rfl ?_
        refine fm_iload (pq := 51) hX d_R_apart_49 rfl rfl ?_
        refine fm_iload_n (pq := 52) hX d_R_apart_51 rfl rfl rfl ?_
        refine fm_callV_i (as := [.inl (nI m), .inl (nI i), .inl (nI r)]) (st := []) (pq := 55) hX rfl rfl cR_142 rfl im_R_gives se_R_gives (k_R_gives (m := m) (by omega) M1 hP1 hw (i := i) (by omega) (r := r) (by omega)) rfl rfl (Nat.le_of_ble_eq_true rfl) (Nat.le_of_ble_eq_true rfl) d_R_apart_52 rfl ?_
        refine fm_istore (pq := 57) (ls1 := [some (.inr 0), some (.inl (nI m)), some (.inl (nI r)), some (.inl (nI k)), some (.inl (bI b)), some (.inl (nI i)), some (.inl (bI (decide (fa_wk (P.2.2 m i) r)))), some (.inl (bI (decide (fa_hd (fa_k P (P.2.2 m i)) (P.2.2 m i) r))))]) hX d_R_apart_55 (by decide) rfl rfl ?_
        refine fm_iload (pq := 59) hX d_R_apart_57 rfl rfl ?_
        refine fm_p1_ne (tgt := 82) (pq := 62) hX d_R_apart_59 rfl rfl (fun h59 => ?_) (fun h59 => ?_)
        · show fm_G SR Y_R_apart X M (fm_xb (∃ k, fa_ap P m r k) M) 82 [some (.inr 0), some (.inl (nI m)), some (.inl (nI r)), some (.inl (nI k)), some (.inl (bI b)), some (.inl (nI i)), some (.inl (bI (decide (fa_wk (P.2.2 m i) r)))), some (.inl (bI (decide (fa_hd (fa_k P (P.2.2 m i)) (P.2.2 m i) r))))] [] M1
          refine fm_iconst (pq := 83) (v := nI 0) hX d_R_apart_82 (by decide) rfl ?_
          refine fm_drop 6 (ls1 := [some (.inr 0), some (.inl (nI m)), some (.inl (nI r)), some (.inl (nI k)), some (.inl (bI b)), some (.inl (nI i)), none, some (.inl (bI (decide (fa_hd (fa_k P (P.2.2 m i)) (P.2.2 m i) r))))]) rfl ?_
          refine fm_drop 7 (ls1 := [some (.inr 0), some (.inl (nI m)), some (.inl (nI r)), some (.inl (nI k)), some (.inl (bI b)), some (.inl (nI i)), none, none]) rfl ?_
          first
          | exact L83 true _ hf ⟨fun _ => ⟨h59, fun z => absurd z h64⟩, fun _ => rfl⟩
          | exact L83 false _ hf ⟨fun z => absurd z (by decide), fun z => absurd h59 z.1⟩
        · show fm_G SR Y_R_apart X M (fm_xb (∃ k, fa_ap P m r k) M) 62 [some (.inr 0), some (.inl (nI m)), some (.inl (nI r)), some (.inl (nI k)), some (.inl (bI b)), some (.inl (nI i)), some (.inl (bI (decide (fa_wk (P.2.2 m i) r)))), some (.inl (bI (decide (fa_hd (fa_k P (P.2.2 m i)) (P.2.2 m i) r))))] [] M1
          refine fm_iload (pq := 64) hX d_R_apart_62 rfl rfl ?_
          refine fm_p1_eq (tgt := 78) (pq := 67) hX d_R_apart_64 rfl rfl (fun h64 => ?_) (fun h64 => ?_)
          · show fm_G SR Y_R_apart X M (fm_xb (∃ k, fa_ap P m r k) M) 78 [some (.inr 0), some (.inl (nI m)), some (.inl (nI r)), some (.inl (nI k)), some (.inl (bI b)), some (.inl (nI i)), some (.inl (bI (decide (fa_wk (P.2.2 m i) r)))), some (.inl (bI (decide (fa_hd (fa_k P (P.2.2 m i)) (P.2.2 m i) r))))] [] M1
            refine fm_iconst (pq := 79) (v := nI 1) hX d_R_apart_78 (by decide) rfl ?_
            refine fm_goto (tgt := 83) hX d_R_apart_79 rfl ?_
            refine fm_drop 6 (ls1 := [some (.inr 0), some (.inl (nI m)), some (.inl (nI r)), some (.inl (nI k)), some (.inl (bI b)), some (.inl (nI i)), none, some (.inl (bI (decide (fa_hd (fa_k P (P.2.2 m i)) (P.2.2 m i) r))))]) rfl ?_
            refine fm_drop 7 (ls1 := [some (.inr 0), some (.inl (nI m)), some (.inl (nI r)), some (.inl (nI k)), some (.inl (bI b)), some (.inl (nI i)), none, none]) rfl ?_
            first
            | exact L83 true _ hf ⟨fun _ => ⟨h59, fun z => absurd z h64⟩, fun _ => rfl⟩
            | exact L83 false _ hf ⟨fun z => absurd z (by decide), fun z => absurd h59 z.1⟩
          · show fm_G SR Y_R_apart X M (fm_xb (∃ k, fa_ap P m r k) M) 67 [some (.inr 0), some (.inl (nI m)), some (.inl (nI r)), some (.inl (nI k)), some (.inl (bI b)), some (.inl (nI i)), some (.inl (bI (decide (fa_wk (P.2.2 m i) r)))), some (.inl (bI (decide (fa_hd (fa_k P (P.2.2 m i)) (P.2.2 m i) r))))] [] M1
            refine fm_aload_n (pq := 68) hX d_R_apart_67 rfl rfl rfl ?_
            refine fm_iload_n (pq := 69) hX d_R_apart_68 rfl rfl rfl ?_
            refine fm_iload_n (pq := 70) hX d_R_apart_69 rfl rfl rfl ?_
            refine fm_iload (pq := 72) hX d_R_apart_70 rfl rfl ?_
            refine fm_callV_y (as := [.inl (nI m), .inl (nI k), .inl (nI i)]) (st := []) (pq := 75) hX rfl rfl cR_145 rfl im_R_dominates se_R_dominates (k_R_dominates (m := m) (by omega) M1 hP1 hw (by omega) (i := k) (j := i) (by omega) (by omega)) rfl rfl (Nat.le_of_ble_eq_true rfl) (Nat.le_of_ble_eq_true rfl) d_R_apart_72 rfl (fun b72 M72 c72 => ?_)
            have hP72 := fr12_P c72.2 hP1
            refine fm_b1_eq (tgt := 82) (pq := 78) hX d_R_apart_75 rfl rfl (fun h75 => ?_) (fun h75 => ?_)
            · show fm_G SR Y_R_apart X M (fm_xb (∃ k, fa_ap P m r k) M) 82 [some (.inr 0), some (.inl (nI m)), some (.inl (nI r)), some (.inl (nI k)), some (.inl (bI b)), some (.inl (nI i)), some (.inl (bI (decide (fa_wk (P.2.2 m i) r)))), some (.inl (bI (decide (fa_hd (fa_k P (P.2.2 m i)) (P.2.2 m i) r))))] [] M72
              refine fm_iconst (pq := 83) (v := nI 0) hX d_R_apart_82 (by decide) rfl ?_
              refine fm_drop 6 (ls1 := [some (.inr 0), some (.inl (nI m)), some (.inl (nI r)), some (.inl (nI k)), some (.inl (bI b)), some (.inl (nI i)), none, some (.inl (bI (decide (fa_hd (fa_k P (P.2.2 m i)) (P.2.2 m i) r))))]) rfl ?_
              refine fm_drop 7 (ls1 := [some (.inr 0), some (.inl (nI m)), some (.inl (nI r)), some (.inl (nI k)), some (.inl (bI b)), some (.inl (nI i)), none, none]) rfl ?_
              first
              | exact L83 true _ (fr12_tr hf c72.2) ⟨fun _ => ⟨h59, fun _ z => (c72.1.mp h75).elim (fun e => dm_R_ne z e.symm) (fun y => y z)⟩, fun _ => rfl⟩
              | exact L83 false _ (fr12_tr hf c72.2) ⟨fun z => absurd z (by decide), fun z => absurd (c72.1.mpr (Or.inr (z.2 h64))) (by rw [h75]; decide)⟩
            · show fm_G SR Y_R_apart X M (fm_xb (∃ k, fa_ap P m r k) M) 78 [some (.inr 0), some (.inl (nI m)), some (.inl (nI r)), some (.inl (nI k)), some (.inl (bI b)), some (.inl (nI i)), some (.inl (bI (decide (fa_wk (P.2.2 m i) r)))), some (.inl (bI (decide (fa_hd (fa_k P (P.2.2 m i)) (P.2.2 m i) r))))] [] M72
              refine fm_iconst (pq := 79) (v := nI 1) hX d_R_apart_78 (by decide) rfl ?_
              refine fm_goto (tgt := 83) hX d_R_apart_79 rfl ?_
              refine fm_drop 6 (ls1 := [some (.inr 0), some (.inl (nI m)), some (.inl (nI r)), some (.inl (nI k)), some (.inl (bI b)), some (.inl (nI i)), none, some (.inl (bI (decide (fa_hd (fa_k P (P.2.2 m i)) (P.2.2 m i) r))))]) rfl ?_
              refine fm_drop 7 (ls1 := [some (.inr 0), some (.inl (nI m)), some (.inl (nI r)), some (.inl (nI k)), some (.inl (bI b)), some (.inl (nI i)), none, none]) rfl ?_
              first
              | exact L83 true _ (fr12_tr hf c72.2) ⟨fun _ => ⟨h59, fun _ z => (c72.1.mp h75).elim (fun e => dm_R_ne z e.symm) (fun y => y z)⟩, fun _ => rfl⟩
              | exact L83 false _ (fr12_tr hf c72.2) ⟨fun z => absurd z (by decide), fun z => absurd (c72.1.mpr (Or.inr (z.2 h64))) (by rw [h75]; decide)⟩
  show fm_G SR Y_R_apart X M (fm_xb (∃ k, fa_ap P m r k) M) 0 [some (.inr 0), some (.inl (nI m)), some (.inl (nI r)), none, none, none, none, none] [] M
  refine fm_aload_n (pq := 1) hX d_R_apart_0 rfl rfl rfl ?_
  refine fm_iload_n (pq := 2) hX d_R_apart_1 rfl rfl rfl ?_
  refine fm_iload_n (pq := 3) hX d_R_apart_2 rfl rfl rfl ?_
  refine fm_callV_n (as := [.inl (nI m), .inl (nI r)]) (st := []) (pq := 6) hX rfl rfl cR_135 rfl im_R_onlyNew se_R_onlyNew (k_R_onlyNew (m := m) (by omega) M hP hw (r := r) (by omega)) rfl rfl (Nat.le_of_ble_eq_true rfl) (Nat.le_of_ble_eq_true rfl) d_R_apart_3 rfl (fun v3 c3 => ?_)
  refine fm_istore_n (pq := 7) (ls1 := [some (.inr 0), some (.inl (nI m)), some (.inl (nI r)), some (.inl v3), none, none, none, none]) hX d_R_apart_6 rfl (by decide) rfl rfl ?_
  rcases c3 with ⟨k, ek, hir, pk⟩ | ⟨ek, hno⟩
  · subst ek
    have hk24 := pk.1
    refine fm_iload_n (pq := 8) hX d_R_apart_7 rfl rfl rfl ?_
    refine fm_z_lt (tgt := 15) (pq := 11) hX d_R_apart_8 rfl rfl (by omega) (fun h8 => ?_) (fun h8 => ?_)
    · exact absurd h8 (by omega)
    · show fm_G SR Y_R_apart X M (fm_xb (∃ k, fa_ap P m r k) M) 11 [some (.inr 0), some (.inl (nI m)), some (.inl (nI r)), some (.inl (nI k)), none, none, none, none] [] M
      refine fm_iconst (pq := 12) (v := nI 1) hX d_R_apart_11 (by decide) rfl ?_
      refine fm_goto (tgt := 16) hX d_R_apart_12 rfl ?_
      refine fm_istore (pq := 18) (ls1 := [some (.inr 0), some (.inl (nI m)), some (.inl (nI r)), some (.inl (nI k)), some (.inl (nI 1)), none, none, none]) hX d_R_apart_16 (by decide) rfl rfl ?_
      refine fm_iconst (pq := 19) (v := nI 0) hX d_R_apart_18 (by decide) rfl ?_
      refine fm_istore (pq := 21) (ls1 := [some (.inr 0), some (.inl (nI m)), some (.inl (nI r)), some (.inl (nI k)), some (.inl (nI 1)), some (.inl (nI 0)), none, none]) hX d_R_apart_19 (by decide) rfl rfl ?_
      exact L21 k hir pk 0 (by omega) true M (fr12_rf M) ⟨fun _ j hj => absurd hj (by omega), fun _ => rfl⟩
  · subst ek
    refine fm_iload_n (pq := 8) hX d_R_apart_7 rfl rfl rfl ?_
    refine fm_if_lt (tgt := 15) (pq := 11) hX d_R_apart_8 rfl rfl (fun h8 => ?_) (fun h8 => ?_)
    · show fm_G SR Y_R_apart X M (fm_xb (∃ k, fa_ap P m r k) M) 15 [some (.inr 0), some (.inl (nI m)), some (.inl (nI r)), some (.inl ((-1))), none, none, none, none] [] M
      refine fm_iconst (pq := 16) (v := nI 0) hX d_R_apart_15 (by decide) rfl ?_
      refine fm_istore (pq := 18) (ls1 := [some (.inr 0), some (.inl (nI m)), some (.inl (nI r)), some (.inl ((-1))), some (.inl (nI 0)), none, none, none]) hX d_R_apart_16 (by decide) rfl rfl ?_
      refine fm_iconst (pq := 19) (v := nI 0) hX d_R_apart_18 (by decide) rfl ?_
      refine fm_istore (pq := 21) (ls1 := [some (.inr 0), some (.inl (nI m)), some (.inl (nI r)), some (.inl ((-1))), some (.inl (nI 0)), some (.inl (nI 0)), none, none]) hX d_R_apart_19 (by decide) rfl rfl ?_
      refine fm_iload (pq := 23) hX d_R_apart_21 rfl rfl ?_
      refine fm_aload_n (pq := 24) hX d_R_apart_23 rfl rfl rfl ?_
      refine fm_getr (pq := 27) (q := 2) hX fR_13 rfl rfl d_R_apart_24 rfl ?_
      refine fm_iload_n (pq := 28) hX d_R_apart_27 rfl rfl rfl ?_
      refine fm_iald (pq := 29) (v := nI (P.1 m)) hX rfl rfl rfl (by omega) (by decide) (hP m (by omega)).1 d_R_apart_28 rfl ?_
      refine fm_n_ge (tgt := 91) (pq := 32) hX d_R_apart_29 rfl rfl (by omega) (by omega) (fun h29 => ?_) (fun h29 => ?_)
      · show fm_G SR Y_R_apart X M (fm_xb (∃ k, fa_ap P m r k) M) 91 [some (.inr 0), some (.inl (nI m)), some (.inl (nI r)), some (.inl ((-1))), some (.inl (nI 0)), some (.inl (nI 0)), none, none] [] M
        refine fm_iload (pq := 93) hX d_R_apart_91 rfl rfl ?_
        refine fm_zret hX rfl (by decide) d_R_apart_93 ?_
        exact fm_xb0 (fun ⟨k, z⟩ => hno ⟨z.1, k, z.2.1⟩) (fr12_rf M)
      · show fm_G SR Y_R_apart X M (fm_xb (∃ k, fa_ap P m r k) M) 32 [some (.inr 0), some (.inl (nI m)), some (.inl (nI r)), some (.inl ((-1))), some (.inl (nI 0)), some (.inl (nI 0)), none, none] [] M
        refine fm_iload (pq := 34) hX d_R_apart_32 rfl rfl ?_
        refine fm_z_eq (tgt := 91) (pq := 37) hX d_R_apart_34 rfl rfl (by omega) (fun h34 => ?_) (fun h34 => ?_)
        · show fm_G SR Y_R_apart X M (fm_xb (∃ k, fa_ap P m r k) M) 91 [some (.inr 0), some (.inl (nI m)), some (.inl (nI r)), some (.inl ((-1))), some (.inl (nI 0)), some (.inl (nI 0)), none, none] [] M
          refine fm_iload (pq := 93) hX d_R_apart_91 rfl rfl ?_
          refine fm_zret hX rfl (by decide) d_R_apart_93 ?_
          exact fm_xb0 (fun ⟨k, z⟩ => hno ⟨z.1, k, z.2.1⟩) (fr12_rf M)
        · exact absurd h34 (by decide)
    · exact absurd h8 (by decide)
abbrev Y_R_pair : fm_Y := ("EscapeMillModel", b_R_pair, 12, (some .boolean), 5)
set_option maxRecDepth 100000 in
set_option maxHeartbeats 4000000 in
theorem k_R_pair {P : pr_T} {m : Nat} (hm : m < 5) (M : fm_M) (hP : rP M P) (hw : pr_wf P) {i j : Nat} (hij : i < j) (hj : j < P.1 m) : fm_ct SR y_R_pair b_R_pair 12 (some .boolean) 5 [.inr 0, .inl (nI m), .inl (nI i), .inl (nI j)] M (fm_xb (fa_pr P m (rEs P M m) i j) M) := by
  refine fm_of (ls := [some (.inr 0), some (.inl (nI m)), some (.inl (nI i)), some (.inl (nI j)), none, none, none, none, none, none, none, none]) (by decide) wsA_good (Nat.le_of_ble_eq_true rfl) rfl (fun X hX => ?_)
  obtain ⟨wl, wi, wI⟩ := hw m hm
  obtain ⟨w1, w2, -⟩ := wI i (by omega)
  obtain ⟨u1, u2, -⟩ := wI j hj
  have L213 : (P.2.2 m i).1 = 10 → (P.2.2 m j).1 = 11 → (P.2.2 m i).2.1 = (P.2.2 m j).2.1 → ∀ q, q ≤ P.1 m → ∀ (b : Bool) (M1 : fm_M), fr12 M M1 → (b = true ↔ ((fa_pb P m (rEs P M m) i ∧ ∀ p, i < p → p < j → ¬ fa_in (P.2.2 m p)) ∧ ∀ p, p < q → ¬ (((P.2.2 m p).1 = 14 ∨ (P.2.2 m p).1 = 15) ∧ nI i < (P.2.2 m p).2.2.2.2 ∧ (P.2.2 m p).2.2.2.2 ≤ nI j))) → fm_G SR Y_R_pair X M (fm_xb (fa_pr P m (rEs P M m) i j) M) 213 [some (.inr 0), some (.inl (nI m)), some (.inl (nI i)), some (.inl (nI j)), some (.inl (nI (24 * m + i))), some (.inl (nI (24 * m + j))), some (.inl (nI ((P.2.2 m i).2.1))), none, some (.inl (bI b)), some (.inl (nI q)), none, none] [] M1 := by
    intro o1 o2 o3
    refine fm_ind (P.1 m) (fun q hle ih => ?_)
    intro b M1 hf hb
    have hP1 := fr12_P hf hP
    refine fm_iload (pq := 215) hX d_R_pair_213 rfl rfl ?_
    refine fm_aload_n (pq := 216) hX d_R_pair_215 rfl rfl rfl ?_
    refine fm_getr (pq := 219) (q := 2) hX fR_13 rfl rfl d_R_pair_216 rfl ?_
    refine fm_iload_n (pq := 220) hX d_R_pair_219 rfl rfl rfl ?_
    refine fm_iald (pq := 221) (v := nI (P.1 m)) hX rfl rfl rfl (by omega) (by decide) (hP1 m (by omega)).1 d_R_pair_220 rfl ?_
    refine fm_n_ge (tgt := 296) (pq := 224) hX d_R_pair_221 rfl rfl (by omega) (by omega) (fun h221 => ?_) (fun h221 => ?_)
    · show fm_G SR Y_R_pair X M (fm_xb (fa_pr P m (rEs P M m) i j) M) 296 [some (.inr 0), some (.inl (nI m)), some (.inl (nI i)), some (.inl (nI j)), some (.inl (nI (24 * m + i))), some (.inl (nI (24 * m + j))), some (.inl (nI ((P.2.2 m i).2.1))), none, some (.inl (bI b)), some (.inl (nI q)), none, none] [] M1
      refine fm_iload (pq := 298) hX d_R_pair_296 rfl rfl ?_
      refine fm_zret hX rfl (fm_nb b) d_R_pair_298 ?_
      exact fm_xbb (by
        rw [hb, show q = P.1 m by omega]
        constructor
        · rintro ⟨⟨z1, z2⟩, z3⟩
          exact ⟨hij, hj, o1, o2, o3, z1, z2, fun p hp y w => z3 p hp ⟨y, w⟩⟩
        · rintro ⟨_, _, _, _, _, z1, z2, z3⟩
          exact ⟨⟨z1, z2⟩, fun p hp y => z3 p hp y.1 y.2⟩) hf
    · show fm_G SR Y_R_pair X M (fm_xb (fa_pr P m (rEs P M m) i j) M) 224 [some (.inr 0), some (.inl (nI m)), some (.inl (nI i)), some (.inl (nI j)), some (.inl (nI (24 * m + i))), some (.inl (nI (24 * m + j))), some (.inl (nI ((P.2.2 m i).2.1))), none, some (.inl (bI b)), some (.inl (nI q)), none, none] [] M1
      have v1 := (wI q (by omega)).1
      refine fm_aload_n (pq := 225) hX d_R_pair_224 rfl rfl rfl ?_
      refine fm_getr (pq := 228) (q := 3) hX fR_16 rfl rfl d_R_pair_225 rfl ?_
      refine fm_bipush (pq := 230) (v := nI 24) hX d_R_pair_228 (by decide) rfl ?_
      refine fm_iload_n (pq := 231) hX d_R_pair_230 rfl rfl rfl ?_
      refine fm_imul (pq := 232) (v := nI (24 * m)) hX d_R_pair_231 (pk_mul _ _) rfl ?_
      refine fm_iload (pq := 234) hX d_R_pair_232 rfl rfl ?_
      refine fm_iadd (pq := 235) (v := nI (24 * m + q)) hX d_R_pair_234 (nI_add _ _) rfl ?_
      refine fm_iald (pq := 236) (v := nI ((P.2.2 m q).1)) hX rfl rfl rfl (by omega) (by decide) ((hP1 m (by omega)).2.2 q (by omega)).1 d_R_pair_235 rfl ?_
      refine fm_istore (pq := 238) (ls1 := [some (.inr 0), some (.inl (nI m)), some (.inl (nI i)), some (.inl (nI j)), some (.inl (nI (24 * m + i))), some (.inl (nI (24 * m + j))), some (.inl (nI ((P.2.2 m i).2.1))), none, some (.inl (bI b)), some (.inl (nI q)), some (.inl (nI ((P.2.2 m q).1))), none]) hX d_R_pair_236 (by decide) rfl rfl ?_
      refine fm_aload_n (pq := 239) hX d_R_pair_238 rfl rfl rfl ?_
      refine fm_getr (pq := 242) (q := 7) hX fR_28 rfl rfl d_R_pair_239 rfl ?_
      refine fm_bipush (pq := 244) (v := nI 24) hX d_R_pair_242 (by decide) rfl ?_
      refine fm_iload_n (pq := 245) hX d_R_pair_244 rfl rfl rfl ?_
      refine fm_imul (pq := 246) (v := nI (24 * m)) hX d_R_pair_245 (pk_mul _ _) rfl ?_
      refine fm_iload (pq := 248) hX d_R_pair_246 rfl rfl ?_
      refine fm_iadd (pq := 249) (v := nI (24 * m + q)) hX d_R_pair_248 (nI_add _ _) rfl ?_
      refine fm_iald (pq := 250) (v := (P.2.2 m q).2.2.2.2) hX rfl rfl rfl (by omega) (by decide) ((hP1 m (by omega)).2.2 q (by omega)).2.2.2.2 d_R_pair_249 rfl ?_
      refine fm_istore (pq := 252) (ls1 := [some (.inr 0), some (.inl (nI m)), some (.inl (nI i)), some (.inl (nI j)), some (.inl (nI (24 * m + i))), some (.inl (nI (24 * m + j))), some (.inl (nI ((P.2.2 m i).2.1))), none, some (.inl (bI b)), some (.inl (nI q)), some (.inl (nI ((P.2.2 m q).1))), some (.inl ((P.2.2 m q).2.2.2.2))]) hX d_R_pair_250 (by decide) rfl rfl ?_
      have L288 : ∀ b1 : Bool, (b1 = true ↔ (b = true ∧ ¬ ((((P.2.2 m q).1 = 14 ∨ (P.2.2 m q).1 = 15) ∧ nI i < (P.2.2 m q).2.2.2.2 ∧ (P.2.2 m q).2.2.2.2 ≤ nI j)))) → fm_G SR Y_R_pair X M (fm_xb (fa_pr P m (rEs P M m) i j) M) 288 [some (.inr 0), some (.inl (nI m)), some (.inl (nI i)), some (.inl (nI j)), some (.inl (nI (24 * m + i))), some (.inl (nI (24 * m + j))), some (.inl (nI ((P.2.2 m i).2.1))), none, some (.inl (bI b)), some (.inl (nI q)), some (.inl (nI ((P.2.2 m q).1))), some (.inl ((P.2.2 m q).2.2.2.2))] [.inl (bI b1)] M1 := by
        intro b288 hb288
        refine fm_istore (pq := 290) (ls1 := [some (.inr 0), some (.inl (nI m)), some (.inl (nI i)), some (.inl (nI j)), some (.inl (nI (24 * m + i))), some (.inl (nI (24 * m + j))), some (.inl (nI ((P.2.2 m i).2.1))), none, some (.inl (bI b288)), some (.inl (nI q)), some (.inl (nI ((P.2.2 m q).1))), some (.inl ((P.2.2 m q).2.2.2.2))]) hX d_R_pair_288 (by decide) rfl rfl ?_
        refine fm_iinc (pq := 293) (v := nI (q + 1)) (ls1 := [some (.inr 0), some (.inl (nI m)), some (.inl (nI i)), some (.inl (nI j)), some (.inl (nI (24 * m + i))), some (.inl (nI (24 * m + j))), some (.inl (nI ((P.2.2 m i).2.1))), none, some (.inl (bI b288)), some (.inl (nI (q + 1))), some (.inl (nI ((P.2.2 m q).1))), some (.inl ((P.2.2 m q).2.2.2.2))]) hX d_R_pair_290 rfl (nI_add _ _) (by decide) rfl rfl ?_
        refine fm_goto (tgt := 213) hX d_R_pair_293 rfl ?_
        refine fm_drop 10 (ls1 := [some (.inr 0), some (.inl (nI m)), some (.inl (nI i)), some (.inl (nI j)), some (.inl (nI (24 * m + i))), some (.inl (nI (24 * m + j))), some (.inl (nI ((P.2.2 m i).2.1))), none, some (.inl (bI b288)), some (.inl (nI (q + 1))), none, some (.inl ((P.2.2 m q).2.2.2.2))]) rfl ?_
        refine fm_drop 11 (ls1 := [some (.inr 0), some (.inl (nI m)), some (.inl (nI i)), some (.inl (nI j)), some (.inl (nI (24 * m + i))), some (.inl (nI (24 * m + j))), some (.inl (nI ((P.2.2 m i).2.1))), none, some (.inl (bI b288)), some (.inl (nI (q + 1))), none, none]) rfl ?_
        exact ih (by omega) b288 M1 hf (by
          rw [hb288, hb]
          constructor
          · rintro ⟨z1, z2⟩
            exact ⟨z1.1, lt_s z1.2 z2⟩
          · rintro ⟨z1, z2⟩
            exact ⟨⟨z1, fun p hp => z2 p (by omega)⟩, z2 q (by omega)⟩)
      refine fm_iload (pq := 254) hX d_R_pair_252 rfl rfl ?_
      refine fm_b1_eq (tgt := 287) (pq := 257) hX d_R_pair_254 rfl rfl (fun h254 => ?_) (fun h254 => ?_)
      · show fm_G SR Y_R_pair X M (fm_xb (fa_pr P m (rEs P M m) i j) M) 287 [some (.inr 0), some (.inl (nI m)), some (.inl (nI i)), some (.inl (nI j)), some (.inl (nI (24 * m + i))), some (.inl (nI (24 * m + j))), some (.inl (nI ((P.2.2 m i).2.1))), none, some (.inl (bI b)), some (.inl (nI q)), some (.inl (nI ((P.2.2 m q).1))), some (.inl ((P.2.2 m q).2.2.2.2))] [] M1
        refine fm_iconst (pq := 288) (v := nI 0) hX d_R_pair_287 (by decide) rfl ?_
        first
        | exact L288 false ⟨fun z => absurd z (by decide), fun z => absurd z.1 (by rw [h254]; decide)⟩
        | exact L288 true ⟨fun _ => ⟨h254, fun z => absurd z.1 (by omega)⟩, fun _ => rfl⟩
        | exact L288 true ⟨fun _ => ⟨h254, fun z => Int32.not_lt.mpr h274 z.2.1⟩, fun _ => rfl⟩
        | exact L288 true ⟨fun _ => ⟨h254, fun z => h280 z.2.2⟩, fun _ => rfl⟩
        | exact L288 false ⟨fun z => absurd z (by decide), fun z => absurd ⟨by omega, Int32.not_le.mp h274, h280⟩ z.2⟩
      · show fm_G SR Y_R_pair X M (fm_xb (fa_pr P m (rEs P M m) i j) M) 257 [some (.inr 0), some (.inl (nI m)), some (.inl (nI i)), some (.inl (nI j)), some (.inl (nI (24 * m + i))), some (.inl (nI (24 * m + j))), some (.inl (nI ((P.2.2 m i).2.1))), none, some (.inl (bI b)), some (.inl (nI q)), some (.inl (nI ((P.2.2 m q).1))), some (.inl ((P.2.2 m q).2.2.2.2))] [] M1
        refine fm_iload (pq := 259) hX d_R_pair_257 rfl rfl ?_
        refine fm_bipush (pq := 261) (v := nI 14) hX d_R_pair_259 (by decide) rfl ?_
        refine fm_n_eq (tgt := 271) (pq := 264) hX d_R_pair_261 rfl rfl (by omega) (by omega) (fun h261 => ?_) (fun h261 => ?_)
        · show fm_G SR Y_R_pair X M (fm_xb (fa_pr P m (rEs P M m) i j) M) 271 [some (.inr 0), some (.inl (nI m)), some (.inl (nI i)), some (.inl (nI j)), some (.inl (nI (24 * m + i))), some (.inl (nI (24 * m + j))), some (.inl (nI ((P.2.2 m i).2.1))), none, some (.inl (bI b)), some (.inl (nI q)), some (.inl (nI ((P.2.2 m q).1))), some (.inl ((P.2.2 m q).2.2.2.2))] [] M1
          refine fm_iload (pq := 273) hX d_R_pair_271 rfl rfl ?_
          refine fm_iload_n (pq := 274) hX d_R_pair_273 rfl rfl rfl ?_
          refine fm_icmp_le (tgt := 283) (pq := 277) hX d_R_pair_274 rfl rfl (fun h274 => ?_) (fun h274 => ?_)
          · show fm_G SR Y_R_pair X M (fm_xb (fa_pr P m (rEs P M m) i j) M) 283 [some (.inr 0), some (.inl (nI m)), some (.inl (nI i)), some (.inl (nI j)), some (.inl (nI (24 * m + i))), some (.inl (nI (24 * m + j))), some (.inl (nI ((P.2.2 m i).2.1))), none, some (.inl (bI b)), some (.inl (nI q)), some (.inl (nI ((P.2.2 m q).1))), some (.inl ((P.2.2 m q).2.2.2.2))] [] M1
            refine fm_iconst (pq := 284) (v := nI 1) hX d_R_pair_283 (by decide) rfl ?_
            refine fm_goto (tgt := 288) hX d_R_pair_284 rfl ?_
            first
            | exact L288 false ⟨fun z => absurd z (by decide), fun z => absurd z.1 (by rw [h254]; decide)⟩
            | exact L288 true ⟨fun _ => ⟨h254, fun z => absurd z.1 (by omega)⟩, fun _ => rfl⟩
            | exact L288 true ⟨fun _ => ⟨h254, fun z => Int32.not_lt.mpr h274 z.2.1⟩, fun _ => rfl⟩
            | exact L288 true ⟨fun _ => ⟨h254, fun z => h280 z.2.2⟩, fun _ => rfl⟩
            | exact L288 false ⟨fun z => absurd z (by decide), fun z => absurd ⟨by omega, Int32.not_le.mp h274, h280⟩ z.2⟩
          · show fm_G SR Y_R_pair X M (fm_xb (fa_pr P m (rEs P M m) i j) M) 277 [some (.inr 0), some (.inl (nI m)), some (.inl (nI i)), some (.inl (nI j)), some (.inl (nI (24 * m + i))), some (.inl (nI (24 * m + j))), some (.inl (nI ((P.2.2 m i).2.1))), none, some (.inl (bI b)), some (.inl (nI q)), some (.inl (nI ((P.2.2 m q).1))), some (.inl ((P.2.2 m q).2.2.2.2))] [] M1
            refine fm_iload (pq := 279) hX d_R_pair_277 rfl rfl ?_
            refine fm_iload_n (pq := 280) hX d_R_pair_279 rfl rfl rfl ?_
            refine fm_icmp_le (tgt := 287) (pq := 283) hX d_R_pair_280 rfl rfl (fun h280 => ?_) (fun h280 => ?_)
            · show fm_G SR Y_R_pair X M (fm_xb (fa_pr P m (rEs P M m) i j) M) 287 [some (.inr 0), some (.inl (nI m)), some (.inl (nI i)), some (.inl (nI j)), some (.inl (nI (24 * m + i))), some (.inl (nI (24 * m + j))), some (.inl (nI ((P.2.2 m i).2.1))), none, some (.inl (bI b)), some (.inl (nI q)), some (.inl (nI ((P.2.2 m q).1))), some (.inl ((P.2.2 m q).2.2.2.2))] [] M1
              refine fm_iconst (pq := 288) (v := nI 0) hX d_R_pair_287 (by decide) rfl ?_
              first
              | exact L288 false ⟨fun z => absurd z (by decide), fun z => absurd z.1 (by rw [h254]; decide)⟩
              | exact L288 true ⟨fun _ => ⟨h254, fun z => absurd z.1 (by omega)⟩, fun _ => rfl⟩
              | exact L288 true ⟨fun _ => ⟨h254, fun z => Int32.not_lt.mpr h274 z.2.1⟩, fun _ => rfl⟩
              | exact L288 true ⟨fun _ => ⟨h254, fun z => h280 z.2.2⟩, fun _ => rfl⟩
              | exact L288 false ⟨fun z => absurd z (by decide), fun z => absurd ⟨by omega, Int32.not_le.mp h274, h280⟩ z.2⟩
            · show fm_G SR Y_R_pair X M (fm_xb (fa_pr P m (rEs P M m) i j) M) 283 [some (.inr 0), some (.inl (nI m)), some (.inl (nI i)), some (.inl (nI j)), some (.inl (nI (24 * m + i))), some (.inl (nI (24 * m + j))), some (.inl (nI ((P.2.2 m i).2.1))), none, some (.inl (bI b)), some (.inl (nI q)), some (.inl (nI ((P.2.2 m q).1))), some (.inl ((P.2.2 m q).2.2.2.2))] [] M1
              refine fm_iconst (pq := 284) (v := nI 1) hX d_R_pair_283 (by decide) rfl ?_
              refine fm_goto (tgt := 288) hX d_R_pair_284 rfl ?_
              first
              | exact L288 false ⟨fun z => absurd z (by decide), fun z => absurd z.1 (by rw [h254]; decide)⟩
              | exact L288 true ⟨fun _ => ⟨h254, fun z => absurd z.1 (by omega)⟩, fun _ => rfl⟩
              | exact L288 true ⟨fun _ => ⟨h254, fun z => Int32.not_lt.mpr h274 z.2.1⟩, fun _ => rfl⟩
              | exact L288 true ⟨fun _ => ⟨h254, fun z => h280 z.2.2⟩, fun _ => rfl⟩
              | exact L288 false ⟨fun z => absurd z (by decide), fun z => absurd ⟨by omega, Int32.not_le.mp h274, h280⟩ z.2⟩
        · show fm_G SR Y_R_pair X M (fm_xb (fa_pr P m (rEs P M m) i j) M) 264 [some (.inr 0), some (.inl (nI m)), some (.inl (nI i)), some (.inl (nI j)), some (.inl (nI (24 * m + i))), some (.inl (nI (24 * m + j))), some (.inl (nI ((P.2.2 m i).2.1))), none, some (.inl (bI b)), some (.inl (nI q)), some (.inl (nI ((P.2.2 m q).1))), some (.inl ((P.2.2 m q).2.2.2.2))] [] M1
          refine fm_iload (pq := 266) hX d_R_pair_264 rfl rfl ?_
          refine fm_bipush (pq := 268) (v := nI 15) hX d_R_pair_266 (by decide) rfl ?_
          refine fm_n_ne (tgt := 283) (pq := 271) hX d_R_pair_268 rfl rfl (by omega) (by omega) (fun h268 => ?_) (fun h268 => ?_)
          · show fm_G SR Y_R_pair X M (fm_xb (fa_pr P m (rEs P M m) i j) M) 283 [some (.inr 0), some (.inl (nI m)), some (.inl (nI i)), some (.inl (nI j)), some (.inl (nI (24 * m + i))), some (.inl (nI (24 * m + j))), some (.inl (nI ((P.2.2 m i).2.1))), none, some (.inl (bI b)), some (.inl (nI q)), some (.inl (nI ((P.2.2 m q).1))), some (.inl ((P.2.2 m q).2.2.2.2))] [] M1
            refine fm_iconst (pq := 284) (v := nI 1) hX d_R_pair_283 (by decide) rfl ?_
            refine fm_goto (tgt := 288) hX d_R_pair_284 rfl ?_
            first
            | exact L288 false ⟨fun z => absurd z (by decide), fun z => absurd z.1 (by rw [h254]; decide)⟩
            | exact L288 true ⟨fun _ => ⟨h254, fun z => absurd z.1 (by omega)⟩, fun _ => rfl⟩
            | exact L288 true ⟨fun _ => ⟨h254, fun z => Int32.not_lt.mpr h274 z.2.1⟩, fun _ => rfl⟩
            | exact L288 true ⟨fun _ => ⟨h254, fun z => h280 z.2.2⟩, fun _ => rfl⟩
            | exact L288 false ⟨fun z => absurd z (by decide), fun z => absurd ⟨by omega, Int32.not_le.mp h274, h280⟩ z.2⟩
          · show fm_G SR Y_R_pair X M (fm_xb (fa_pr P m (rEs P M m) i j) M) 271 [some (.inr 0), some (.inl (nI m)), some (.inl (nI i)), some (.inl (nI j)), some (.inl (nI (24 * m + i))), some (.inl (nI (24 * m + j))), some (.inl (nI ((P.2.2 m i).2.1))), none, some (.inl (bI b)), some (.inl (nI q)), some (.inl (nI ((P.2.2 m q).1))), some (.inl ((P.2.2 m q).2.2.2.2))] [] M1
            refine fm_iload (pq := 273) hX d_R_pair_271 rfl rfl ?_
            refine fm_iload_n (pq := 274) hX d_R_pair_273 rfl rfl rfl ?_
            refine fm_icmp_le (tgt := 283) (pq := 277) hX d_R_pair_274 rfl rfl (fun h274 => ?_) (fun h274 => ?_)
            · show fm_G SR Y_R_pair X M (fm_xb (fa_pr P m (rEs P M m) i j) M) 283 [some (.inr 0), some (.inl (nI m)), some (.inl (nI i)), some (.inl (nI j)), some (.inl (nI (24 * m + i))), some (.inl (nI (24 * m + j))), some (.inl (nI ((P.2.2 m i).2.1))), none, some (.inl (bI b)), some (.inl (nI q)), some (.inl (nI ((P.2.2 m q).1))), some (.inl ((P.2.2 m q).2.2.2.2))] [] M1
              refine fm_iconst (pq := 284) (v := nI 1) hX d_R_pair_283 (by decide) rfl ?_
              refine fm_goto (tgt := 288) hX d_R_pair_284 rfl ?_
              first
              | exact L288 false ⟨fun z => absurd z (by decide), fun z => absurd z.1 (by rw [h254]; decide)⟩
              | exact L288 true ⟨fun _ => ⟨h254, fun z => absurd z.1 (by omega)⟩, fun _ => rfl⟩
              | exact L288 true ⟨fun _ => ⟨h254, fun z => Int32.not_lt.mpr h274 z.2.1⟩, fun _ => rfl⟩
              | exact L288 true ⟨fun _ => ⟨h254, fun z => h280 z.2.2⟩, fun _ => rfl⟩
              | exact L288 false ⟨fun z => absurd z (by decide), fun z => absurd ⟨by omega, Int32.not_le.mp h274, h280⟩ z.2⟩
            · show fm_G SR Y_R_pair X M (fm_xb (fa_pr P m (rEs P M m) i j) M) 277 [some (.inr 0), some (.inl (nI m)), some (.inl (nI i)), some (.inl (nI j)), some (.inl (nI (24 * m + i))), some (.inl (nI (24 * m + j))), some (.inl (nI ((P.2.2 m i).2.1))), none, some (.inl (bI b)), some (.inl (nI q)), some (.inl (nI ((P.2.2 m q).1))), some (.inl ((P.2.2 m q).2.2.2.2))] [] M1
              refine fm_iload (pq := 279) hX d_R_pair_277 rfl rfl ?_
              refine fm_iload_n (pq := 280) hX d_R_pair_279 rfl rfl rfl ?_
              refine fm_icmp_le (tgt := 287) (pq := 283) hX d_R_pair_280 rfl rfl (fun h280 => ?_) (fun h280 => ?_)
              · show fm_G SR Y_R_pair X M (fm_xb (fa_pr P m (rEs P M m) i j) M) 287 [some (.inr 0), some (.inl (nI m)), some (.inl (nI i)), some (.inl (nI j)), some (.inl (nI (24 * m + i))), some (.inl (nI (24 * m + j))), some (.inl (nI ((P.2.2 m i).2.1))), none, some (.inl (bI b)), some (.inl (nI q)), some (.inl (nI ((P.2.2 m q).1))), some (.inl ((P.2.2 m q).2.2.2.2))] [] M1
                refine fm_iconst (pq := 288) (v := nI 0) hX d_R_pair_287 (by decide) rfl ?_
                first
                | exact L288 false ⟨fun z => absurd z (by decide), fun z => absurd z.1 (by rw [h254]; decide)⟩
                | exact L288 true ⟨fun _ => ⟨h254, fun z => absurd z.1 (by omega)⟩, fun _ => rfl⟩
                | exact L288 true ⟨fun _ => ⟨h254, fun z => Int32.not_lt.mpr h274 z.2.1⟩, fun _ => rfl⟩
                | exact L288 true ⟨fun _ => ⟨h254, fun z => h280 z.2.2⟩, fun _ => rfl⟩
                | exact L288 false ⟨fun z => absurd z (by decide), fun z => absurd ⟨by omega, Int32.not_le.mp h274, h280⟩ z.2⟩
              · show fm_G SR Y_R_pair X M (fm_xb (fa_pr P m (rEs P M m) i j) M) 283 [some (.inr 0), some (.inl (nI m)), some (.inl (nI i)), some (.inl (nI j)), some (.inl (nI (24 * m + i))), some (.inl (nI (24 * m + j))), some (.inl (nI ((P.2.2 m i).2.1))), none, some (.inl (bI b)), some (.inl (nI q)), some (.inl (nI ((P.2.2 m q).1))), some (.inl ((P.2.2 m q).2.2.2.2))] [] M1
                refine fm_iconst (pq := 284) (v := nI 1) hX d_R_pair_283 (by decide) rfl ?_
                refine fm_goto (tgt := 288) hX d_R_pair_284 rfl ?_
                first
                | exact L288 false ⟨fun z => absurd z (by decide), fun z => absurd z.1 (by rw [h254]; decide)⟩
                | exact L288 true ⟨fun _ => ⟨h254, fun z => absurd z.1 (by omega)⟩, fun _ => rfl⟩
                | exact L288 true ⟨fun _ => ⟨h254, fun z => Int32.not_lt.mpr h274 z.2.1⟩, fun _ => rfl⟩
                | exact L288 true ⟨fun _ => ⟨h254, fun z => h280 z.2.2⟩, fun _ => rfl⟩
                | exact L288 false ⟨fun z => absurd z (by decide), fun z => absurd ⟨by omega, Int32.not_le.mp h274, h280⟩ z.2⟩
  have L125 : (P.2.2 m i).1 = 10 → (P.2.2 m j).1 = 11 → (P.2.2 m i).2.1 = (P.2.2 m j).2.1 → ∀ q, q ≤ j → i < q → ∀ (b : Bool) (M1 : fm_M), fr12 M M1 → (b = true ↔ (fa_pb P m (rEs P M m) i ∧ ∀ p, i < p → p < q → ¬ fa_in (P.2.2 m p))) → fm_G SR Y_R_pair X M (fm_xb (fa_pr P m (rEs P M m) i j) M) 125 [some (.inr 0), some (.inl (nI m)), some (.inl (nI i)), some (.inl (nI j)), some (.inl (nI (24 * m + i))), some (.inl (nI (24 * m + j))), some (.inl (nI ((P.2.2 m i).2.1))), none, some (.inl (bI b)), some (.inl (nI q)), none, none] [] M1 := by
    intro o1 o2 o3
    refine fm_ind j (fun q hle ih => ?_)
    intro hiq b M1 hf hb
    have hP1 := fr12_P hf hP
    refine fm_iload (pq := 127) hX d_R_pair_125 rfl rfl ?_
    refine fm_iload_n (pq := 128) hX d_R_pair_127 rfl rfl rfl ?_
    refine fm_n_ge (tgt := 210) (pq := 131) hX d_R_pair_128 rfl rfl (by omega) (by omega) (fun h128 => ?_) (fun h128 => ?_)
    · show fm_G SR Y_R_pair X M (fm_xb (fa_pr P m (rEs P M m) i j) M) 210 [some (.inr 0), some (.inl (nI m)), some (.inl (nI i)), some (.inl (nI j)), some (.inl (nI (24 * m + i))), some (.inl (nI (24 * m + j))), some (.inl (nI ((P.2.2 m i).2.1))), none, some (.inl (bI b)), some (.inl (nI q)), none, none] [] M1
      refine fm_iconst (pq := 211) (v := nI 0) hX d_R_pair_210 (by decide) rfl ?_
      refine fm_istore (pq := 213) (ls1 := [some (.inr 0), some (.inl (nI m)), some (.inl (nI i)), some (.inl (nI j)), some (.inl (nI (24 * m + i))), some (.inl (nI (24 * m + j))), some (.inl (nI ((P.2.2 m i).2.1))), none, some (.inl (bI b)), some (.inl (nI 0)), none, none]) hX d_R_pair_211 (by decide) rfl rfl ?_
      exact L213 o1 o2 o3 0 (by omega) b M1 hf (by rw [hb, show q = j by omega]; exact ⟨fun z => ⟨z, fun p hp => absurd hp (by omega)⟩, fun z => z.1⟩)
    · show fm_G SR Y_R_pair X M (fm_xb (fa_pr P m (rEs P M m) i j) M) 131 [some (.inr 0), some (.inl (nI m)), some (.inl (nI i)), some (.inl (nI j)), some (.inl (nI (24 * m + i))), some (.inl (nI (24 * m + j))), some (.inl (nI ((P.2.2 m i).2.1))), none, some (.inl (bI b)), some (.inl (nI q)), none, none] [] M1
      have v1 := (wI q (by omega)).1
      refine fm_aload_n (pq := 132) hX d_R_pair_131 rfl rfl rfl ?_
      refine fm_getr (pq := 135) (q := 3) hX fR_16 rfl rfl d_R_pair_132 rfl ?_
      refine fm_bipush (pq := 137) (v := nI 24) hX d_R_pair_135 (by decide) rfl ?_
      refine fm_iload_n (pq := 138) hX d_R_pair_137 rfl rfl rfl ?_
      refine fm_imul (pq := 139) (v := nI (24 * m)) hX d_R_pair_138 (pk_mul _ _) rfl ?_
      refine fm_iload (pq := 141) hX d_R_pair_139 rfl rfl ?_
      refine fm_iadd (pq := 142) (v := nI (24 * m + q)) hX d_R_pair_141 (nI_add _ _) rfl ?_
      refine fm_iald (pq := 143) (v := nI ((P.2.2 m q).1)) hX rfl rfl rfl (by omega) (by decide) ((hP1 m (by omega)).2.2 q (by omega)).1 d_R_pair_142 rfl ?_
      refine fm_istore (pq := 145) (ls1 := [some (.inr 0), some (.inl (nI m)), some (.inl (nI i)), some (.inl (nI j)), some (.inl (nI (24 * m + i))), some (.inl (nI (24 * m + j))), some (.inl (nI ((P.2.2 m i).2.1))), none, some (.inl (bI b)), some (.inl (nI q)), some (.inl (nI ((P.2.2 m q).1))), none]) hX d_R_pair_143 (by decide) rfl rfl ?_
      have L202 : ∀ b1 : Bool, (b1 = true ↔ (b = true ∧ ¬ fa_in (P.2.2 m q))) → fm_G SR Y_R_pair X M (fm_xb (fa_pr P m (rEs P M m) i j) M) 202 [some (.inr 0), some (.inl (nI m)), some (.inl (nI i)), some (.inl (nI j)), some (.inl (nI (24 * m + i))), some (.inl (nI (24 * m + j))), some (.inl (nI ((P.2.2 m i).2.1))), none, some (.inl (bI b)), some (.inl (nI q)), some (.inl (nI ((P.2.2 m q).1))), none] [.inl (bI b1)] M1 := by
        intro b202 hb202
        refine fm_istore (pq := 204) (ls1 := [some (.inr 0), some (.inl (nI m)), some (.inl (nI i)), some (.inl (nI j)), some (.inl (nI (24 * m + i))), some (.inl (nI (24 * m + j))), some (.inl (nI ((P.2.2 m i).2.1))), none, some (.inl (bI b202)), some (.inl (nI q)), some (.inl (nI ((P.2.2 m q).1))), none]) hX d_R_pair_202 (by decide) rfl rfl ?_
        refine fm_iinc (pq := 207) (v := nI (q + 1)) (ls1 := [some (.inr 0), some (.inl (nI m)), some (.inl (nI i)), some (.inl (nI j)), some (.inl (nI (24 * m + i))), some (.inl (nI (24 * m + j))), some (.inl (nI ((P.2.2 m i).2.1))), none, some (.inl (bI b202)), some (.inl (nI (q + 1))), some (.inl (nI ((P.2.2 m q).1))), none]) hX d_R_pair_204 rfl (nI_add _ _) (by decide) rfl rfl ?_
        refine fm_goto (tgt := 125) hX d_R_pair_207 rfl ?_
        refine fm_drop 10 (ls1 := [some (.inr 0), some (.inl (nI m)), some (.inl (nI i)), some (.inl (nI j)), some (.inl (nI (24 * m + i))), some (.inl (nI (24 * m + j))), some (.inl (nI ((P.2.2 m i).2.1))), none, some (.inl (bI b202)), some (.inl (nI (q + 1))), none, none]) rfl ?_
        exact ih (by omega) (by omega) b202 M1 hf (by
          rw [hb202, hb]
          constructor
          · rintro ⟨z1, z2⟩
            refine ⟨z1.1, fun p h1 h2 => ?_⟩
            by_cases e : p = q
            · rw [e]; exact z2
            · exact z1.2 p h1 (by omega)
          · rintro ⟨z1, z2⟩
            exact ⟨⟨z1, fun p h1 h2 => z2 p h1 (by omega)⟩, z2 q hiq (by omega)⟩)
      refine fm_iload (pq := 147) hX d_R_pair_145 rfl rfl ?_
      refine fm_b1_eq (tgt := 201) (pq := 150) hX d_R_pair_147 rfl rfl (fun h147 => ?_) (fun h147 => ?_)
      · show fm_G SR Y_R_pair X M (fm_xb (fa_pr P m (rEs P M m) i j) M) 201 [some (.inr 0), some (.inl (nI m)), some (.inl (nI i)), some (.inl (nI j)), some (.inl (nI (24 * m + i))), some (.inl (nI (24 * m + j))), some (.inl (nI ((P.2.2 m i).2.1))), none, some (.inl (bI b)), some (.inl (nI q)), some (.inl (nI ((P.2.2 m q).1))), none] [] M1
        refine fm_iconst (pq := 202) (v := nI 0) hX d_R_pair_201 (by decide) rfl ?_
        first
        | exact L202 true ⟨fun _ => ⟨h147, by omega⟩, fun _ => rfl⟩
        | exact L202 false ⟨fun z => absurd z (by decide), fun z => absurd z.1 (by rw [h147]; decide)⟩
        | exact L202 false ⟨fun z => absurd z (by decide), fun z => absurd z.2 (by omega)⟩
      · show fm_G SR Y_R_pair X M (fm_xb (fa_pr P m (rEs P M m) i j) M) 150 [some (.inr 0), some (.inl (nI m)), some (.inl (nI i)), some (.inl (nI j)), some (.inl (nI (24 * m + i))), some (.inl (nI (24 * m + j))), some (.inl (nI ((P.2.2 m i).2.1))), none, some (.inl (bI b)), some (.inl (nI q)), some (.inl (nI ((P.2.2 m q).1))), none] [] M1
        refine fm_iload (pq := 152) hX d_R_pair_150 rfl rfl ?_
        refine fm_z_eq (tgt := 201) (pq := 155) hX d_R_pair_152 rfl rfl (by omega) (fun h152 => ?_) (fun h152 => ?_)
        · show fm_G SR Y_R_pair X M (fm_xb (fa_pr P m (rEs P M m) i j) M) 201 [some (.inr 0), some (.inl (nI m)), some (.inl (nI i)), some (.inl (nI j)), some (.inl (nI (24 * m + i))), some (.inl (nI (24 * m + j))), some (.inl (nI ((P.2.2 m i).2.1))), none, some (.inl (bI b)), some (.inl (nI q)), some (.inl (nI ((P.2.2 m q).1))), none] [] M1
          refine fm_iconst (pq := 202) (v := nI 0) hX d_R_pair_201 (by decide) rfl ?_
          first
          | exact L202 true ⟨fun _ => ⟨h147, by omega⟩, fun _ => rfl⟩
          | exact L202 false ⟨fun z => absurd z (by decide), fun z => absurd z.1 (by rw [h147]; decide)⟩
          | exact L202 false ⟨fun z => absurd z (by decide), fun z => absurd z.2 (by omega)⟩
        · show fm_G SR Y_R_pair X M (fm_xb (fa_pr P m (rEs P M m) i j) M) 155 [some (.inr 0), some (.inl (nI m)), some (.inl (nI i)), some (.inl (nI j)), some (.inl (nI (24 * m + i))), some (.inl (nI (24 * m + j))), some (.inl (nI ((P.2.2 m i).2.1))), none, some (.inl (bI b)), some (.inl (nI q)), some (.inl (nI ((P.2.2 m q).1))), none] [] M1
          refine fm_iload (pq := 157) hX d_R_pair_155 rfl rfl ?_
          refine fm_bipush (pq := 159) (v := nI 10) hX d_R_pair_157 (by decide) rfl ?_
          refine fm_n_eq (tgt := 201) (pq := 162) hX d_R_pair_159 rfl rfl (by omega) (by omega) (fun h159 => ?_) (fun h159 => ?_)
          · show fm_G SR Y_R_pair X M (fm_xb (fa_pr P m (rEs P M m) i j) M) 201 [some (.inr 0), some (.inl (nI m)), some (.inl (nI i)), some (.inl (nI j)), some (.inl (nI (24 * m + i))), some (.inl (nI (24 * m + j))), some (.inl (nI ((P.2.2 m i).2.1))), none, some (.inl (bI b)), some (.inl (nI q)), some (.inl (nI ((P.2.2 m q).1))), none] [] M1
            refine fm_iconst (pq := 202) (v := nI 0) hX d_R_pair_201 (by decide) rfl ?_
            first
            | exact L202 true ⟨fun _ => ⟨h147, by omega⟩, fun _ => rfl⟩
            | exact L202 false ⟨fun z => absurd z (by decide), fun z => absurd z.1 (by rw [h147]; decide)⟩
            | exact L202 false ⟨fun z => absurd z (by decide), fun z => absurd z.2 (by omega)⟩
          · show fm_G SR Y_R_pair X M (fm_xb (fa_pr P m (rEs P M m) i j) M) 162 [some (.inr 0), some (.inl (nI m)), some (.inl (nI i)), some (.inl (nI j)), some (.inl (nI (24 * m + i))), some (.inl (nI (24 * m + j))), some (.inl (nI ((P.2.2 m i).2.1))), none, some (.inl (bI b)), some (.inl (nI q)), some (.inl (nI ((P.2.2 m q).1))), none] [] M1
            refine fm_iload (pq := 164) hX d_R_pair_162 rfl rfl ?_
            refine fm_bipush (pq := 166) (v := nI 11) hX d_R_pair_164 (by decide) rfl ?_
            refine fm_n_eq (tgt := 201) (pq := 169) hX d_R_pair_166 rfl rfl (by omega) (by omega) (fun h166 => ?_) (fun h166 => ?_)
            · show fm_G SR Y_R_pair X M (fm_xb (fa_pr P m (rEs P M m) i j) M) 201 [some (.inr 0), some (.inl (nI m)), some (.inl (nI i)), some (.inl (nI j)), some (.inl (nI (24 * m + i))), some (.inl (nI (24 * m + j))), some (.inl (nI ((P.2.2 m i).2.1))), none, some (.inl (bI b)), some (.inl (nI q)), some (.inl (nI ((P.2.2 m q).1))), none] [] M1
              refine fm_iconst (pq := 202) (v := nI 0) hX d_R_pair_201 (by decide) rfl ?_
              first
              | exact L202 true ⟨fun _ => ⟨h147, by omega⟩, fun _ => rfl⟩
              | exact L202 false ⟨fun z => absurd z (by decide), fun z => absurd z.1 (by rw [h147]; decide)⟩
              | exact L202 false ⟨fun z => absurd z (by decide), fun z => absurd z.2 (by omega)⟩
            · show fm_G SR Y_R_pair X M (fm_xb (fa_pr P m (rEs P M m) i j) M) 169 [some (.inr 0), some (.inl (nI m)), some (.inl (nI i)), some (.inl (nI j)), some (.inl (nI (24 * m + i))), some (.inl (nI (24 * m + j))), some (.inl (nI ((P.2.2 m i).2.1))), none, some (.inl (bI b)), some (.inl (nI q)), some (.inl (nI ((P.2.2 m q).1))), none] [] M1
              refine fm_iload (pq := 171) hX d_R_pair_169 rfl rfl ?_
              refine fm_bipush (pq := 173) (v := nI 14) hX d_R_pair_171 (by decide) rfl ?_
              refine fm_n_eq (tgt := 201) (pq := 176) hX d_R_pair_173 rfl rfl (by omega) (by omega) (fun h173 => ?_) (fun h173 => ?_)
              · show fm_G SR Y_R_pair X M (fm_xb (fa_pr P m (rEs P M m) i j) M) 201 [some (.inr 0), some (.inl (nI m)), some (.inl (nI i)), some (.inl (nI j)), some (.inl (nI (24 * m + i))), some (.inl (nI (24 * m + j))), some (.inl (nI ((P.2.2 m i).2.1))), none, some (.inl (bI b)), some (.inl (nI q)), some (.inl (nI ((P.2.2 m q).1))), none] [] M1
                refine fm_iconst (pq := 202) (v := nI 0) hX d_R_pair_201 (by decide) rfl ?_
                first
                | exact L202 true ⟨fun _ => ⟨h147, by omega⟩, fun _ => rfl⟩
                | exact L202 false ⟨fun z => absurd z (by decide), fun z => absurd z.1 (by rw [h147]; decide)⟩
                | exact L202 false ⟨fun z => absurd z (by decide), fun z => absurd z.2 (by omega)⟩
              · show fm_G SR Y_R_pair X M (fm_xb (fa_pr P m (rEs P M m) i j) M) 176 [some (.inr 0), some (.inl (nI m)), some (.inl (nI i)), some (.inl (nI j)), some (.inl (nI (24 * m + i))), some (.inl (nI (24 * m + j))), some (.inl (nI ((P.2.2 m i).2.1))), none, some (.inl (bI b)), some (.inl (nI q)), some (.inl (nI ((P.2.2 m q).1))), none] [] M1
                refine fm_iload (pq := 178) hX d_R_pair_176 rfl rfl ?_
                refine fm_bipush (pq := 180) (v := nI 15) hX d_R_pair_178 (by decide) rfl ?_
                refine fm_n_eq (tgt := 201) (pq := 183) hX d_R_pair_180 rfl rfl (by omega) (by omega) (fun h180 => ?_) (fun h180 => ?_)
                · show fm_G SR Y_R_pair X M (fm_xb (fa_pr P m (rEs P M m) i j) M) 201 [some (.inr 0), some (.inl (nI m)), some (.inl (nI i)), some (.inl (nI j)), some (.inl (nI (24 * m + i))), some (.inl (nI (24 * m + j))), some (.inl (nI ((P.2.2 m i).2.1))), none, some (.inl (bI b)), some (.inl (nI q)), some (.inl (nI ((P.2.2 m q).1))), none] [] M1
                  refine fm_iconst (pq := 202) (v := nI 0) hX d_R_pair_201 (by decide) rfl ?_
                  first
                  | exact L202 true ⟨fun _ => ⟨h147, by omega⟩, fun _ => rfl⟩
                  | exact L202 false ⟨fun z => absurd z (by decide), fun z => absurd z.1 (by rw [h147]; decide)⟩
                  | exact L202 false ⟨fun z => absurd z (by decide), fun z => absurd z.2 (by omega)⟩
                · show fm_G SR Y_R_pair X M (fm_xb (fa_pr P m (rEs P M m) i j) M) 183 [some (.inr 0), some (.inl (nI m)), some (.inl (nI i)), some (.inl (nI j)), some (.inl (nI (24 * m + i))), some (.inl (nI (24 * m + j))), some (.inl (nI ((P.2.2 m i).2.1))), none, some (.inl (bI b)), some (.inl (nI q)), some (.inl (nI ((P.2.2 m q).1))), none] [] M1
                  refine fm_iload (pq := 185) hX d_R_pair_183 rfl rfl ?_
                  refine fm_bipush (pq := 187) (v := nI 17) hX d_R_pair_185 (by decide) rfl ?_
                  refine fm_n_eq (tgt := 201) (pq := 190) hX d_R_pair_187 rfl rfl (by omega) (by omega) (fun h187 => ?_) (fun h187 => ?_)
                  · show fm_G SR Y_R_pair X M (fm_xb (fa_pr P m (rEs P M m) i j) M) 201 [some (.inr 0), some (.inl (nI m)), some (.inl (nI i)), some (.inl (nI j)), some (.inl (nI (24 * m + i))), some (.inl (nI (24 * m + j))), some (.inl (nI ((P.2.2 m i).2.1))), none, some (.inl (bI b)), some (.inl (nI q)), some (.inl (nI ((P.2.2 m q).1))), none] [] M1
                    refine fm_iconst (pq := 202) (v := nI 0) hX d_R_pair_201 (by decide) rfl ?_
                    first
                    | exact L202 true ⟨fun _ => ⟨h147, by omega⟩, fun _ => rfl⟩
                    | exact L202 false ⟨fun z => absurd z (by decide), fun z => absurd z.1 (by rw [h147]; decide)⟩
                    | exact L202 false ⟨fun z => absurd z (by decide), fun z => absurd z.2 (by omega)⟩
                  · show fm_G SR Y_R_pair X M (fm_xb (fa_pr P m (rEs P M m) i j) M) 190 [some (.inr 0), some (.inl (nI m)), some (.inl (nI i)), some (.inl (nI j)), some (.inl (nI (24 * m + i))), some (.inl (nI (24 * m + j))), some (.inl (nI ((P.2.2 m i).2.1))), none, some (.inl (bI b)), some (.inl (nI q)), some (.inl (nI ((P.2.2 m q).1))), none] [] M1
                    refine fm_iload (pq := 192) hX d_R_pair_190 rfl rfl ?_
                    refine fm_bipush (pq := 194) (v := nI 16) hX d_R_pair_192 (by decide) rfl ?_
                    refine fm_n_eq (tgt := 201) (pq := 197) hX d_R_pair_194 rfl rfl (by omega) (by omega) (fun h194 => ?_) (fun h194 => ?_)
                    · show fm_G SR Y_R_pair X M (fm_xb (fa_pr P m (rEs P M m) i j) M) 201 [some (.inr 0), some (.inl (nI m)), some (.inl (nI i)), some (.inl (nI j)), some (.inl (nI (24 * m + i))), some (.inl (nI (24 * m + j))), some (.inl (nI ((P.2.2 m i).2.1))), none, some (.inl (bI b)), some (.inl (nI q)), some (.inl (nI ((P.2.2 m q).1))), none] [] M1
                      refine fm_iconst (pq := 202) (v := nI 0) hX d_R_pair_201 (by decide) rfl ?_
                      first
                      | exact L202 true ⟨fun _ => ⟨h147, by omega⟩, fun _ => rfl⟩
                      | exact L202 false ⟨fun z => absurd z (by decide), fun z => absurd z.1 (by rw [h147]; decide)⟩
                      | exact L202 false ⟨fun z => absurd z (by decide), fun z => absurd z.2 (by omega)⟩
                    · show fm_G SR Y_R_pair X M (fm_xb (fa_pr P m (rEs P M m) i j) M) 197 [some (.inr 0), some (.inl (nI m)), some (.inl (nI i)), some (.inl (nI j)), some (.inl (nI (24 * m + i))), some (.inl (nI (24 * m + j))), some (.inl (nI ((P.2.2 m i).2.1))), none, some (.inl (bI b)), some (.inl (nI q)), some (.inl (nI ((P.2.2 m q).1))), none] [] M1
                      refine fm_iconst (pq := 198) (v := nI 1) hX d_R_pair_197 (by decide) rfl ?_
                      refine fm_goto (tgt := 202) hX d_R_pair_198 rfl ?_
                      first
                      | exact L202 true ⟨fun _ => ⟨h147, by omega⟩, fun _ => rfl⟩
                      | exact L202 false ⟨fun z => absurd z (by decide), fun z => absurd z.1 (by rw [h147]; decide)⟩
                      | exact L202 false ⟨fun z => absurd z (by decide), fun z => absurd z.2 (by omega)⟩
  show fm_G SR Y_R_pair X M (fm_xb (fa_pr P m (rEs P M m) i j) M) 0 [some (.inr 0), some (.inl (nI m)), some (.inl (nI i)), some (.inl (nI j)), none, none, none, none, none, none, none, none] [] M
  refine fm_bipush (pq := 2) (v := nI 24) hX d_R_pair_0 (by decide) rfl ?_
  refine fm_iload_n (pq := 3) hX d_R_pair_2 rfl rfl rfl ?_
  refine fm_imul (pq := 4) (v := nI (24 * m)) hX d_R_pair_3 (pk_mul _ _) rfl ?_
  refine fm_iload_n (pq := 5) hX d_R_pair_4 rfl rfl rfl ?_
  refine fm_iadd (pq := 6) (v := nI (24 * m + i)) hX d_R_pair_5 (nI_add _ _) rfl ?_
  refine fm_istore (pq := 8) (ls1 := [some (.inr 0), some (.inl (nI m)), some (.inl (nI i)), some (.inl (nI j)), some (.inl (nI (24 * m + i))), none, none, none, none, none, none, none]) hX d_R_pair_6 (by decide) rfl rfl ?_
  refine fm_bipush (pq := 10) (v := nI 24) hX d_R_pair_8 (by decide) rfl ?_
  refine fm_iload_n (pq := 11) hX d_R_pair_10 rfl rfl rfl ?_
  refine fm_imul (pq := 12) (v := nI (24 * m)) hX d_R_pair_11 (pk_mul _ _) rfl ?_
  refine fm_iload_n (pq := 13) hX d_R_pair_12 rfl rfl rfl ?_
  refine fm_iadd (pq := 14) (v := nI (24 * m + j)) hX d_R_pair_13 (nI_add _ _) rfl ?_
  refine fm_istore (pq := 16) (ls1 := [some (.inr 0), some (.inl (nI m)), some (.inl (nI i)), some (.inl (nI j)), some (.inl (nI (24 * m + i))), some (.inl (nI (24 * m + j))), none, none, none, none, none, none]) hX d_R_pair_14 (by decide) rfl rfl ?_
  refine fm_aload_n (pq := 17) hX d_R_pair_16 rfl rfl rfl ?_
  refine fm_getr (pq := 20) (q := 3) hX fR_16 rfl rfl d_R_pair_17 rfl ?_
  refine fm_iload (pq := 22) hX d_R_pair_20 rfl rfl ?_
  refine fm_iald (pq := 23) (v := nI ((P.2.2 m i).1)) hX rfl rfl rfl (by omega) (by decide) ((hP m (by omega)).2.2 i (by omega)).1 d_R_pair_22 rfl ?_
  refine fm_bipush (pq := 25) (v := nI 10) hX d_R_pair_23 (by decide) rfl ?_
  refine fm_n_ne (tgt := 57) (pq := 28) hX d_R_pair_25 rfl rfl (by omega) (by omega) (fun h25 => ?_) (fun h25 => ?_)
  · show fm_G SR Y_R_pair X M (fm_xb (fa_pr P m (rEs P M m) i j) M) 57 [some (.inr 0), some (.inl (nI m)), some (.inl (nI i)), some (.inl (nI j)), some (.inl (nI (24 * m + i))), some (.inl (nI (24 * m + j))), none, none, none, none, none, none] [] M
    refine fm_iconst (pq := 58) (v := nI 0) hX d_R_pair_57 (by decide) rfl ?_
    refine fm_zret hX rfl (by decide) d_R_pair_58 ?_
    first
    | exact fm_xb0 (fun z => h25 z.2.2.1) (fr12_rf M)
    | exact fm_xb0 (fun z => h37 z.2.2.2.1) (fr12_rf M)
    | exact fm_xb0 (fun z => h54 z.2.2.2.2.1) (fr12_rf M)
  · show fm_G SR Y_R_pair X M (fm_xb (fa_pr P m (rEs P M m) i j) M) 28 [some (.inr 0), some (.inl (nI m)), some (.inl (nI i)), some (.inl (nI j)), some (.inl (nI (24 * m + i))), some (.inl (nI (24 * m + j))), none, none, none, none, none, none] [] M
    refine fm_aload_n (pq := 29) hX d_R_pair_28 rfl rfl rfl ?_
    refine fm_getr (pq := 32) (q := 3) hX fR_16 rfl rfl d_R_pair_29 rfl ?_
    refine fm_iload (pq := 34) hX d_R_pair_32 rfl rfl ?_
    refine fm_iald (pq := 35) (v := nI ((P.2.2 m j).1)) hX rfl rfl rfl (by omega) (by decide) ((hP m (by omega)).2.2 j (by omega)).1 d_R_pair_34 rfl ?_
    refine fm_bipush (pq := 37) (v := nI 11) hX d_R_pair_35 (by decide) rfl ?_
    refine fm_n_ne (tgt := 57) (pq := 40) hX d_R_pair_37 rfl rfl (by omega) (by omega) (fun h37 => ?_) (fun h37 => ?_)
    · show fm_G SR Y_R_pair X M (fm_xb (fa_pr P m (rEs P M m) i j) M) 57 [some (.inr 0), some (.inl (nI m)), some (.inl (nI i)), some (.inl (nI j)), some (.inl (nI (24 * m + i))), some (.inl (nI (24 * m + j))), none, none, none, none, none, none] [] M
      refine fm_iconst (pq := 58) (v := nI 0) hX d_R_pair_57 (by decide) rfl ?_
      refine fm_zret hX rfl (by decide) d_R_pair_58 ?_
      first
      | exact fm_xb0 (fun z => h25 z.2.2.1) (fr12_rf M)
      | exact fm_xb0 (fun z => h37 z.2.2.2.1) (fr12_rf M)
      | exact fm_xb0 (fun z => h54 z.2.2.2.2.1) (fr12_rf M)
    · show fm_G SR Y_R_pair X M (fm_xb (fa_pr P m (rEs P M m) i j) M) 40 [some (.inr 0), some (.inl (nI m)), some (.inl (nI i)), some (.inl (nI j)), some (.inl (nI (24 * m + i))), some (.inl (nI (24 * m + j))), none, none, none, none, none, none] [] M
      refine fm_aload_n (pq := 41) hX d_R_pair_40 rfl rfl rfl ?_
      refine fm_getr (pq := 44) (q := 4) hX fR_19 rfl rfl d_R_pair_41 rfl ?_
      refine fm_iload (pq := 46) hX d_R_pair_44 rfl rfl ?_
      refine fm_iald (pq := 47) (v := nI ((P.2.2 m i).2.1)) hX rfl rfl rfl (by omega) (by decide) ((hP m (by omega)).2.2 i (by omega)).2.1 d_R_pair_46 rfl ?_
      refine fm_aload_n (pq := 48) hX d_R_pair_47 rfl rfl rfl ?_
      refine fm_getr (pq := 51) (q := 4) hX fR_19 rfl rfl d_R_pair_48 rfl ?_
      refine fm_iload (pq := 53) hX d_R_pair_51 rfl rfl ?_
      refine fm_iald (pq := 54) (v := nI ((P.2.2 m j).2.1)) hX rfl rfl rfl (by omega) (by decide) ((hP m (by omega)).2.2 j (by omega)).2.1 d_R_pair_53 rfl ?_
      refine fm_n_eq (tgt := 59) (pq := 57) hX d_R_pair_54 rfl rfl (by omega) (by omega) (fun h54 => ?_) (fun h54 => ?_)
      · show fm_G SR Y_R_pair X M (fm_xb (fa_pr P m (rEs P M m) i j) M) 59 [some (.inr 0), some (.inl (nI m)), some (.inl (nI i)), some (.inl (nI j)), some (.inl (nI (24 * m + i))), some (.inl (nI (24 * m + j))), none, none, none, none, none, none] [] M
        refine fm_aload_n (pq := 60) hX d_R_pair_59 rfl rfl rfl ?_
        refine fm_getr (pq := 63) (q := 4) hX fR_19 rfl rfl d_R_pair_60 rfl ?_
        refine fm_iload (pq := 65) hX d_R_pair_63 rfl rfl ?_
        refine fm_iald (pq := 66) (v := nI ((P.2.2 m i).2.1)) hX rfl rfl rfl (by omega) (by decide) ((hP m (by omega)).2.2 i (by omega)).2.1 d_R_pair_65 rfl ?_
        refine fm_istore (pq := 68) (ls1 := [some (.inr 0), some (.inl (nI m)), some (.inl (nI i)), some (.inl (nI j)), some (.inl (nI (24 * m + i))), some (.inl (nI (24 * m + j))), some (.inl (nI ((P.2.2 m i).2.1))), none, none, none, none, none]) hX d_R_pair_66 (by decide) rfl rfl ?_
        have L118 : ∀ (b : Bool) (M1 : fm_M), fr12 M M1 → (b = true ↔ fa_pb P m (rEs P M m) i) → fm_G SR Y_R_pair X M (fm_xb (fa_pr P m (rEs P M m) i j) M) 118 [some (.inr 0), some (.inl (nI m)), some (.inl (nI i)), some (.inl (nI j)), some (.inl (nI (24 * m + i))), some (.inl (nI (24 * m + j))), some (.inl (nI ((P.2.2 m i).2.1))), none, none, none, none, none] [.inl (bI b)] M1 := by
          intro b118 M1 hf1 hb118
          have hP1 := fr12_P hf1 hP
          refine fm_istore (pq := 120) (ls1 := [some (.inr 0), some (.inl (nI m)), some (.inl (nI i)), some (.inl (nI j)), some (.inl (nI (24 * m + i))), some (.inl (nI (24 * m + j))), some (.inl (nI ((P.2.2 m i).2.1))), none, some (.inl (bI b118)), none, none, none]) hX d_R_pair_118 (by decide) rfl rfl ?_
          refine fm_iload_n (pq := 121) hX d_R_pair_120 rfl rfl rfl ?_
          refine fm_iconst (pq := 122) (v := nI 1) hX d_R_pair_121 (by decide) rfl ?_
          refine fm_iadd (pq := 123) (v := nI (i + 1)) hX d_R_pair_122 (nI_add _ _) rfl ?_
          refine fm_istore (pq := 125) (ls1 := [some (.inr 0), some (.inl (nI m)), some (.inl (nI i)), some (.inl (nI j)), some (.inl (nI (24 * m + i))), some (.inl (nI (24 * m + j))), some (.inl (nI ((P.2.2 m i).2.1))), none, some (.inl (bI b118)), some (.inl (nI (i + 1))), none, none]) hX d_R_pair_123 (by decide) rfl rfl ?_
          exact L125 h25 h37 h54 (i + 1) (by omega) (by omega) b118 M1 hf1 (by rw [hb118]; exact ⟨fun z => ⟨z, fun p h1 h2 => absurd h2 (by omega)⟩, fun z => z.1⟩)
        refine fm_aload_n (pq := 69) hX d_R_pair_68 rfl rfl rfl ?_
        refine fm_iload_n (pq := 70) hX d_R_pair_69 rfl rfl rfl ?_
        refine fm_iload (pq := 72) hX d_R_pair_70 rfl rfl ?_
        refine fm_callV_n (as := [.inl (nI m), .inl (nI ((P.2.2 m i).2.1))]) (st := []) (pq := 75) hX rfl rfl cR_135 rfl im_R_onlyNew se_R_onlyNew (k_R_onlyNew (m := m) (by omega) M hP hw (r := (P.2.2 m i).2.1) (by omega)) rfl rfl (Nat.le_of_ble_eq_true rfl) (Nat.le_of_ble_eq_true rfl) d_R_pair_72 rfl (fun v72 c72 => ?_)
        refine fm_istore (pq := 77) (ls1 := [some (.inr 0), some (.inl (nI m)), some (.inl (nI i)), some (.inl (nI j)), some (.inl (nI (24 * m + i))), some (.inl (nI (24 * m + j))), some (.inl (nI ((P.2.2 m i).2.1))), some (.inl v72), none, none, none, none]) hX d_R_pair_75 (by decide) rfl rfl ?_
        rcases c72 with ⟨k, ek, hir, pk⟩ | ⟨ek, hno⟩
        · subst ek
          have hk24 := pk.1
          refine fm_iload (pq := 79) hX d_R_pair_77 rfl rfl ?_
          refine fm_z_lt (tgt := 117) (pq := 82) hX d_R_pair_79 rfl rfl (by omega) (fun h79 => ?_) (fun h79 => ?_)
          · exact absurd h79 (by omega)
          · show fm_G SR Y_R_pair X M (fm_xb (fa_pr P m (rEs P M m) i j) M) 82 [some (.inr 0), some (.inl (nI m)), some (.inl (nI i)), some (.inl (nI j)), some (.inl (nI (24 * m + i))), some (.inl (nI (24 * m + j))), some (.inl (nI ((P.2.2 m i).2.1))), some (.inl (nI k)), none, none, none, none] [] M
            refine fm_aload_n (pq := 83) hX d_R_pair_82 rfl rfl rfl ?_
            refine fm_iload_n (pq := 84) hX d_R_pair_83 rfl rfl rfl ?_
            refine fm_iload (pq := 86) hX d_R_pair_84 rfl rfl ?_
            refine fm_callV_y (as := [.inl (nI m), .inl (nI ((P.2.2 m i).2.1))]) (st := []) (pq := 89) hX rfl rfl cR_148 rfl im_R_apart se_R_apart (k_R_apart (m := m) (by omega) M hP hw (r := (P.2.2 m i).2.1) (by omega)) rfl rfl (Nat.le_of_ble_eq_true rfl) (Nat.le_of_ble_eq_true rfl) d_R_pair_86 rfl (fun b86 M86 c86 => ?_)
            have hP86 := fr12_P c86.2 hP
            refine fm_b1_ne (tgt := 117) (pq := 92) hX d_R_pair_89 rfl rfl (fun h89 => ?_) (fun h89 => ?_)
            · show fm_G SR Y_R_pair X M (fm_xb (fa_pr P m (rEs P M m) i j) M) 117 [some (.inr 0), some (.inl (nI m)), some (.inl (nI i)), some (.inl (nI j)), some (.inl (nI (24 * m + i))), some (.inl (nI (24 * m + j))), some (.inl (nI ((P.2.2 m i).2.1))), some (.inl (nI k)), none, none, none, none] [] M86
              refine fm_iconst (pq := 118) (v := nI 0) hX d_R_pair_117 (by decide) rfl ?_
              refine fm_drop 7 (ls1 := [some (.inr 0), some (.inl (nI m)), some (.inl (nI i)), some (.inl (nI j)), some (.inl (nI (24 * m + i))), some (.inl (nI (24 * m + j))), some (.inl (nI ((P.2.2 m i).2.1))), none, none, none, none, none]) rfl ?_
              first
              | exact L118 false M86 c86.2 ⟨fun z => absurd z (by decide), fun ⟨l, z1, z2, z3, _⟩ => by
                  obtain ⟨l2, y⟩ := c86.1.mp h89
                  rw [fa_nw_uq y.2.1 z2] at y
                  exact absurd y z3⟩
              | exact L118 false M86 c86.2 ⟨fun z => absurd z (by decide), fun ⟨l, z1, z2, z3, z4, _⟩ => by
                  rw [fa_nw_uq z2 pk] at z4
                  exact absurd ((rEs_v (fr12_A c86.2 m)).mpr z4) h99⟩
            · show fm_G SR Y_R_pair X M (fm_xb (fa_pr P m (rEs P M m) i j) M) 92 [some (.inr 0), some (.inl (nI m)), some (.inl (nI i)), some (.inl (nI j)), some (.inl (nI (24 * m + i))), some (.inl (nI (24 * m + j))), some (.inl (nI ((P.2.2 m i).2.1))), some (.inl (nI k)), none, none, none, none] [] M86
              refine fm_aload_n (pq := 93) hX d_R_pair_92 rfl rfl rfl ?_
              refine fm_iload_n (pq := 94) hX d_R_pair_93 rfl rfl rfl ?_
              refine fm_iload (pq := 96) hX d_R_pair_94 rfl rfl ?_
              refine fm_callV_i (as := [.inl (nI m), .inl (nI k)]) (st := []) (pq := 99) hX rfl rfl cR_151 rfl im_R_escapeOf se_R_escapeOf (k_R_escapeOf (m := m) (by omega) M86 hP86 hw (i := k) (by omega)) rfl rfl (Nat.le_of_ble_eq_true rfl) (Nat.le_of_ble_eq_true rfl) d_R_pair_96 rfl ?_
              refine fm_if_ne (tgt := 117) (pq := 102) hX d_R_pair_99 rfl rfl (fun h99 => ?_) (fun h99 => ?_)
              · show fm_G SR Y_R_pair X M (fm_xb (fa_pr P m (rEs P M m) i j) M) 117 [some (.inr 0), some (.inl (nI m)), some (.inl (nI i)), some (.inl (nI j)), some (.inl (nI (24 * m + i))), some (.inl (nI (24 * m + j))), some (.inl (nI ((P.2.2 m i).2.1))), some (.inl (nI k)), none, none, none, none] [] M86
                refine fm_iconst (pq := 118) (v := nI 0) hX d_R_pair_117 (by decide) rfl ?_
                refine fm_drop 7 (ls1 := [some (.inr 0), some (.inl (nI m)), some (.inl (nI i)), some (.inl (nI j)), some (.inl (nI (24 * m + i))), some (.inl (nI (24 * m + j))), some (.inl (nI ((P.2.2 m i).2.1))), none, none, none, none, none]) rfl ?_
                first
                | exact L118 false M86 c86.2 ⟨fun z => absurd z (by decide), fun ⟨l, z1, z2, z3, _⟩ => by
                    obtain ⟨l2, y⟩ := c86.1.mp h89
                    rw [fa_nw_uq y.2.1 z2] at y
                    exact absurd y z3⟩
                | exact L118 false M86 c86.2 ⟨fun z => absurd z (by decide), fun ⟨l, z1, z2, z3, z4, _⟩ => by
                    rw [fa_nw_uq z2 pk] at z4
                    exact absurd ((rEs_v (fr12_A c86.2 m)).mpr z4) h99⟩
              · show fm_G SR Y_R_pair X M (fm_xb (fa_pr P m (rEs P M m) i j) M) 102 [some (.inr 0), some (.inl (nI m)), some (.inl (nI i)), some (.inl (nI j)), some (.inl (nI (24 * m + i))), some (.inl (nI (24 * m + j))), some (.inl (nI ((P.2.2 m i).2.1))), some (.inl (nI k)), none, none, none, none] [] M86
                refine fm_aload_n (pq := 103) hX d_R_pair_102 rfl rfl rfl ?_
                refine fm_iload_n (pq := 104) hX d_R_pair_103 rfl rfl rfl ?_
                refine fm_iload (pq := 106) hX d_R_pair_104 rfl rfl ?_
                refine fm_iload_n (pq := 107) hX d_R_pair_106 rfl rfl rfl ?_
                refine fm_callV_y (as := [.inl (nI m), .inl (nI k), .inl (nI i)]) (st := []) (pq := 110) hX rfl rfl cR_145 rfl im_R_dominates se_R_dominates (k_R_dominates (m := m) (by omega) M86 hP86 hw (by omega) (i := k) (j := i) (by omega) (by omega)) rfl rfl (Nat.le_of_ble_eq_true rfl) (Nat.le_of_ble_eq_true rfl) d_R_pair_107 rfl (fun b107 M107 c107 => ?_)
                have hP107 := fr12_P c107.2 hP86
                refine fm_b1_eq (tgt := 117) (pq := 113) hX d_R_pair_110 rfl rfl (fun h110 => ?_) (fun h110 => ?_)
                · show fm_G SR Y_R_pair X M (fm_xb (fa_pr P m (rEs P M m) i j) M) 117 [some (.inr 0), some (.inl (nI m)), some (.inl (nI i)), some (.inl (nI j)), some (.inl (nI (24 * m + i))), some (.inl (nI (24 * m + j))), some (.inl (nI ((P.2.2 m i).2.1))), some (.inl (nI k)), none, none, none, none] [] M107
                  refine fm_iconst (pq := 118) (v := nI 0) hX d_R_pair_117 (by decide) rfl ?_
                  refine fm_drop 7 (ls1 := [some (.inr 0), some (.inl (nI m)), some (.inl (nI i)), some (.inl (nI j)), some (.inl (nI (24 * m + i))), some (.inl (nI (24 * m + j))), some (.inl (nI ((P.2.2 m i).2.1))), none, none, none, none, none]) rfl ?_
                  first
                  | exact L118 true M107 (fr12_tr c86.2 c107.2) ⟨fun _ => ⟨k, hir, pk, fun z => absurd (c86.1.mpr ⟨k, z⟩) (by rw [h89]; decide), (rEs_v (fr12_A c86.2 m)).mp h99, fun z => (c107.1.mp h110).elim (fun e => dm_R_ne z e.symm) (fun y => y z)⟩, fun _ => rfl⟩
                  | exact L118 false M107 (fr12_tr c86.2 c107.2) ⟨fun z => absurd z (by decide), fun ⟨l, z1, z2, z3, z4, z5⟩ => by
                      rw [fa_nw_uq z2 pk] at z5
                      exact absurd (c107.1.mpr (Or.inr z5)) (by rw [h110]; decide)⟩
                · show fm_G SR Y_R_pair X M (fm_xb (fa_pr P m (rEs P M m) i j) M) 113 [some (.inr 0), some (.inl (nI m)), some (.inl (nI i)), some (.inl (nI j)), some (.inl (nI (24 * m + i))), some (.inl (nI (24 * m + j))), some (.inl (nI ((P.2.2 m i).2.1))), some (.inl (nI k)), none, none, none, none] [] M107
                  refine fm_iconst (pq := 114) (v := nI 1) hX d_R_pair_113 (by decide) rfl ?_
                  refine fm_goto (tgt := 118) hX d_R_pair_114 rfl ?_
                  refine fm_drop 7 (ls1 := [some (.inr 0), some (.inl (nI m)), some (.inl (nI i)), some (.inl (nI j)), some (.inl (nI (24 * m + i))), some (.inl (nI (24 * m + j))), some (.inl (nI ((P.2.2 m i).2.1))), none, none, none, none, none]) rfl ?_
                  first
                  | exact L118 true M107 (fr12_tr c86.2 c107.2) ⟨fun _ => ⟨k, hir, pk, fun z => absurd (c86.1.mpr ⟨k, z⟩) (by rw [h89]; decide), (rEs_v (fr12_A c86.2 m)).mp h99, fun z => (c107.1.mp h110).elim (fun e => dm_R_ne z e.symm) (fun y => y z)⟩, fun _ => rfl⟩
                  | exact L118 false M107 (fr12_tr c86.2 c107.2) ⟨fun z => absurd z (by decide), fun ⟨l, z1, z2, z3, z4, z5⟩ => by
                      rw [fa_nw_uq z2 pk] at z5
                      exact absurd (c107.1.mpr (Or.inr z5)) (by rw [h110]; decide)⟩
        · subst ek
          refine fm_iload (pq := 79) hX d_R_pair_77 rfl rfl ?_
          refine fm_if_lt (tgt := 117) (pq := 82) hX d_R_pair_79 rfl rfl (fun h79 => ?_) (fun h79 => ?_)
          · show fm_G SR Y_R_pair X M (fm_xb (fa_pr P m (rEs P M m) i j) M) 117 [some (.inr 0), some (.inl (nI m)), some (.inl (nI i)), some (.inl (nI j)), some (.inl (nI (24 * m + i))), some (.inl (nI (24 * m + j))), some (.inl (nI ((P.2.2 m i).2.1))), some (.inl ((-1))), none, none, none, none] [] M
            refine fm_iconst (pq := 118) (v := nI 0) hX d_R_pair_117 (by decide) rfl ?_
            refine fm_drop 7 (ls1 := [some (.inr 0), some (.inl (nI m)), some (.inl (nI i)), some (.inl (nI j)), some (.inl (nI (24 * m + i))), some (.inl (nI (24 * m + j))), some (.inl (nI ((P.2.2 m i).2.1))), none, none, none, none, none]) rfl ?_
            exact L118 false M (fr12_rf M) ⟨fun z => absurd z (by decide), fun ⟨l, z1, z2, _⟩ => absurd ⟨z1, l, z2⟩ hno⟩
          · exact absurd h79 (by decide)
      · show fm_G SR Y_R_pair X M (fm_xb (fa_pr P m (rEs P M m) i j) M) 57 [some (.inr 0), some (.inl (nI m)), some (.inl (nI i)), some (.inl (nI j)), some (.inl (nI (24 * m + i))), some (.inl (nI (24 * m + j))), none, none, none, none, none, none] [] M
        refine fm_iconst (pq := 58) (v := nI 0) hX d_R_pair_57 (by decide) rfl ?_
        refine fm_zret hX rfl (by decide) d_R_pair_58 ?_
        first
        | exact fm_xb0 (fun z => h25 z.2.2.1) (fr12_rf M)
        | exact fm_xb0 (fun z => h37 z.2.2.2.1) (fr12_rf M)
        | exact fm_xb0 (fun z => h54 z.2.2.2.2.1) (fr12_rf M)
