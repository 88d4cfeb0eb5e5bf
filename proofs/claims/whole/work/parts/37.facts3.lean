/-! Facts: sumUp, gather (written by program) -/
theorem cZ_end {P : pr_T} {m : Nat} {S : Nat → an_T} {M : fm_M} (h : P.1 m = 0) : ∃ σ, an_is1 P (fun n => if n = m then σ else S n) m ∧ cOK P (fun n => if n = m then σ else S n) m (cZ M m) ∧ ∀ a j, ¬ cFa m a → cZ M m a j = M a j := by
  refine ⟨an_z, ?_, ?_, fun a j q => cZ_o q⟩
  · unfold an_is1
    rw [if_pos h]
    simp only [if_pos]
  · unfold cOK
    simp only [if_pos]
    exact ⟨cZ_A M m, fun _ q hq => cZ_s hq, fun z => absurd h z⟩
theorem cG_0 {P : pr_T} {m : Nat} {E : an_E} {M M1 : fm_M} (c : cS m (cZ M m) M1 (an_s0 (P.2.1 m))) : cG P m E M 0 (fm_up M1 (kF m) 7 (nI 1)) := by
  have eA : cA (fm_up M1 (kF m) 7 (nI 1)) m = cA M1 m := cA_up (by show 21 + 15 * m ≠ _; omega) (by show 21 + 15 * m ≠ _; omega) (by show 21 + 15 * m ≠ _; omega) (by omega)
  refine ⟨fun a j q => ?_, fun q hq => ?_, ?_, true, fm_up_s, fun _ => Nat.zero_le _, fun z => absurd z (by decide)⟩
  · rw [fm_up_a (fun z => q ⟨by rw [z]; show _ ≤ 21 + 15 * m; omega, by rw [z]; show 21 + 15 * m < _; omega⟩), cS_fa c q, cZ_o q]
  · rw [fm_up_a (by show 26 + 15 * m ≠ 21 + 15 * m; omega), cS_o c (a := kFs m) (by show 26 + 15 * m ≠ _; omega) (by show 26 + 15 * m ≠ _; omega) (by show 26 + 15 * m ≠ _; omega) (by show 26 + 15 * m ≠ _; omega)]
    exact cZ_s hq
  · rw [eA, c.1]
    exact an_inv_0 _ _ _
/-- other cells as they were: what is known of the callees stays -/
theorem cE_cg {P : pr_T} {m : Nat} {E : an_E} {M M' : fm_M} (h : cE P m E M) (k : ∀ a j, ¬ cFa m a → M' a j = M a j) : cE P m E M' := by
  refine ⟨h.1, h.2.1, fun n h1 h2 h3 p h4 => ?_⟩
  rw [k (kFs n) p (by unfold cFa; show ¬ (_ ≤ 26 + 15 * n ∧ 26 + 15 * n < _); omega), k (kFx n) p (by unfold cFa; show ¬ (_ ≤ 27 + 15 * n ∧ 27 + 15 * n < _); omega)]
  exact h.2.2 n h1 h2 h3 p h4
theorem cE_7 {P : pr_T} {m : Nat} {E : an_E} {M M1 : fm_M} {t : Nat} {x : Int32} (h : cE P m E M) (k : cG P m E M t M1) : cE P m E (fm_up M1 (kF m) 7 x) :=
  cE_cg h (fun a j q => by
    rw [fm_up_a (fun z => q ⟨by rw [z]; show _ ≤ 21 + 15 * m; omega, by rw [z]; show 21 + 15 * m < _; omega⟩)]
    exact k.1 a j q)
abbrev Y_F_sumUp : fm_Y := ("EscapeMill$Facts", b_F_sumUp, 6, none, 3)
set_option maxRecDepth 100000 in
set_option maxHeartbeats 4000000 in
theorem k_F_sumUp {m : Nat} (hm : m < 5) (M : fm_M) (hs : ∀ q, q < 2 → M (kFs m) q = 0) {k : Nat} (hk : k ≤ 2) : fm_ct SC y_F_sumUp b_F_sumUp 6 none 3 [.inr (kF m), .inl (nI k)] M (fm_vr (fun M' => cU m k k k M M')) := by
  refine fm_of (ls := [some (.inr (kF m)), some (.inl (nI k)), none, none, none, none]) (by decide) wsA_good (Nat.le_of_ble_eq_true rfl) rfl (fun X hX => ?_)
  have L26 : ∀ p, p ≤ k → ∀ M1, cU m k p p M M1 → fm_G SC Y_F_sumUp X M (fm_vr (fun M' => cU m k k k M M')) 26 [some (.inr (kF m)), some (.inl (nI k)), some (.inl (an_rc (cA M m).2.1 (cA M m).2.2)), some (.inl (nI p)), none, none] [] M1 := by
    refine fm_ind k (fun p hle ih => ?_)
    intro M1 hu
    refine fm_iload_n hX d_F_sumUp_26 rfl rfl rfl ?_
    refine fm_iload_n hX d_F_sumUp_27 rfl rfl rfl ?_
    refine fm_n_ge (tgt := 139) (pq := 31) hX d_F_sumUp_28 rfl rfl (by omega) (by omega) (fun h28 => ?_) (fun h28 => ?_)
    · show fm_G SC Y_F_sumUp X M (fm_vr (fun M' => cU m k k k M M')) 139 [some (.inr (kF m)), some (.inl (nI k)), some (.inl (an_rc (cA M m).2.1 (cA M m).2.2)), some (.inl (nI p)), none, none] [] M1
      refine fm_vret hX rfl d_F_sumUp_139 ?_
      have e : p = k := by omega
      rw [e] at hu
      exact ⟨rfl, hu⟩
    · show fm_G SC Y_F_sumUp X M (fm_vr (fun M' => cU m k k k M M')) 31 [some (.inr (kF m)), some (.inl (nI k)), some (.inl (an_rc (cA M m).2.1 (cA M m).2.2)), some (.inl (nI p)), none, none] [] M1
      refine fm_aload_n hX d_F_sumUp_31 rfl rfl rfl ?_
      refine fm_ldc (v := 16777216) hX d_F_sumUp_32 kF_76 rfl ?_
      refine fm_iload_n hX d_F_sumUp_34 rfl rfl rfl ?_
      refine fm_ishl (v := an_1 (24 + p)) hX d_F_sumUp_35 (fm_arg (by omega)) rfl ?_
      refine fm_callV_i (as := [.inl (an_1 (24 + p))]) (st := []) (pq := 39) hX (s_F (by omega)) rfl cF_105 rfl im_F_reached se_F_reached (k_F_reached (by omega) M1 (an_1 (24 + p))) rfl rfl (Nat.le_of_ble_eq_true rfl) (Nat.le_of_ble_eq_true rfl) d_F_sumUp_36 rfl ?_
      refine fm_istore (ls1 := [some (.inr (kF m)), some (.inl (nI k)), some (.inl (an_rc (cA M m).2.1 (cA M m).2.2)), some (.inl (nI p)), some (.inl (an_rc (cA M1 m).2.1 (an_1 (24 + p)))), none]) hX d_F_sumUp_39 (by decide) rfl rfl ?_
      have L60 : ∀ v : Int32, v = (if k = 2 then an_rc (cA M m).2.1 (an_1 (25 - p)) else 0) → fm_G SC Y_F_sumUp X M (fm_vr (fun M' => cU m k k k M M')) 60 [some (.inr (kF m)), some (.inl (nI k)), some (.inl (an_rc (cA M m).2.1 (cA M m).2.2)), some (.inl (nI p)), some (.inl (an_rc (cA M1 m).2.1 (an_1 (24 + p)))), none] [.inl v] M1 := by
        intro v60 hv60
        refine fm_istore (ls1 := [some (.inr (kF m)), some (.inl (nI k)), some (.inl (an_rc (cA M m).2.1 (cA M m).2.2)), some (.inl (nI p)), some (.inl (an_rc (cA M1 m).2.1 (an_1 (24 + p)))), some (.inl v60)]) hX d_F_sumUp_60 (by decide) rfl rfl ?_
        refine fm_aload_n hX d_F_sumUp_62 rfl rfl rfl ?_
        refine fm_getr (q := kFx m) hX fF_23 (s_F (by omega)) rfl d_F_sumUp_63 rfl ?_
        refine fm_iload_n hX d_F_sumUp_66 rfl rfl rfl ?_
        have L82 : ∀ v : Int32, v = bI (an_mx (cA M m) p) → fm_G SC Y_F_sumUp X M (fm_vr (fun M' => cU m k k k M M')) 82 [some (.inr (kF m)), some (.inl (nI k)), some (.inl (an_rc (cA M m).2.1 (cA M m).2.2)), some (.inl (nI p)), some (.inl (an_rc (cA M1 m).2.1 (an_1 (24 + p)))), some (.inl v60)] [.inl v, .inl (nI p), .inr (kFx m)] M1 := by
          intro v hv
          subst hv
          refine fm_zast hX (s_Fx (by omega)) rfl rfl (by omega) (by decide) (fm_vb (an_mx (cA M m) p)) d_F_sumUp_82 rfl ?_
          have L122 : ∀ M2, cU m k (p + 1) p M M2 → fm_G SC Y_F_sumUp X M (fm_vr (fun M' => cU m k k k M M')) 122 [some (.inr (kF m)), some (.inl (nI k)), some (.inl (an_rc (cA M m).2.1 (cA M m).2.2)), some (.inl (nI p)), some (.inl (an_rc (cA M1 m).2.1 (an_1 (24 + p)))), some (.inl v60)] [] M2 := by
            intro M2 hV
            refine fm_aload_n hX d_F_sumUp_122 rfl rfl rfl ?_
            refine fm_dup hX d_F_sumUp_123 rfl ?_
            refine fm_geti (v := M2 (kF m) 6) hX fF_34 (s_F (by omega)) rfl rfl d_F_sumUp_124 rfl ?_
            refine fm_iload hX d_F_sumUp_127 rfl rfl ?_
            refine fm_ior (v := (M2 (kF m) 6) ||| (an_rc (cA M1 m).2.1 (an_1 (24 + p)))) hX d_F_sumUp_129 rfl rfl ?_
            refine fm_puti hX fF_34 pF_6 (s_F (by omega)) rfl rfl rfl d_F_sumUp_130 rfl ?_
            refine fm_iinc (v := nI (p + 1)) (ls1 := [some (.inr (kF m)), some (.inl (nI k)), some (.inl (an_rc (cA M m).2.1 (cA M m).2.2)), some (.inl (nI (p + 1))), some (.inl (an_rc (cA M1 m).2.1 (an_1 (24 + p)))), some (.inl v60)]) hX d_F_sumUp_133 rfl (nI_add _ _) (by decide) rfl rfl ?_
            refine fm_goto (tgt := 26) hX d_F_sumUp_136 rfl ?_
            refine fm_drop 4 (ls1 := [some (.inr (kF m)), some (.inl (nI k)), some (.inl (an_rc (cA M m).2.1 (cA M m).2.2)), some (.inl (nI (p + 1))), none, some (.inl v60)]) rfl ?_
            refine fm_drop 5 (ls1 := [some (.inr (kF m)), some (.inl (nI k)), some (.inl (an_rc (cA M m).2.1 (cA M m).2.2)), some (.inl (nI (p + 1))), none, none]) rfl ?_
            exact ih (by omega) _ (cU_n hV (by rw [hu.1]))
          refine fm_aload_n hX d_F_sumUp_83 rfl rfl rfl ?_
          refine fm_geti (v := an_rc (cA M m).2.1 an_W) hX fF_31 (s_F (by omega)) rfl (by first | exact hu.2.1 | exact (fm_up_a (by show 21 + 15 * m ≠ 27 + 15 * m; omega)).trans hu.2.1) d_F_sumUp_84 rfl ?_
          refine fm_ldc (v := 16777216) hX d_F_sumUp_87 kF_76 rfl ?_
          refine fm_iload_n hX d_F_sumUp_89 rfl rfl rfl ?_
          refine fm_ishl (v := an_1 (24 + p)) hX d_F_sumUp_90 (fm_arg (by omega)) rfl ?_
          refine fm_iand (v := (an_rc (cA M m).2.1 an_W) &&& (an_1 (24 + p))) hX d_F_sumUp_91 rfl rfl ?_
          refine fm_if_eq (tgt := 105) (pq := 95) hX d_F_sumUp_92 rfl rfl (fun h92 => ?_) (fun h92 => ?_)
          · show fm_G SC Y_F_sumUp X M (fm_vr (fun M' => cU m k k k M M')) 105 [some (.inr (kF m)), some (.inl (nI k)), some (.inl (an_rc (cA M m).2.1 (cA M m).2.2)), some (.inl (nI p)), some (.inl (an_rc (cA M1 m).2.1 (an_1 (24 + p)))), some (.inl v60)] [] (fm_up M1 (kFx m) p (bI (an_mx (cA M m) p)))
            refine fm_iload hX d_F_sumUp_105 rfl rfl ?_
            refine fm_iload_n hX d_F_sumUp_107 rfl rfl rfl ?_
            refine fm_iload hX d_F_sumUp_108 rfl rfl ?_
            refine fm_ior (v := (an_rc (cA M m).2.1 (cA M m).2.2) ||| v60) hX d_F_sumUp_110 rfl rfl ?_
            refine fm_iand (v := (an_rc (cA M1 m).2.1 (an_1 (24 + p))) &&& ((an_rc (cA M m).2.1 (cA M m).2.2) ||| v60)) hX d_F_sumUp_111 rfl rfl ?_
            refine fm_if_eq (tgt := 122) (pq := 115) hX d_F_sumUp_112 rfl rfl (fun h112 => ?_) (fun h112 => ?_)
            · show fm_G SC Y_F_sumUp X M (fm_vr (fun M' => cU m k k k M M')) 122 [some (.inr (kF m)), some (.inl (nI k)), some (.inl (an_rc (cA M m).2.1 (cA M m).2.2)), some (.inl (nI p)), some (.inl (an_rc (cA M1 m).2.1 (an_1 (24 + p)))), some (.inl v60)] [] (fm_up M1 (kFx m) p (bI (an_mx (cA M m) p)))
              exact L122 _ (cU_z hu (by omega) (an_sm_0 (by omega) h92 hv60 (by rw [hu.1] at h112; exact h112)))
            · show fm_G SC Y_F_sumUp X M (fm_vr (fun M' => cU m k k k M M')) 115 [some (.inr (kF m)), some (.inl (nI k)), some (.inl (an_rc (cA M m).2.1 (cA M m).2.2)), some (.inl (nI p)), some (.inl (an_rc (cA M1 m).2.1 (an_1 (24 + p)))), some (.inl v60)] [] (fm_up M1 (kFx m) p (bI (an_mx (cA M m) p)))
              refine fm_aload_n hX d_F_sumUp_115 rfl rfl rfl ?_
              refine fm_getr (q := kFs m) hX fF_20 (s_F (by omega)) rfl d_F_sumUp_116 rfl ?_
              refine fm_iload_n hX d_F_sumUp_119 rfl rfl rfl ?_
              refine fm_iconst (v := nI 1) hX d_F_sumUp_120 (by decide) rfl ?_
              refine fm_iast hX (s_Fs (by omega)) rfl rfl (by omega) (by decide) d_F_sumUp_121 rfl ?_
              exact L122 _ (cU_x hu (by omega) (an_sm_1 (by omega) h92 hv60 (by rw [hu.1] at h112; exact h112)))
          · show fm_G SC Y_F_sumUp X M (fm_vr (fun M' => cU m k k k M M')) 95 [some (.inr (kF m)), some (.inl (nI k)), some (.inl (an_rc (cA M m).2.1 (cA M m).2.2)), some (.inl (nI p)), some (.inl (an_rc (cA M1 m).2.1 (an_1 (24 + p)))), some (.inl v60)] [] (fm_up M1 (kFx m) p (bI (an_mx (cA M m) p)))
            refine fm_aload_n hX d_F_sumUp_95 rfl rfl rfl ?_
            refine fm_getr (q := kFs m) hX fF_20 (s_F (by omega)) rfl d_F_sumUp_96 rfl ?_
            refine fm_iload_n hX d_F_sumUp_99 rfl rfl rfl ?_
            refine fm_iconst (v := nI 2) hX d_F_sumUp_100 (by decide) rfl ?_
            refine fm_iast hX (s_Fs (by omega)) rfl rfl (by omega) (by decide) d_F_sumUp_101 rfl ?_
            refine fm_goto (tgt := 122) hX d_F_sumUp_102 rfl ?_
            exact L122 _ (cU_x hu (by omega) (an_sm_2 (by omega) h92))
        refine fm_iload hX d_F_sumUp_67 rfl rfl ?_
        refine fm_aload_n hX d_F_sumUp_69 rfl rfl rfl ?_
        refine fm_geti (v := an_rc (cA M m).2.1 an_W) hX fF_31 (s_F (by omega)) rfl (by first | exact hu.2.1 | exact (fm_up_a (by show 21 + 15 * m ≠ 27 + 15 * m; omega)).trans hu.2.1) d_F_sumUp_70 rfl ?_
        refine fm_iand (v := (an_rc (cA M1 m).2.1 (an_1 (24 + p))) &&& (an_rc (cA M m).2.1 an_W)) hX d_F_sumUp_73 rfl rfl ?_
        refine fm_if_eq (tgt := 81) (pq := 77) hX d_F_sumUp_74 rfl rfl (fun h74 => ?_) (fun h74 => ?_)
        · show fm_G SC Y_F_sumUp X M (fm_vr (fun M' => cU m k k k M M')) 81 [some (.inr (kF m)), some (.inl (nI k)), some (.inl (an_rc (cA M m).2.1 (cA M m).2.2)), some (.inl (nI p)), some (.inl (an_rc (cA M1 m).2.1 (an_1 (24 + p)))), some (.inl v60)] [.inl (nI p), .inr (kFx m)] M1
          refine fm_iconst (v := nI 0) hX d_F_sumUp_81 (by decide) rfl ?_
          first | exact L82 _ (fm_b1 (by rw [hu.1] at h74; exact h74)) | exact L82 _ (fm_b0 (fun z => z (by rw [hu.1] at h74; exact h74)))
        · show fm_G SC Y_F_sumUp X M (fm_vr (fun M' => cU m k k k M M')) 77 [some (.inr (kF m)), some (.inl (nI k)), some (.inl (an_rc (cA M m).2.1 (cA M m).2.2)), some (.inl (nI p)), some (.inl (an_rc (cA M1 m).2.1 (an_1 (24 + p)))), some (.inl v60)] [.inl (nI p), .inr (kFx m)] M1
          refine fm_iconst (v := nI 1) hX d_F_sumUp_77 (by decide) rfl ?_
          refine fm_goto (tgt := 82) hX d_F_sumUp_78 rfl ?_
          first | exact L82 _ (fm_b1 (by rw [hu.1] at h74; exact h74)) | exact L82 _ (fm_b0 (fun z => z (by rw [hu.1] at h74; exact h74)))
      refine fm_iload_n hX d_F_sumUp_41 rfl rfl rfl ?_
      refine fm_iconst (v := nI 2) hX d_F_sumUp_42 (by decide) rfl ?_
      refine fm_n_ne (tgt := 59) (pq := 46) hX d_F_sumUp_43 rfl rfl (by omega) (by omega) (fun h43 => ?_) (fun h43 => ?_)
      · show fm_G SC Y_F_sumUp X M (fm_vr (fun M' => cU m k k k M M')) 59 [some (.inr (kF m)), some (.inl (nI k)), some (.inl (an_rc (cA M m).2.1 (cA M m).2.2)), some (.inl (nI p)), some (.inl (an_rc (cA M1 m).2.1 (an_1 (24 + p)))), none] [] M1
        refine fm_iconst (v := nI 0) hX d_F_sumUp_59 (by decide) rfl ?_
        first | exact L60 _ (by rw [if_pos h43, hu.1, show 24 + (1 - p) = 25 - p by omega]) | exact L60 _ (if_neg h43).symm
      · show fm_G SC Y_F_sumUp X M (fm_vr (fun M' => cU m k k k M M')) 46 [some (.inr (kF m)), some (.inl (nI k)), some (.inl (an_rc (cA M m).2.1 (cA M m).2.2)), some (.inl (nI p)), some (.inl (an_rc (cA M1 m).2.1 (an_1 (24 + p)))), none] [] M1
        refine fm_aload_n hX d_F_sumUp_46 rfl rfl rfl ?_
        refine fm_ldc (v := 16777216) hX d_F_sumUp_47 kF_76 rfl ?_
        refine fm_iconst (v := nI 1) hX d_F_sumUp_49 (by decide) rfl ?_
        refine fm_iload_n hX d_F_sumUp_50 rfl rfl rfl ?_
        refine fm_isub (v := nI (1 - p)) hX d_F_sumUp_51 (pk_sub (by omega)) rfl ?_
        refine fm_ishl (v := an_1 (24 + (1 - p))) hX d_F_sumUp_52 (fm_arg (by omega)) rfl ?_
        refine fm_callV_i (as := [.inl (an_1 (24 + (1 - p)))]) (st := []) (pq := 56) hX (s_F (by omega)) rfl cF_105 rfl im_F_reached se_F_reached (k_F_reached (by omega) M1 (an_1 (24 + (1 - p)))) rfl rfl (Nat.le_of_ble_eq_true rfl) (Nat.le_of_ble_eq_true rfl) d_F_sumUp_53 rfl ?_
        refine fm_goto (tgt := 60) hX d_F_sumUp_56 rfl ?_
        first | exact L60 _ (by rw [if_pos h43, hu.1, show 24 + (1 - p) = 25 - p by omega]) | exact L60 _ (if_neg h43).symm
  show fm_G SC Y_F_sumUp X M (fm_vr (fun M' => cU m k k k M M')) 0 [some (.inr (kF m)), some (.inl (nI k)), none, none, none, none] [] M
  refine fm_aload_n hX d_F_sumUp_0 rfl rfl rfl ?_
  refine fm_aload_n hX d_F_sumUp_1 rfl rfl rfl ?_
  refine fm_geti (v := (cA M m).2.2) hX fF_27 (s_F (by omega)) rfl rfl d_F_sumUp_2 rfl ?_
  refine fm_callV_i (as := [.inl ((cA M m).2.2)]) (st := []) (pq := 8) hX (s_F (by omega)) rfl cF_105 rfl im_F_reached se_F_reached (k_F_reached (by omega) M ((cA M m).2.2)) rfl rfl (Nat.le_of_ble_eq_true rfl) (Nat.le_of_ble_eq_true rfl) d_F_sumUp_5 rfl ?_
  refine fm_istore_n (ls1 := [some (.inr (kF m)), some (.inl (nI k)), some (.inl (an_rc (cA M m).2.1 ((cA M m).2.2))), none, none, none]) hX d_F_sumUp_8 rfl (by decide) rfl rfl ?_
  refine fm_aload_n hX d_F_sumUp_9 rfl rfl rfl ?_
  refine fm_aload_n hX d_F_sumUp_10 rfl rfl rfl ?_
  refine fm_ldc (v := an_W) hX d_F_sumUp_11 kF_84 rfl ?_
  refine fm_callV_i (as := [.inl an_W]) (st := [.inr (kF m)]) (pq := 16) hX (s_F (by omega)) rfl cF_105 rfl im_F_reached se_F_reached (k_F_reached (by omega) M an_W) rfl rfl (Nat.le_of_ble_eq_true rfl) (Nat.le_of_ble_eq_true rfl) d_F_sumUp_13 rfl ?_
  refine fm_puti hX fF_31 pF_5 (s_F (by omega)) rfl rfl rfl d_F_sumUp_16 rfl ?_
  refine fm_aload_n hX d_F_sumUp_19 rfl rfl rfl ?_
  refine fm_iload_n hX d_F_sumUp_20 rfl rfl rfl ?_
  refine fm_puti hX fF_34 pF_6 (s_F (by omega)) rfl rfl rfl d_F_sumUp_21 rfl ?_
  refine fm_iconst (v := nI 0) hX d_F_sumUp_24 (by decide) rfl ?_
  refine fm_istore_n (ls1 := [some (.inr (kF m)), some (.inl (nI k)), some (.inl (an_rc (cA M m).2.1 ((cA M m).2.2))), some (.inl (nI 0)), none, none]) hX d_F_sumUp_25 rfl (by decide) rfl rfl ?_
  exact L26 0 (by omega) _ (cU_0 hs)
abbrev Y_F_gather : fm_Y := ("EscapeMill$Facts", b_F_gather, 7, none, 5)
set_option maxRecDepth 100000 in
set_option maxHeartbeats 4000000 in
theorem k_F_gather {P : pr_T} {m : Nat} (hm : m < 5) (M : fm_M) (hP : cP M P) (hw : pr_wf P) (S : Nat → an_T) (hS : ∀ n, m < n → n < 5 → cOK P S n M) : fm_ct SC y_F_gather b_F_gather 7 none 5 [.inr (kF m), .inr 1, .inr 2, .inl (nI m)] M (fm_vr (fun M' => ∃ σ, an_is1 P (fun n => if n = m then σ else S n) m ∧ cOK P (fun n => if n = m then σ else S n) m M' ∧ ∀ a j, ¬ cFa m a → M' a j = M a j)) := by
  refine fm_of (ls := [some (.inr (kF m)), some (.inr 1), some (.inr 2), some (.inl (nI m)), none, none, none]) (by decide) wsA_good (Nat.le_of_ble_eq_true rfl) rfl (fun X hX => ?_)
  obtain ⟨wl, wi, wI⟩ := hw m hm
  have hE : cE P m (an_env P m S) M := cE_of hS
  have L58 : ∀ (t : Nat) (M2 : fm_M), cP M2 P → cE P m (an_env P m S) M2 → (∀ M3, cS m M2 M3 (an_pass (cF P m (an_env P m S)) (P.1 m) (cA M2 m)) → fm_G SC Y_F_gather X M (fm_vr (fun M' => ∃ σ, an_is1 P (fun n => if n = m then σ else S n) m ∧ cOK P (fun n => if n = m then σ else S n) m M' ∧ ∀ a j, ¬ cFa m a → M' a j = M a j)) 107 [some (.inr (kF m)), some (.inr 1), some (.inr 2), some (.inl (nI m)), some (.inr (kC m)), some (.inl (nI t)), none] [] M3) → ∀ i, i ≤ P.1 m → ∀ M3, cS m M2 M3 (an_pass (cF P m (an_env P m S)) i (cA M2 m)) → fm_G SC Y_F_gather X M (fm_vr (fun M' => ∃ σ, an_is1 P (fun n => if n = m then σ else S n) m ∧ cOK P (fun n => if n = m then σ else S n) m M' ∧ ∀ a j, ¬ cFa m a → M' a j = M a j)) 58 [some (.inr (kF m)), some (.inr 1), some (.inr 2), some (.inl (nI m)), some (.inr (kC m)), some (.inl (nI t)), some (.inl (nI i))] [] M3 := by
    intro t M2 hP2 hE2 K
    refine fm_ind (P.1 m) (fun i hle ih => ?_)
    intro M3 hc
    have hP3 := cS_P hm hc hP2
    have hE3 := cE_S hE2 hc
    refine fm_iload hX d_F_gather_58 rfl rfl ?_
    refine fm_aload hX d_F_gather_60 rfl rfl ?_
    refine fm_geti (v := nI (P.1 m)) hX fF_44 (s_C (by omega)) rfl (hP3 m (by omega)).1 d_F_gather_62 rfl ?_
    refine fm_n_ge (tgt := 107) (pq := 68) hX d_F_gather_65 rfl rfl (by omega) (by omega) (fun h65 => ?_) (fun h65 => ?_)
    · show fm_G SC Y_F_gather X M (fm_vr (fun M' => ∃ σ, an_is1 P (fun n => if n = m then σ else S n) m ∧ cOK P (fun n => if n = m then σ else S n) m M' ∧ ∀ a j, ¬ cFa m a → M' a j = M a j)) 107 [some (.inr (kF m)), some (.inr 1), some (.inr 2), some (.inl (nI m)), some (.inr (kC m)), some (.inl (nI t)), some (.inl (nI i))] [] M3
      refine fm_drop 6 rfl ?_
      have e : i = P.1 m := by omega
      rw [e] at hc
      exact K M3 hc
    · show fm_G SC Y_F_gather X M (fm_vr (fun M' => ∃ σ, an_is1 P (fun n => if n = m then σ else S n) m ∧ cOK P (fun n => if n = m then σ else S n) m M' ∧ ∀ a j, ¬ cFa m a → M' a j = M a j)) 68 [some (.inr (kF m)), some (.inr 1), some (.inr 2), some (.inl (nI m)), some (.inr (kC m)), some (.inl (nI t)), some (.inl (nI i))] [] M3
      have w1 := (wI i (by omega)).1
      refine fm_aload hX d_F_gather_68 rfl rfl ?_
      refine fm_getr (q := kCa m 0) hX fF_56 (s_C (by omega)) rfl d_F_gather_70 rfl ?_
      refine fm_iload hX d_F_gather_73 rfl rfl ?_
      refine fm_iald (v := nI ((P.2.2 m i).1)) hX (s_Ca0 (by omega)) rfl rfl (by omega) (by decide) ((hP3 m (by omega)).2.2 i (by omega)).1 d_F_gather_75 rfl ?_
      refine fm_bipush (v := nI 16) hX d_F_gather_76 (by decide) rfl ?_
      refine fm_n_ne (tgt := 93) (pq := 81) hX d_F_gather_78 rfl rfl (by omega) (by omega) (fun h78 => ?_) (fun h78 => ?_)
      · show fm_G SC Y_F_gather X M (fm_vr (fun M' => ∃ σ, an_is1 P (fun n => if n = m then σ else S n) m ∧ cOK P (fun n => if n = m then σ else S n) m M' ∧ ∀ a j, ¬ cFa m a → M' a j = M a j)) 93 [some (.inr (kF m)), some (.inr 1), some (.inr 2), some (.inl (nI m)), some (.inr (kC m)), some (.inl (nI t)), some (.inl (nI i))] [] M3
        have hcl := k_F_apply hm M3 hP3 hw (i := i) (by omega) h78 (fun x y z n => an_cn (an_env P m S) x y z n ((an_env P m S).1 n))
        refine fm_aload_n hX d_F_gather_93 rfl rfl rfl ?_
        refine fm_aload hX d_F_gather_94 rfl rfl ?_
        refine fm_iload hX d_F_gather_96 rfl rfl ?_
        refine fm_callV_r (as := [.inr (kC m), .inl (nI i)]) (st := []) (pq := 101) hX (s_F (by omega)) rfl cF_63 rfl im_F_apply se_F_apply hcl rfl rfl (Nat.le_of_ble_eq_true rfl) (Nat.le_of_ble_eq_true rfl) d_F_gather_98 rfl (fun M98 c98 => ?_)
        have hP98 := cS_P hm c98 hP3
        refine fm_iinc (v := nI (i + 1)) (ls1 := [some (.inr (kF m)), some (.inr 1), some (.inr 2), some (.inl (nI m)), some (.inr (kC m)), some (.inl (nI t)), some (.inl (nI (i + 1)))]) hX d_F_gather_101 rfl (nI_add _ _) (by decide) rfl rfl ?_
        refine fm_goto (tgt := 58) hX d_F_gather_104 rfl ?_
        exact ih (by omega) _ (cS_tr hc (cS_eq c98 (by rw [hc.1]; rfl)))
      · show fm_G SC Y_F_gather X M (fm_vr (fun M' => ∃ σ, an_is1 P (fun n => if n = m then σ else S n) m ∧ cOK P (fun n => if n = m then σ else S n) m M' ∧ ∀ a j, ¬ cFa m a → M' a j = M a j)) 81 [some (.inr (kF m)), some (.inr 1), some (.inr 2), some (.inl (nI m)), some (.inr (kC m)), some (.inl (nI t)), some (.inl (nI i))] [] M3
        refine fm_aload_n hX d_F_gather_81 rfl rfl rfl ?_
        refine fm_aload_n hX d_F_gather_82 rfl rfl rfl ?_
        refine fm_aload_n hX d_F_gather_83 rfl rfl rfl ?_
        refine fm_iload_n hX d_F_gather_84 rfl rfl rfl ?_
        refine fm_iload hX d_F_gather_85 rfl rfl ?_
        refine fm_callV_r (as := [.inr 1, .inr 2, .inl (nI m), .inl (nI i)]) (st := []) (pq := 90) hX (s_F (by omega)) rfl cF_59 rfl im_F_applyCall se_F_applyCall (k_F_applyCall (by omega) M3 hP3 hw (i := i) (by omega) h78 hE3) rfl rfl (Nat.le_of_ble_eq_true rfl) (Nat.le_of_ble_eq_true rfl) d_F_gather_87 rfl (fun M87 c87 => ?_)
        have hP87 := cS_P hm c87 hP3
        refine fm_goto (tgt := 101) hX d_F_gather_90 rfl ?_
        refine fm_iinc (v := nI (i + 1)) (ls1 := [some (.inr (kF m)), some (.inr 1), some (.inr 2), some (.inl (nI m)), some (.inr (kC m)), some (.inl (nI t)), some (.inl (nI (i + 1)))]) hX d_F_gather_101 rfl (nI_add _ _) (by decide) rfl rfl ?_
        refine fm_goto (tgt := 58) hX d_F_gather_104 rfl ?_
        exact ih (by omega) _ (cS_tr hc (cS_eq c87 (by rw [hc.1]; show _ = cF P m _ i _; simp [cF, an_st, h78])))
  have L35 : P.1 m ≠ 0 → ∀ t, t ≤ 2000 → ∀ M1, cG P m (an_env P m S) M t M1 → fm_G SC Y_F_gather X M (fm_vr (fun M' => ∃ σ, an_is1 P (fun n => if n = m then σ else S n) m ∧ cOK P (fun n => if n = m then σ else S n) m M' ∧ ∀ a j, ¬ cFa m a → M' a j = M a j)) 35 [some (.inr (kF m)), some (.inr 1), some (.inr 2), some (.inl (nI m)), some (.inr (kC m)), some (.inl (nI t)), none] [] M1 := by
    intro hn
    refine fm_ind 2000 (fun t hle ih => ?_)
    intro M1 hG
    have hP1 : cP M1 P := cP_cg hP (fun a j q => hG.1 a j (by obtain ⟨n, t, h1, h2, e⟩ := q; unfold cFa; omega))
    obtain ⟨g, hg, -, -⟩ := hG.2.2.2
    refine fm_iload hX d_F_gather_35 rfl rfl ?_
    refine fm_sipush (v := nI 2000) hX d_F_gather_37 (by decide) rfl ?_
    refine fm_n_ge (tgt := 113) (pq := 43) hX d_F_gather_40 rfl rfl (by omega) (by omega) (fun h40 => ?_) (fun h40 => ?_)
    · show fm_G SC Y_F_gather X M (fm_vr (fun M' => ∃ σ, an_is1 P (fun n => if n = m then σ else S n) m ∧ cOK P (fun n => if n = m then σ else S n) m M' ∧ ∀ a j, ¬ cFa m a → M' a j = M a j)) 113 [some (.inr (kF m)), some (.inr 1), some (.inr 2), some (.inl (nI m)), some (.inr (kC m)), some (.inl (nI t)), none] [] M1
      refine fm_aload_n hX d_F_gather_113 rfl rfl rfl ?_
      refine fm_aload hX d_F_gather_114 rfl rfl ?_
      refine fm_geti (v := nI (P.2.1 m)) hX fF_49 (s_C (by omega)) rfl (hP1 m (by omega)).2.1 d_F_gather_116 rfl ?_
      refine fm_callV_r (as := [.inl (nI (P.2.1 m))]) (st := []) (pq := 122) hX (s_F (by omega)) rfl cF_67 rfl im_F_sumUp se_F_sumUp (k_F_sumUp (by omega) M1 hG.2.1 (k := P.2.1 m) (by omega)) rfl rfl (Nat.le_of_ble_eq_true rfl) (Nat.le_of_ble_eq_true rfl) d_F_gather_119 rfl (fun M119 c119 => ?_)
      refine fm_vret hX rfl d_F_gather_122 ?_
      exact ⟨rfl, cG_e hn hG (by first | exact Or.inl h40 | exact Or.inr (by rw [hg, h47])) c119⟩
    · show fm_G SC Y_F_gather X M (fm_vr (fun M' => ∃ σ, an_is1 P (fun n => if n = m then σ else S n) m ∧ cOK P (fun n => if n = m then σ else S n) m M' ∧ ∀ a j, ¬ cFa m a → M' a j = M a j)) 43 [some (.inr (kF m)), some (.inr 1), some (.inr 2), some (.inl (nI m)), some (.inr (kC m)), some (.inl (nI t)), none] [] M1
      refine fm_aload_n hX d_F_gather_43 rfl rfl rfl ?_
      refine fm_geti (v := bI g) hX fF_37 (s_F (by omega)) rfl hg d_F_gather_44 rfl ?_
      refine fm_b1_eq (tgt := 113) (pq := 50) hX d_F_gather_47 rfl rfl (fun h47 => ?_) (fun h47 => ?_)
      · show fm_G SC Y_F_gather X M (fm_vr (fun M' => ∃ σ, an_is1 P (fun n => if n = m then σ else S n) m ∧ cOK P (fun n => if n = m then σ else S n) m M' ∧ ∀ a j, ¬ cFa m a → M' a j = M a j)) 113 [some (.inr (kF m)), some (.inr 1), some (.inr 2), some (.inl (nI m)), some (.inr (kC m)), some (.inl (nI t)), none] [] M1
        refine fm_aload_n hX d_F_gather_113 rfl rfl rfl ?_
        refine fm_aload hX d_F_gather_114 rfl rfl ?_
        refine fm_geti (v := nI (P.2.1 m)) hX fF_49 (s_C (by omega)) rfl (hP1 m (by omega)).2.1 d_F_gather_116 rfl ?_
        refine fm_callV_r (as := [.inl (nI (P.2.1 m))]) (st := []) (pq := 122) hX (s_F (by omega)) rfl cF_67 rfl im_F_sumUp se_F_sumUp (k_F_sumUp (by omega) M1 hG.2.1 (k := P.2.1 m) (by omega)) rfl rfl (Nat.le_of_ble_eq_true rfl) (Nat.le_of_ble_eq_true rfl) d_F_gather_119 rfl (fun M119 c119 => ?_)
        refine fm_vret hX rfl d_F_gather_122 ?_
        exact ⟨rfl, cG_e hn hG (by first | exact Or.inl h40 | exact Or.inr (by rw [hg, h47])) c119⟩
      · show fm_G SC Y_F_gather X M (fm_vr (fun M' => ∃ σ, an_is1 P (fun n => if n = m then σ else S n) m ∧ cOK P (fun n => if n = m then σ else S n) m M' ∧ ∀ a j, ¬ cFa m a → M' a j = M a j)) 50 [some (.inr (kF m)), some (.inr 1), some (.inr 2), some (.inl (nI m)), some (.inr (kC m)), some (.inl (nI t)), none] [] M1
        refine fm_aload_n hX d_F_gather_50 rfl rfl rfl ?_
        refine fm_iconst (v := nI 0) hX d_F_gather_51 (by decide) rfl ?_
        refine fm_puti hX fF_37 pF_7 (s_F (by omega)) rfl (by decide) (by decide) d_F_gather_52 rfl ?_
        refine fm_iconst (v := nI 0) hX d_F_gather_55 (by decide) rfl ?_
        refine fm_istore (ls1 := [some (.inr (kF m)), some (.inr 1), some (.inr 2), some (.inl (nI m)), some (.inr (kC m)), some (.inl (nI t)), some (.inl (nI 0))]) hX d_F_gather_56 (by decide) rfl rfl ?_
        refine L58 t _ (cP_up hP1 (fun n t _ _ => by show 21 + 15 * m ≠ _; omega)) (cE_7 hE hG) (fun M3 hc => ?_) 0 (by omega) _ (cS_rf _ _)
        show fm_G SC Y_F_gather X M (fm_vr (fun M' => ∃ σ, an_is1 P (fun n => if n = m then σ else S n) m ∧ cOK P (fun n => if n = m then σ else S n) m M' ∧ ∀ a j, ¬ cFa m a → M' a j = M a j)) 107 [some (.inr (kF m)), some (.inr 1), some (.inr 2), some (.inl (nI m)), some (.inr (kC m)), some (.inl (nI t)), none] [] M3
        refine fm_iinc (v := nI (t + 1)) (ls1 := [some (.inr (kF m)), some (.inr 1), some (.inr 2), some (.inl (nI m)), some (.inr (kC m)), some (.inl (nI (t + 1))), none]) hX d_F_gather_107 rfl (nI_add _ _) (by decide) rfl rfl ?_
        refine fm_goto (tgt := 35) hX d_F_gather_110 rfl ?_
        exact ih (by omega) _ (cG_n hw hm hG (by rw [hg, h47]) hc)
  show fm_G SC Y_F_gather X M (fm_vr (fun M' => ∃ σ, an_is1 P (fun n => if n = m then σ else S n) m ∧ cOK P (fun n => if n = m then σ else S n) m M' ∧ ∀ a j, ¬ cFa m a → M' a j = M a j)) 0 [some (.inr (kF m)), some (.inr 1), some (.inr 2), some (.inl (nI m)), none, none, none] [] M
  refine fm_aload_n hX d_F_gather_0 rfl rfl rfl ?_
  refine fm_callV_v (as := []) (st := []) (pq := 4) hX (s_F (by omega)) rfl cF_41 rfl im_F_forget se_F_forget (k_F_forget (by omega) M) rfl rfl (Nat.le_of_ble_eq_true rfl) (Nat.le_of_ble_eq_true rfl) d_F_gather_1 rfl ?_
  have hPz : cP (cZ M m) P := cP_cg hP (fun a j q => cZ_o (by obtain ⟨n, t, h1, h2, e⟩ := q; unfold cFa; omega))
  refine fm_aload_n hX d_F_gather_4 rfl rfl rfl ?_
  refine fm_iload_n hX d_F_gather_5 rfl rfl rfl ?_
  refine fm_aald (q := kC m) hX rfl (by decide) rfl rfl rfl (by omega) (by decide) (r_C (by omega)) d_F_gather_6 rfl ?_
  refine fm_astore (ls1 := [some (.inr (kF m)), some (.inr 1), some (.inr 2), some (.inl (nI m)), some (.inr (kC m)), none, none]) hX d_F_gather_7 (by decide) rfl rfl ?_
  refine fm_aload hX d_F_gather_9 rfl rfl ?_
  refine fm_geti (v := nI (P.1 m)) hX fF_44 (s_C (by omega)) rfl (hPz m (by omega)).1 d_F_gather_11 rfl ?_
  refine fm_z_ne (tgt := 18) (pq := 17) hX d_F_gather_14 rfl rfl (by omega) (fun h14 => ?_) (fun h14 => ?_)
  · show fm_G SC Y_F_gather X M (fm_vr (fun M' => ∃ σ, an_is1 P (fun n => if n = m then σ else S n) m ∧ cOK P (fun n => if n = m then σ else S n) m M' ∧ ∀ a j, ¬ cFa m a → M' a j = M a j)) 18 [some (.inr (kF m)), some (.inr 1), some (.inr 2), some (.inl (nI m)), some (.inr (kC m)), none, none] [] (cZ M m)
    refine fm_aload_n hX d_F_gather_18 rfl rfl rfl ?_
    refine fm_aload hX d_F_gather_19 rfl rfl ?_
    refine fm_geti (v := nI (P.2.1 m)) hX fF_49 (s_C (by omega)) rfl (hPz m (by omega)).2.1 d_F_gather_21 rfl ?_
    refine fm_callV_r (as := [.inl (nI (P.2.1 m))]) (st := []) (pq := 27) hX (s_F (by omega)) rfl cF_52 rfl im_F_begin se_F_begin (k_F_begin (by omega) (cZ M m) (cZ_A M m) (k := P.2.1 m) (by omega)) rfl rfl (Nat.le_of_ble_eq_true rfl) (Nat.le_of_ble_eq_true rfl) d_F_gather_24 rfl (fun M24 c24 => ?_)
    have hP24 := cS_P hm c24 hPz
    refine fm_aload_n hX d_F_gather_27 rfl rfl rfl ?_
    refine fm_iconst (v := nI 1) hX d_F_gather_28 (by decide) rfl ?_
    refine fm_puti hX fF_37 pF_7 (s_F (by omega)) rfl (by decide) (by decide) d_F_gather_29 rfl ?_
    refine fm_iconst (v := nI 0) hX d_F_gather_32 (by decide) rfl ?_
    refine fm_istore (ls1 := [some (.inr (kF m)), some (.inr 1), some (.inr 2), some (.inl (nI m)), some (.inr (kC m)), some (.inl (nI 0)), none]) hX d_F_gather_33 (by decide) rfl rfl ?_
    exact L35 h14 0 (by omega) _ (cG_0 c24)
  · show fm_G SC Y_F_gather X M (fm_vr (fun M' => ∃ σ, an_is1 P (fun n => if n = m then σ else S n) m ∧ cOK P (fun n => if n = m then σ else S n) m M' ∧ ∀ a j, ¬ cFa m a → M' a j = M a j)) 17 [some (.inr (kF m)), some (.inr 1), some (.inr 2), some (.inl (nI m)), some (.inr (kC m)), none, none] [] (cZ M m)
    refine fm_vret hX rfl d_F_gather_17 ?_
    exact ⟨rfl, cZ_end h14⟩
