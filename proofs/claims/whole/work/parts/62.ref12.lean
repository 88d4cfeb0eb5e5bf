/-! The reference: fateOf (written by program) -/
theorem rEs_cg {P : pr_T} {M M1 : fm_M} {m : Nat} (h : fr12 M M1) : rEs P M1 m = rEs P M m := by
  unfold rEs
  rw [fr12_A h m]
abbrev Y_R_fateOf : fm_Y := ("EscapeMillModel", b_R_fateOf, 6, (some .int), 6)
set_option maxRecDepth 100000 in
set_option maxHeartbeats 4000000 in
theorem k_R_fateOf {P : pr_T} {m : Nat} (hm : m < 5) (M : fm_M) (hP : rP M P) (hw : pr_wf P) {i : Nat} (hi : i < P.1 m) : fm_ct SR y_R_fateOf b_R_fateOf 6 (some .int) 6 [.inr 0, .inl (nI m), .inl (nI i)] M (fm_ir (fun v M' => fa_is P m (rEs P M m) i v ∧ fr12 M M')) := by
  refine fm_of (ls := [some (.inr 0), some (.inl (nI m)), some (.inl (nI i)), none, none, none]) (by decide) wsA_good (Nat.le_of_ble_eq_true rfl) rfl (fun X hX => ?_)
  obtain ⟨wl, wi, wI⟩ := hw m hm
  obtain ⟨w1, w2, w3, w4, w5, w6⟩ := wI i hi
  clear w6
  have L80 : ¬ fa_A P m i → ∀ j, j ≤ P.1 m → ∀ M1, fr12 M M1 → (∀ l, l < j → ¬ (fa_pr P m (rEs P M m) i l ∨ fa_pr P m (rEs P M m) l i)) → fm_G SR Y_R_fateOf X M (fm_ir (fun v M' => fa_is P m (rEs P M m) i v ∧ fr12 M M')) 80 [some (.inr 0), some (.inl (nI m)), some (.inl (nI i)), some (.inl (nI (24 * m + i))), some (.inl (nI j)), none] [] M1 := by
    intro hA
    refine fm_ind (P.1 m) (fun j hle ih => ?_)
    intro M1 hf hs
    have hP1 := fr12_P hf hP
    refine fm_iload (pq := 82) hX d_R_fateOf_80 rfl rfl ?_
    refine fm_aload_n (pq := 83) hX d_R_fateOf_82 rfl rfl rfl ?_
    refine fm_getr (pq := 86) (q := 2) hX fR_13 rfl rfl d_R_fateOf_83 rfl ?_
    refine fm_iload_n (pq := 87) hX d_R_fateOf_86 rfl rfl rfl ?_
    refine fm_iald (pq := 88) (v := nI (P.1 m)) hX rfl rfl rfl (by omega) (by decide) (hP1 m (by omega)).1 d_R_fateOf_87 rfl ?_
    refine fm_n_ge (tgt := 145) (pq := 91) hX d_R_fateOf_88 rfl rfl (by omega) (by omega) (fun h88 => ?_) (fun h88 => ?_)
    · show fm_G SR Y_R_fateOf X M (fm_ir (fun v M' => fa_is P m (rEs P M m) i v ∧ fr12 M M')) 145 [some (.inr 0), some (.inl (nI m)), some (.inl (nI i)), some (.inl (nI (24 * m + i))), some (.inl (nI j)), none] [] M1
      refine fm_iconst (pq := 146) (v := nI 0) hX d_R_fateOf_145 (by decide) rfl ?_
      refine fm_iret hX rfl d_R_fateOf_146 ?_
      have hB : ¬ fa_B P m (rEs P M m) i := fun ⟨l, z⟩ => by
        have hl : l < P.1 m := z.elim (fun y => y.2.1) (fun y => Nat.lt_trans y.1 y.2.1)
        exact hs l (by omega) z
      exact ⟨_, rfl, ⟨fun z => absurd z hA, fun _ z => absurd z hB, fun _ _ => rfl⟩, hf⟩
    · show fm_G SR Y_R_fateOf X M (fm_ir (fun v M' => fa_is P m (rEs P M m) i v ∧ fr12 M M')) 91 [some (.inr 0), some (.inl (nI m)), some (.inl (nI i)), some (.inl (nI (24 * m + i))), some (.inl (nI j)), none] [] M1
      have L130 : ∀ (b : Bool) (M2 : fm_M), fr12 M M2 → (b = true ↔ (fa_pr P m (rEs P M m) i j ∨ fa_pr P m (rEs P M m) j i)) → fm_G SR Y_R_fateOf X M (fm_ir (fun v M' => fa_is P m (rEs P M m) i v ∧ fr12 M M')) 130 [some (.inr 0), some (.inl (nI m)), some (.inl (nI i)), some (.inl (nI (24 * m + i))), some (.inl (nI j)), none] [.inl (bI b)] M2 := by
        intro b130 M2 hf2 hb130
        have hP2 := fr12_P hf2 hP
        refine fm_istore (pq := 132) (ls1 := [some (.inr 0), some (.inl (nI m)), some (.inl (nI i)), some (.inl (nI (24 * m + i))), some (.inl (nI j)), some (.inl (bI b130))]) hX d_R_fateOf_130 (by decide) rfl rfl ?_
        refine fm_iload (pq := 134) hX d_R_fateOf_132 rfl rfl ?_
        refine fm_b1_eq (tgt := 139) (pq := 137) hX d_R_fateOf_134 rfl rfl (fun h134 => ?_) (fun h134 => ?_)
        · show fm_G SR Y_R_fateOf X M (fm_ir (fun v M' => fa_is P m (rEs P M m) i v ∧ fr12 M M')) 139 [some (.inr 0), some (.inl (nI m)), some (.inl (nI i)), some (.inl (nI (24 * m + i))), some (.inl (nI j)), some (.inl (bI b130))] [] M2
          refine fm_iinc (pq := 142) (v := nI (j + 1)) (ls1 := [some (.inr 0), some (.inl (nI m)), some (.inl (nI i)), some (.inl (nI (24 * m + i))), some (.inl (nI (j + 1))), some (.inl (bI b130))]) hX d_R_fateOf_139 rfl (nI_add _ _) (by decide) rfl rfl ?_
          refine fm_goto (tgt := 80) hX d_R_fateOf_142 rfl ?_
          refine fm_drop 5 (ls1 := [some (.inr 0), some (.inl (nI m)), some (.inl (nI i)), some (.inl (nI (24 * m + i))), some (.inl (nI (j + 1))), none]) rfl ?_
          exact ih (by omega) _ hf2 (lt_s hs (fun z => absurd (hb130.mpr z) (by rw [h134]; decide)))
        · show fm_G SR Y_R_fateOf X M (fm_ir (fun v M' => fa_is P m (rEs P M m) i v ∧ fr12 M M')) 137 [some (.inr 0), some (.inl (nI m)), some (.inl (nI i)), some (.inl (nI (24 * m + i))), some (.inl (nI j)), some (.inl (bI b130))] [] M2
          refine fm_iconst (pq := 138) (v := nI 2) hX d_R_fateOf_137 (by decide) rfl ?_
          refine fm_iret hX rfl d_R_fateOf_138 ?_
          have hB : fa_B P m (rEs P M m) i := ⟨j, hb130.mp h134⟩
          exact ⟨_, rfl, ⟨fun z => absurd z hA, fun _ _ => rfl, fun _ z => absurd hB z⟩, hf2⟩
      refine fm_iload (pq := 93) hX d_R_fateOf_91 rfl rfl ?_
      refine fm_iload_n (pq := 94) hX d_R_fateOf_93 rfl rfl rfl ?_
      refine fm_n_le (tgt := 108) (pq := 97) hX d_R_fateOf_94 rfl rfl (by omega) (by omega) (fun h94 => ?_) (fun h94 => ?_)
      · show fm_G SR Y_R_fateOf X M (fm_ir (fun v M' => fa_is P m (rEs P M m) i v ∧ fr12 M M')) 108 [some (.inr 0), some (.inl (nI m)), some (.inl (nI i)), some (.inl (nI (24 * m + i))), some (.inl (nI j)), none] [] M1
        refine fm_iload (pq := 110) hX d_R_fateOf_108 rfl rfl ?_
        refine fm_iload_n (pq := 111) hX d_R_fateOf_110 rfl rfl rfl ?_
        refine fm_n_ge (tgt := 129) (pq := 114) hX d_R_fateOf_111 rfl rfl (by omega) (by omega) (fun h111 => ?_) (fun h111 => ?_)
        · show fm_G SR Y_R_fateOf X M (fm_ir (fun v M' => fa_is P m (rEs P M m) i v ∧ fr12 M M')) 129 [some (.inr 0), some (.inl (nI m)), some (.inl (nI i)), some (.inl (nI (24 * m + i))), some (.inl (nI j)), none] [] M1
          refine fm_iconst (pq := 130) (v := nI 0) hX d_R_fateOf_129 (by decide) rfl ?_
          exact L130 false M1 hf ⟨fun z => absurd z (by decide), fun z => z.elim (fun y => absurd y.1 (by omega)) (fun y => absurd y.1 (by omega))⟩
        · show fm_G SR Y_R_fateOf X M (fm_ir (fun v M' => fa_is P m (rEs P M m) i v ∧ fr12 M M')) 114 [some (.inr 0), some (.inl (nI m)), some (.inl (nI i)), some (.inl (nI (24 * m + i))), some (.inl (nI j)), none] [] M1
          refine fm_aload_n (pq := 115) hX d_R_fateOf_114 rfl rfl rfl ?_
          refine fm_iload_n (pq := 116) hX d_R_fateOf_115 rfl rfl rfl ?_
          refine fm_iload (pq := 118) hX d_R_fateOf_116 rfl rfl ?_
          refine fm_iload_n (pq := 119) hX d_R_fateOf_118 rfl rfl rfl ?_
          refine fm_callV_y (as := [.inl (nI m), .inl (nI j), .inl (nI i)]) (st := []) (pq := 122) hX rfl rfl cR_154 rfl im_R_pair se_R_pair (k_R_pair (m := m) (by omega) M1 hP1 hw (i := j) (j := i) (by omega) (by omega)) rfl rfl (Nat.le_of_ble_eq_true rfl) (Nat.le_of_ble_eq_true rfl) d_R_fateOf_119 rfl (fun b119 M119 c119 => ?_)
          have hP119 := fr12_P c119.2 hP1
          rw [rEs_cg hf] at c119
          refine fm_b1_eq (tgt := 129) (pq := 125) hX d_R_fateOf_122 rfl rfl (fun h122 => ?_) (fun h122 => ?_)
          · show fm_G SR Y_R_fateOf X M (fm_ir (fun v M' => fa_is P m (rEs P M m) i v ∧ fr12 M M')) 129 [some (.inr 0), some (.inl (nI m)), some (.inl (nI i)), some (.inl (nI (24 * m + i))), some (.inl (nI j)), none] [] M119
            refine fm_iconst (pq := 130) (v := nI 0) hX d_R_fateOf_129 (by decide) rfl ?_
            first
            | exact L130 true M119 (by first | exact fr12_tr hf c119.2 | exact fr12_tr (fr12_tr hf c102.2) c119.2) ⟨fun _ => Or.inr (c119.1.mp h122), fun _ => rfl⟩
            | exact L130 false M119 (by first | exact fr12_tr hf c119.2 | exact fr12_tr (fr12_tr hf c102.2) c119.2) ⟨fun z => absurd z (by decide), fun z => z.elim (fun y => absurd y.1 (by omega)) (fun y => absurd (c119.1.mpr y) (by rw [h122]; decide))⟩
          · show fm_G SR Y_R_fateOf X M (fm_ir (fun v M' => fa_is P m (rEs P M m) i v ∧ fr12 M M')) 125 [some (.inr 0), some (.inl (nI m)), some (.inl (nI i)), some (.inl (nI (24 * m + i))), some (.inl (nI j)), none] [] M119
            refine fm_iconst (pq := 126) (v := nI 1) hX d_R_fateOf_125 (by decide) rfl ?_
            refine fm_goto (tgt := 130) hX d_R_fateOf_126 rfl ?_
            first
            | exact L130 true M119 (by first | exact fr12_tr hf c119.2 | exact fr12_tr (fr12_tr hf c102.2) c119.2) ⟨fun _ => Or.inr (c119.1.mp h122), fun _ => rfl⟩
            | exact L130 false M119 (by first | exact fr12_tr hf c119.2 | exact fr12_tr (fr12_tr hf c102.2) c119.2) ⟨fun z => absurd z (by decide), fun z => z.elim (fun y => absurd y.1 (by omega)) (fun y => absurd (c119.1.mpr y) (by rw [h122]; decide))⟩
      · show fm_G SR Y_R_fateOf X M (fm_ir (fun v M' => fa_is P m (rEs P M m) i v ∧ fr12 M M')) 97 [some (.inr 0), some (.inl (nI m)), some (.inl (nI i)), some (.inl (nI (24 * m + i))), some (.inl (nI j)), none] [] M1
        refine fm_aload_n (pq := 98) hX d_R_fateOf_97 rfl rfl rfl ?_
        refine fm_iload_n (pq := 99) hX d_R_fateOf_98 rfl rfl rfl ?_
        refine fm_iload_n (pq := 100) hX d_R_fateOf_99 rfl rfl rfl ?_
        refine fm_iload (pq := 102) hX d_R_fateOf_100 rfl rfl ?_
        refine fm_callV_y (as := [.inl (nI m), .inl (nI i), .inl (nI j)]) (st := []) (pq := 105) hX rfl rfl cR_154 rfl im_R_pair se_R_pair (k_R_pair (m := m) (by omega) M1 hP1 hw (i := i) (j := j) (by omega) (by omega)) rfl rfl (Nat.le_of_ble_eq_true rfl) (Nat.le_of_ble_eq_true rfl) d_R_fateOf_102 rfl (fun b102 M102 c102 => ?_)
        have hP102 := fr12_P c102.2 hP1
        rw [rEs_cg hf] at c102
        refine fm_b1_ne (tgt := 125) (pq := 108) hX d_R_fateOf_105 rfl rfl (fun h105 => ?_) (fun h105 => ?_)
        · show fm_G SR Y_R_fateOf X M (fm_ir (fun v M' => fa_is P m (rEs P M m) i v ∧ fr12 M M')) 125 [some (.inr 0), some (.inl (nI m)), some (.inl (nI i)), some (.inl (nI (24 * m + i))), some (.inl (nI j)), none] [] M102
          refine fm_iconst (pq := 126) (v := nI 1) hX d_R_fateOf_125 (by decide) rfl ?_
          refine fm_goto (tgt := 130) hX d_R_fateOf_126 rfl ?_
          first
          | exact L130 true M102 (fr12_tr hf c102.2) ⟨fun _ => Or.inl (c102.1.mp h105), fun _ => rfl⟩
          | exact L130 false M102 (fr12_tr hf c102.2) ⟨fun z => absurd z (by decide), fun z => z.elim (fun y => absurd (c102.1.mpr y) (by rw [h105]; decide)) (fun y => absurd y.1 (by omega))⟩
        · show fm_G SR Y_R_fateOf X M (fm_ir (fun v M' => fa_is P m (rEs P M m) i v ∧ fr12 M M')) 108 [some (.inr 0), some (.inl (nI m)), some (.inl (nI i)), some (.inl (nI (24 * m + i))), some (.inl (nI j)), none] [] M102
          refine fm_iload (pq := 110) hX d_R_fateOf_108 rfl rfl ?_
          refine fm_iload_n (pq := 111) hX d_R_fateOf_110 rfl rfl rfl ?_
          refine fm_n_ge (tgt := 129) (pq := 114) hX d_R_fateOf_111 rfl rfl (by omega) (by omega) (fun h111 => ?_) (fun h111 => ?_)
          · show fm_G SR Y_R_fateOf X M (fm_ir (fun v M' => fa_is P m (rEs P M m) i v ∧ fr12 M M')) 129 [some (.inr 0), some (.inl (nI m)), some (.inl (nI i)), some (.inl (nI (24 * m + i))), some (.inl (nI j)), none] [] M102
            refine fm_iconst (pq := 130) (v := nI 0) hX d_R_fateOf_129 (by decide) rfl ?_
            first
            | exact L130 true M102 (fr12_tr hf c102.2) ⟨fun _ => Or.inl (c102.1.mp h105), fun _ => rfl⟩
            | exact L130 false M102 (fr12_tr hf c102.2) ⟨fun z => absurd z (by decide), fun z => z.elim (fun y => absurd (c102.1.mpr y) (by rw [h105]; decide)) (fun y => absurd y.1 (by omega))⟩
          · show fm_G SR Y_R_fateOf X M (fm_ir (fun v M' => fa_is P m (rEs P M m) i v ∧ fr12 M M')) 114 [some (.inr 0), some (.inl (nI m)), some (.inl (nI i)), some (.inl (nI (24 * m + i))), some (.inl (nI j)), none] [] M102
            refine fm_aload_n (pq := 115) hX d_R_fateOf_114 rfl rfl rfl ?_
            refine fm_iload_n (pq := 116) hX d_R_fateOf_115 rfl rfl rfl ?_
            refine fm_iload (pq := 118) hX d_R_fateOf_116 rfl rfl ?_
            refine fm_iload_n (pq := 119) hX d_R_fateOf_118 rfl rfl rfl ?_
            refine fm_callV_y (as := [.inl (nI m), .inl (nI j), .inl (nI i)]) (st := []) (pq := 122) hX rfl rfl cR_154 rfl im_R_pair se_R_pair (k_R_pair (m := m) (by omega) M102 hP102 hw (i := j) (j := i) (by omega) (by omega)) rfl rfl (Nat.le_of_ble_eq_true rfl) (Nat.le_of_ble_eq_true rfl) d_R_fateOf_119 rfl (fun b119 M119 c119 => ?_)
            have hP119 := fr12_P c119.2 hP102
            rw [rEs_cg (fr12_tr hf c102.2)] at c119
            refine fm_b1_eq (tgt := 129) (pq := 125) hX d_R_fateOf_122 rfl rfl (fun h122 => ?_) (fun h122 => ?_)
            · show fm_G SR Y_R_fateOf X M (fm_ir (fun v M' => fa_is P m (rEs P M m) i v ∧ fr12 M M')) 129 [some (.inr 0), some (.inl (nI m)), some (.inl (nI i)), some (.inl (nI (24 * m + i))), some (.inl (nI j)), none] [] M119
              refine fm_iconst (pq := 130) (v := nI 0) hX d_R_fateOf_129 (by decide) rfl ?_
              first
              | exact L130 true M119 (by first | exact fr12_tr hf c119.2 | exact fr12_tr (fr12_tr hf c102.2) c119.2) ⟨fun _ => Or.inr (c119.1.mp h122), fun _ => rfl⟩
              | exact L130 false M119 (by first | exact fr12_tr hf c119.2 | exact fr12_tr (fr12_tr hf c102.2) c119.2) ⟨fun z => absurd z (by decide), fun z => z.elim (fun y => absurd y.1 (by omega)) (fun y => absurd (c119.1.mpr y) (by rw [h122]; decide))⟩
            · show fm_G SR Y_R_fateOf X M (fm_ir (fun v M' => fa_is P m (rEs P M m) i v ∧ fr12 M M')) 125 [some (.inr 0), some (.inl (nI m)), some (.inl (nI i)), some (.inl (nI (24 * m + i))), some (.inl (nI j)), none] [] M119
              refine fm_iconst (pq := 126) (v := nI 1) hX d_R_fateOf_125 (by decide) rfl ?_
              refine fm_goto (tgt := 130) hX d_R_fateOf_126 rfl ?_
              first
              | exact L130 true M119 (by first | exact fr12_tr hf c119.2 | exact fr12_tr (fr12_tr hf c102.2) c119.2) ⟨fun _ => Or.inr (c119.1.mp h122), fun _ => rfl⟩
              | exact L130 false M119 (by first | exact fr12_tr hf c119.2 | exact fr12_tr (fr12_tr hf c102.2) c119.2) ⟨fun z => absurd z (by decide), fun z => z.elim (fun y => absurd y.1 (by omega)) (fun y => absurd (c119.1.mpr y) (by rw [h122]; decide))⟩
  have L10 : ∀ r, r ≤ 4 → ∀ M1, fr12 M M1 → (∀ s, s < r → ¬ (fa_its (P.2.2 m i) s ∧ ∃ k, fa_ap P m s k)) → fm_G SR Y_R_fateOf X M (fm_ir (fun v M' => fa_is P m (rEs P M m) i v ∧ fr12 M M')) 10 [some (.inr 0), some (.inl (nI m)), some (.inl (nI i)), some (.inl (nI (24 * m + i))), some (.inl (nI r)), none] [] M1 := by
    refine fm_ind 4 (fun r hle ih => ?_)
    intro M1 hf hs
    have hP1 := fr12_P hf hP
    refine fm_iload (pq := 12) hX d_R_fateOf_10 rfl rfl ?_
    refine fm_iconst (pq := 13) (v := nI 4) hX d_R_fateOf_12 (by decide) rfl ?_
    refine fm_n_ge (tgt := 77) (pq := 16) hX d_R_fateOf_13 rfl rfl (by omega) (by omega) (fun h13 => ?_) (fun h13 => ?_)
    · show fm_G SR Y_R_fateOf X M (fm_ir (fun v M' => fa_is P m (rEs P M m) i v ∧ fr12 M M')) 77 [some (.inr 0), some (.inl (nI m)), some (.inl (nI i)), some (.inl (nI (24 * m + i))), some (.inl (nI r)), none] [] M1
      refine fm_iconst (pq := 78) (v := nI 0) hX d_R_fateOf_77 (by decide) rfl ?_
      refine fm_istore (pq := 80) (ls1 := [some (.inr 0), some (.inl (nI m)), some (.inl (nI i)), some (.inl (nI (24 * m + i))), some (.inl (nI 0)), none]) hX d_R_fateOf_78 (by decide) rfl rfl ?_
      exact L80 (fun z => by
        obtain ⟨s, h1, h2⟩ := (fa_A_its hw hm hi).mp z
        exact hs s (by omega) h2) 0 (by omega) M1 hf (fun l hl => absurd hl (by omega))
    · show fm_G SR Y_R_fateOf X M (fm_ir (fun v M' => fa_is P m (rEs P M m) i v ∧ fr12 M M')) 16 [some (.inr 0), some (.inl (nI m)), some (.inl (nI i)), some (.inl (nI (24 * m + i))), some (.inl (nI r)), none] [] M1
      have L52 : ∀ b : Bool, (b = true ↔ fa_its (P.2.2 m i) r) → fm_G SR Y_R_fateOf X M (fm_ir (fun v M' => fa_is P m (rEs P M m) i v ∧ fr12 M M')) 52 [some (.inr 0), some (.inl (nI m)), some (.inl (nI i)), some (.inl (nI (24 * m + i))), some (.inl (nI r)), none] [.inl (bI b)] M1 := by
        intro b52 hb52
        refine fm_istore (pq := 54) (ls1 := [some (.inr 0), some (.inl (nI m)), some (.inl (nI i)), some (.inl (nI (24 * m + i))), some (.inl (nI r)), some (.inl (bI b52))]) hX d_R_fateOf_52 (by decide) rfl rfl ?_
        refine fm_iload (pq := 56) hX d_R_fateOf_54 rfl rfl ?_
        refine fm_b1_eq (tgt := 71) (pq := 59) hX d_R_fateOf_56 rfl rfl (fun h56 => ?_) (fun h56 => ?_)
        · show fm_G SR Y_R_fateOf X M (fm_ir (fun v M' => fa_is P m (rEs P M m) i v ∧ fr12 M M')) 71 [some (.inr 0), some (.inl (nI m)), some (.inl (nI i)), some (.inl (nI (24 * m + i))), some (.inl (nI r)), some (.inl (bI b52))] [] M1
          refine fm_iinc (pq := 74) (v := nI (r + 1)) (ls1 := [some (.inr 0), some (.inl (nI m)), some (.inl (nI i)), some (.inl (nI (24 * m + i))), some (.inl (nI (r + 1))), some (.inl (bI b52))]) hX d_R_fateOf_71 rfl (nI_add _ _) (by decide) rfl rfl ?_
          refine fm_goto (tgt := 10) hX d_R_fateOf_74 rfl ?_
          refine fm_drop 5 (ls1 := [some (.inr 0), some (.inl (nI m)), some (.inl (nI i)), some (.inl (nI (24 * m + i))), some (.inl (nI (r + 1))), none]) rfl ?_
          exact ih (by omega) _ hf (lt_s hs (fun z => absurd (hb52.mpr z.1) (by rw [h56]; decide)))
        · show fm_G SR Y_R_fateOf X M (fm_ir (fun v M' => fa_is P m (rEs P M m) i v ∧ fr12 M M')) 59 [some (.inr 0), some (.inl (nI m)), some (.inl (nI i)), some (.inl (nI (24 * m + i))), some (.inl (nI r)), some (.inl (bI b52))] [] M1
          refine fm_aload_n (pq := 60) hX d_R_fateOf_59 rfl rfl rfl ?_
          refine fm_iload_n (pq := 61) hX d_R_fateOf_60 rfl rfl rfl ?_
          refine fm_iload (pq := 63) hX d_R_fateOf_61 rfl rfl ?_
          refine fm_callV_y (as := [.inl (nI m), .inl (nI r)]) (st := []) (pq := 66) hX rfl rfl cR_148 rfl im_R_apart se_R_apart (k_R_apart (m := m) (by omega) M1 hP1 hw (r := r) (by omega)) rfl rfl (Nat.le_of_ble_eq_true rfl) (Nat.le_of_ble_eq_true rfl) d_R_fateOf_63 rfl (fun b63 M63 c63 => ?_)
          have hP63 := fr12_P c63.2 hP1
          refine fm_b1_eq (tgt := 71) (pq := 69) hX d_R_fateOf_66 rfl rfl (fun h66 => ?_) (fun h66 => ?_)
          · show fm_G SR Y_R_fateOf X M (fm_ir (fun v M' => fa_is P m (rEs P M m) i v ∧ fr12 M M')) 71 [some (.inr 0), some (.inl (nI m)), some (.inl (nI i)), some (.inl (nI (24 * m + i))), some (.inl (nI r)), some (.inl (bI b52))] [] M63
            refine fm_iinc (pq := 74) (v := nI (r + 1)) (ls1 := [some (.inr 0), some (.inl (nI m)), some (.inl (nI i)), some (.inl (nI (24 * m + i))), some (.inl (nI (r + 1))), some (.inl (bI b52))]) hX d_R_fateOf_71 rfl (nI_add _ _) (by decide) rfl rfl ?_
            refine fm_goto (tgt := 10) hX d_R_fateOf_74 rfl ?_
            refine fm_drop 5 (ls1 := [some (.inr 0), some (.inl (nI m)), some (.inl (nI i)), some (.inl (nI (24 * m + i))), some (.inl (nI (r + 1))), none]) rfl ?_
            exact ih (by omega) _ (fr12_tr hf c63.2) (lt_s hs (fun z => absurd (c63.1.mpr z.2) (by rw [h66]; decide)))
          · show fm_G SR Y_R_fateOf X M (fm_ir (fun v M' => fa_is P m (rEs P M m) i v ∧ fr12 M M')) 69 [some (.inr 0), some (.inl (nI m)), some (.inl (nI i)), some (.inl (nI (24 * m + i))), some (.inl (nI r)), some (.inl (bI b52))] [] M63
            refine fm_iconst (pq := 70) (v := nI 1) hX d_R_fateOf_69 (by decide) rfl ?_
            refine fm_iret hX rfl d_R_fateOf_70 ?_
            have hA : fa_A P m i := (fa_A_its hw hm hi).mpr ⟨r, by omega, hb52.mp h56, c63.1.mp h66⟩
            exact ⟨_, rfl, ⟨fun _ => rfl, fun z => absurd hA z, fun z => absurd hA z⟩, fr12_tr hf c63.2⟩
      refine fm_aload_n (pq := 17) hX d_R_fateOf_16 rfl rfl rfl ?_
      refine fm_getr (pq := 20) (q := 3) hX fR_16 rfl rfl d_R_fateOf_17 rfl ?_
      refine fm_iload_n (pq := 21) hX d_R_fateOf_20 rfl rfl rfl ?_
      refine fm_iald (pq := 22) (v := nI ((P.2.2 m i).1)) hX rfl rfl rfl (by omega) (by decide) ((hP1 m (by omega)).2.2 i (by omega)).1 d_R_fateOf_21 rfl ?_
      refine fm_z_ne (tgt := 44) (pq := 25) hX d_R_fateOf_22 rfl rfl (by omega) (fun h22 => ?_) (fun h22 => ?_)
      · show fm_G SR Y_R_fateOf X M (fm_ir (fun v M' => fa_is P m (rEs P M m) i v ∧ fr12 M M')) 44 [some (.inr 0), some (.inl (nI m)), some (.inl (nI i)), some (.inl (nI (24 * m + i))), some (.inl (nI r)), none] [] M1
        refine fm_aload_n (pq := 45) hX d_R_fateOf_44 rfl rfl rfl ?_
        refine fm_iload_n (pq := 46) hX d_R_fateOf_45 rfl rfl rfl ?_
        refine fm_iload_n (pq := 47) hX d_R_fateOf_46 rfl rfl rfl ?_
        refine fm_iload (pq := 49) hX d_R_fateOf_47 rfl rfl ?_
        refine fm_callV_i (as := [.inl (nI m), .inl (nI i), .inl (nI r)]) (st := []) (pq := 52) hX rfl rfl cR_138 rfl im_R_worksOn se_R_worksOn (k_R_worksOn (m := m) (by omega) M1 hP1 hw (i := i) (by omega) (r := r) (by omega)) rfl rfl (Nat.le_of_ble_eq_true rfl) (Nat.le_of_ble_eq_true rfl) d_R_fateOf_49 rfl ?_
        exact L52 (decide (fa_wk (P.2.2 m i) r)) (by rw [decide_eq_true_eq]; unfold fa_its; rw [if_neg h22])
      · show fm_G SR Y_R_fateOf X M (fm_ir (fun v M' => fa_is P m (rEs P M m) i v ∧ fr12 M M')) 25 [some (.inr 0), some (.inl (nI m)), some (.inl (nI i)), some (.inl (nI (24 * m + i))), some (.inl (nI r)), none] [] M1
        refine fm_aload_n (pq := 26) hX d_R_fateOf_25 rfl rfl rfl ?_
        refine fm_getr (pq := 29) (q := 4) hX fR_19 rfl rfl d_R_fateOf_26 rfl ?_
        refine fm_iload_n (pq := 30) hX d_R_fateOf_29 rfl rfl rfl ?_
        refine fm_iald (pq := 31) (v := nI ((P.2.2 m i).2.1)) hX rfl rfl rfl (by omega) (by decide) ((hP1 m (by omega)).2.2 i (by omega)).2.1 d_R_fateOf_30 rfl ?_
        refine fm_iload (pq := 33) hX d_R_fateOf_31 rfl rfl ?_
        refine fm_n_ne (tgt := 40) (pq := 36) hX d_R_fateOf_33 rfl rfl (by omega) (by omega) (fun h33 => ?_) (fun h33 => ?_)
        · show fm_G SR Y_R_fateOf X M (fm_ir (fun v M' => fa_is P m (rEs P M m) i v ∧ fr12 M M')) 40 [some (.inr 0), some (.inl (nI m)), some (.inl (nI i)), some (.inl (nI (24 * m + i))), some (.inl (nI r)), none] [] M1
          refine fm_iconst (pq := 41) (v := nI 0) hX d_R_fateOf_40 (by decide) rfl ?_
          refine fm_goto (tgt := 52) hX d_R_fateOf_41 rfl ?_
          exact L52 false (by unfold fa_its; rw [if_pos h22]; exact ⟨fun z => absurd z (by decide), fun z => absurd z h33⟩)
        · show fm_G SR Y_R_fateOf X M (fm_ir (fun v M' => fa_is P m (rEs P M m) i v ∧ fr12 M M')) 36 [some (.inr 0), some (.inl (nI m)), some (.inl (nI i)), some (.inl (nI (24 * m + i))), some (.inl (nI r)), none] [] M1
          refine fm_iconst (pq := 37) (v := nI 1) hX d_R_fateOf_36 (by decide) rfl ?_
          refine fm_goto (tgt := 52) hX d_R_fateOf_37 rfl ?_
          exact L52 true (by unfold fa_its; rw [if_pos h22]; exact ⟨fun _ => h33, fun _ => rfl⟩)
  show fm_G SR Y_R_fateOf X M (fm_ir (fun v M' => fa_is P m (rEs P M m) i v ∧ fr12 M M')) 0 [some (.inr 0), some (.inl (nI m)), some (.inl (nI i)), none, none, none] [] M
  refine fm_bipush (pq := 2) (v := nI 24) hX d_R_fateOf_0 (by decide) rfl ?_
  refine fm_iload_n (pq := 3) hX d_R_fateOf_2 rfl rfl rfl ?_
  refine fm_imul (pq := 4) (v := nI (24 * m)) hX d_R_fateOf_3 (pk_mul _ _) rfl ?_
  refine fm_iload_n (pq := 5) hX d_R_fateOf_4 rfl rfl rfl ?_
  refine fm_iadd (pq := 6) (v := nI (24 * m + i)) hX d_R_fateOf_5 (nI_add _ _) rfl ?_
  refine fm_istore_n (pq := 7) (ls1 := [some (.inr 0), some (.inl (nI m)), some (.inl (nI i)), some (.inl (nI (24 * m + i))), none, none]) hX d_R_fateOf_6 rfl (by decide) rfl rfl ?_
  refine fm_iconst (pq := 8) (v := nI 0) hX d_R_fateOf_7 (by decide) rfl ?_
  refine fm_istore (pq := 10) (ls1 := [some (.inr 0), some (.inl (nI m)), some (.inl (nI i)), some (.inl (nI (24 * m + i))), some (.inl (nI 0)), none]) hX d_R_fateOf_8 (by decide) rfl rfl ?_
  exact L10 0 (by omega) M (fr12_rf M) (fun s h => absurd h (by omega))
