/-! The reference: dominates (written by program) -/
abbrev Y_R_dominates : fm_Y := ("EscapeMillModel", b_R_dominates, 9, (some .boolean), 3)
set_option maxRecDepth 100000 in
set_option maxHeartbeats 4000000 in
theorem k_R_dominates {P : pr_T} {m : Nat} (hm : m < 5) (M : fm_M) (hP : rP M P) (hw : pr_wf P) (h0 : 0 < P.1 m) {i j : Nat} (hi : i < 24) (hj : j < 24) : fm_ct SR y_R_dominates b_R_dominates 9 (some .boolean) 3 [.inr 0, .inl (nI m), .inl (nI i), .inl (nI j)] M (fm_xb (i = j ∨ ¬ dm_R (P.1 m) (P.2.2 m) i j) M) := by
  refine fm_of (ls := [some (.inr 0), some (.inl (nI m)), some (.inl (nI i)), some (.inl (nI j)), none, none, none, none, none]) (by decide) wsA_good (Nat.le_of_ble_eq_true rfl) rfl (fun X hX => ?_)
  obtain ⟨wl, wi, wI⟩ := hw m hm
  have L50 : ∀ (t : Nat) (o : Nat → Bool), (∀ M2, fr12 M M2 → (∀ q, q < 24 → M2 12 q = bI (dm_tn (P.1 m) (P.2.2 m) i o (P.1 m) q)) → fm_G SR Y_R_dominates X M (fm_xb (i = j ∨ ¬ dm_R (P.1 m) (P.2.2 m) i j) M) 197 [some (.inr 0), some (.inl (nI m)), some (.inl (nI i)), some (.inl (nI j)), some (.inl (nI t)), none, none, none, none] [] M2) → ∀ k, k ≤ P.1 m → ∀ M2, fr12 M M2 → (∀ q, q < 24 → M2 12 q = bI (dm_tn (P.1 m) (P.2.2 m) i o k q)) → fm_G SR Y_R_dominates X M (fm_xb (i = j ∨ ¬ dm_R (P.1 m) (P.2.2 m) i j) M) 50 [some (.inr 0), some (.inl (nI m)), some (.inl (nI i)), some (.inl (nI j)), some (.inl (nI t)), some (.inl (nI k)), none, none, none] [] M2 := by
    intro t o K
    refine fm_ind (P.1 m) (fun k hle ih => ?_)
    intro M2 hf ho
    have hP2 := fr12_P hf hP
    refine fm_iload (pq := 52) hX d_R_dominates_50 rfl rfl ?_
    refine fm_aload_n (pq := 53) hX d_R_dominates_52 rfl rfl rfl ?_
    refine fm_getr (pq := 56) (q := 2) hX fR_13 rfl rfl d_R_dominates_53 rfl ?_
    refine fm_iload_n (pq := 57) hX d_R_dominates_56 rfl rfl rfl ?_
    refine fm_iald (pq := 58) (v := nI (P.1 m)) hX rfl rfl rfl (by omega) (by decide) (hP2 m (by omega)).1 d_R_dominates_57 rfl ?_
    refine fm_n_ge (tgt := 197) (pq := 61) hX d_R_dominates_58 rfl rfl (by omega) (by omega) (fun h58 => ?_) (fun h58 => ?_)
    · show fm_G SR Y_R_dominates X M (fm_xb (i = j ∨ ¬ dm_R (P.1 m) (P.2.2 m) i j) M) 197 [some (.inr 0), some (.inl (nI m)), some (.inl (nI i)), some (.inl (nI j)), some (.inl (nI t)), some (.inl (nI k)), none, none, none] [] M2
      refine fm_drop 5 rfl ?_
      have e : k = P.1 m := by omega
      rw [e] at ho
      exact K M2 hf ho
    · show fm_G SR Y_R_dominates X M (fm_xb (i = j ∨ ¬ dm_R (P.1 m) (P.2.2 m) i j) M) 61 [some (.inr 0), some (.inl (nI m)), some (.inl (nI i)), some (.inl (nI j)), some (.inl (nI t)), some (.inl (nI k)), none, none, none] [] M2
      have w1 := (wI k (by omega)).1
      refine fm_aload_n (pq := 62) hX d_R_dominates_61 rfl rfl rfl ?_
      refine fm_getr (pq := 65) (q := 3) hX fR_16 rfl rfl d_R_dominates_62 rfl ?_
      refine fm_bipush (pq := 67) (v := nI 24) hX d_R_dominates_65 (by decide) rfl ?_
      refine fm_iload_n (pq := 68) hX d_R_dominates_67 rfl rfl rfl ?_
      refine fm_imul (pq := 69) (v := nI (24 * m)) hX d_R_dominates_68 (pk_mul _ _) rfl ?_
      refine fm_iload (pq := 71) hX d_R_dominates_69 rfl rfl ?_
      refine fm_iadd (pq := 72) (v := nI (24 * m + k)) hX d_R_dominates_71 (nI_add _ _) rfl ?_
      refine fm_iald (pq := 73) (v := nI ((P.2.2 m k).1)) hX rfl rfl rfl (by omega) (by decide) ((hP2 m (by omega)).2.2 k (by omega)).1 d_R_dominates_72 rfl ?_
      refine fm_istore (pq := 75) (ls1 := [some (.inr 0), some (.inl (nI m)), some (.inl (nI i)), some (.inl (nI j)), some (.inl (nI t)), some (.inl (nI k)), some (.inl (nI ((P.2.2 m k).1))), none, none]) hX d_R_dominates_73 (by decide) rfl rfl ?_
      refine fm_aload_n (pq := 76) hX d_R_dominates_75 rfl rfl rfl ?_
      refine fm_getr (pq := 79) (q := 7) hX fR_28 rfl rfl d_R_dominates_76 rfl ?_
      refine fm_bipush (pq := 81) (v := nI 24) hX d_R_dominates_79 (by decide) rfl ?_
      refine fm_iload_n (pq := 82) hX d_R_dominates_81 rfl rfl rfl ?_
      refine fm_imul (pq := 83) (v := nI (24 * m)) hX d_R_dominates_82 (pk_mul _ _) rfl ?_
      refine fm_iload (pq := 85) hX d_R_dominates_83 rfl rfl ?_
      refine fm_iadd (pq := 86) (v := nI (24 * m + k)) hX d_R_dominates_85 (nI_add _ _) rfl ?_
      refine fm_iald (pq := 87) (v := (P.2.2 m k).2.2.2.2) hX rfl rfl rfl (by omega) (by decide) ((hP2 m (by omega)).2.2 k (by omega)).2.2.2.2 d_R_dominates_86 rfl ?_
      refine fm_istore (pq := 89) (ls1 := [some (.inr 0), some (.inl (nI m)), some (.inl (nI i)), some (.inl (nI j)), some (.inl (nI t)), some (.inl (nI k)), some (.inl (nI ((P.2.2 m k).1))), some (.inl ((P.2.2 m k).2.2.2.2)), none]) hX d_R_dominates_87 (by decide) rfl rfl ?_
      have L110 : ∀ b : Bool, (b = true ↔ (dm_tn (P.1 m) (P.2.2 m) i o k k = true ∧ k ≠ i)) → fm_G SR Y_R_dominates X M (fm_xb (i = j ∨ ¬ dm_R (P.1 m) (P.2.2 m) i j) M) 110 [some (.inr 0), some (.inl (nI m)), some (.inl (nI i)), some (.inl (nI j)), some (.inl (nI t)), some (.inl (nI k)), some (.inl (nI ((P.2.2 m k).1))), some (.inl ((P.2.2 m k).2.2.2.2)), none] [.inl (bI b)] M2 := by
        intro b110 hb110
        refine fm_istore (pq := 112) (ls1 := [some (.inr 0), some (.inl (nI m)), some (.inl (nI i)), some (.inl (nI j)), some (.inl (nI t)), some (.inl (nI k)), some (.inl (nI ((P.2.2 m k).1))), some (.inl ((P.2.2 m k).2.2.2.2)), some (.inl (bI b110))]) hX d_R_dominates_110 (by decide) rfl rfl ?_
        have L149 : ∀ M3, fr12 M M3 → dmH (P.1 m) (P.2.2 m) (dm_tn (P.1 m) (P.2.2 m) i o k) k b110 M3 → fm_G SR Y_R_dominates X M (fm_xb (i = j ∨ ¬ dm_R (P.1 m) (P.2.2 m) i j) M) 149 [some (.inr 0), some (.inl (nI m)), some (.inl (nI i)), some (.inl (nI j)), some (.inl (nI t)), some (.inl (nI k)), some (.inl (nI ((P.2.2 m k).1))), none, some (.inl (bI b110))] [] M3 := by
          intro M3 hf3 h3
          have hP3 := fr12_P hf3 hP
          refine fm_iload (pq := 151) hX d_R_dominates_149 rfl rfl ?_
          refine fm_b1_eq (tgt := 191) (pq := 154) hX d_R_dominates_151 rfl rfl (fun h151 => ?_) (fun h151 => ?_)
          · show fm_G SR Y_R_dominates X M (fm_xb (i = j ∨ ¬ dm_R (P.1 m) (P.2.2 m) i j) M) 191 [some (.inr 0), some (.inl (nI m)), some (.inl (nI i)), some (.inl (nI j)), some (.inl (nI t)), some (.inl (nI k)), some (.inl (nI ((P.2.2 m k).1))), none, some (.inl (bI b110))] [] M3
            refine fm_iinc (pq := 194) (v := nI (k + 1)) (ls1 := [some (.inr 0), some (.inl (nI m)), some (.inl (nI i)), some (.inl (nI j)), some (.inl (nI t)), some (.inl (nI (k + 1))), some (.inl (nI ((P.2.2 m k).1))), none, some (.inl (bI b110))]) hX d_R_dominates_191 rfl (nI_add _ _) (by decide) rfl rfl ?_
            refine fm_goto (tgt := 50) hX d_R_dominates_194 rfl ?_
            refine fm_drop 6 (ls1 := [some (.inr 0), some (.inl (nI m)), some (.inl (nI i)), some (.inl (nI j)), some (.inl (nI t)), some (.inl (nI (k + 1))), none, none, some (.inl (bI b110))]) rfl ?_
            refine fm_drop 8 (ls1 := [some (.inr 0), some (.inl (nI m)), some (.inl (nI i)), some (.inl (nI j)), some (.inl (nI t)), some (.inl (nI (k + 1))), none, none, none]) rfl ?_
            first | exact ih (by omega) _ hf3 (dmH_2n h3 hb110 (Or.inl h151)) | exact ih (by omega) _ hf3 (dmH_2n h3 hb110 (Or.inr (Or.inl h158))) | exact ih (by omega) _ hf3 (dmH_2n h3 hb110 (Or.inr (Or.inr (Or.inl h165)))) | exact ih (by omega) _ hf3 (dmH_2n h3 hb110 (Or.inr (Or.inr (Or.inr (by omega)))))
          · show fm_G SR Y_R_dominates X M (fm_xb (i = j ∨ ¬ dm_R (P.1 m) (P.2.2 m) i j) M) 154 [some (.inr 0), some (.inl (nI m)), some (.inl (nI i)), some (.inl (nI j)), some (.inl (nI t)), some (.inl (nI k)), some (.inl (nI ((P.2.2 m k).1))), none, some (.inl (bI b110))] [] M3
            refine fm_iload (pq := 156) hX d_R_dominates_154 rfl rfl ?_
            refine fm_bipush (pq := 158) (v := nI 14) hX d_R_dominates_156 (by decide) rfl ?_
            refine fm_n_eq (tgt := 191) (pq := 161) hX d_R_dominates_158 rfl rfl (by omega) (by omega) (fun h158 => ?_) (fun h158 => ?_)
            · show fm_G SR Y_R_dominates X M (fm_xb (i = j ∨ ¬ dm_R (P.1 m) (P.2.2 m) i j) M) 191 [some (.inr 0), some (.inl (nI m)), some (.inl (nI i)), some (.inl (nI j)), some (.inl (nI t)), some (.inl (nI k)), some (.inl (nI ((P.2.2 m k).1))), none, some (.inl (bI b110))] [] M3
              refine fm_iinc (pq := 194) (v := nI (k + 1)) (ls1 := [some (.inr 0), some (.inl (nI m)), some (.inl (nI i)), some (.inl (nI j)), some (.inl (nI t)), some (.inl (nI (k + 1))), some (.inl (nI ((P.2.2 m k).1))), none, some (.inl (bI b110))]) hX d_R_dominates_191 rfl (nI_add _ _) (by decide) rfl rfl ?_
              refine fm_goto (tgt := 50) hX d_R_dominates_194 rfl ?_
              refine fm_drop 6 (ls1 := [some (.inr 0), some (.inl (nI m)), some (.inl (nI i)), some (.inl (nI j)), some (.inl (nI t)), some (.inl (nI (k + 1))), none, none, some (.inl (bI b110))]) rfl ?_
              refine fm_drop 8 (ls1 := [some (.inr 0), some (.inl (nI m)), some (.inl (nI i)), some (.inl (nI j)), some (.inl (nI t)), some (.inl (nI (k + 1))), none, none, none]) rfl ?_
              first | exact ih (by omega) _ hf3 (dmH_2n h3 hb110 (Or.inl h151)) | exact ih (by omega) _ hf3 (dmH_2n h3 hb110 (Or.inr (Or.inl h158))) | exact ih (by omega) _ hf3 (dmH_2n h3 hb110 (Or.inr (Or.inr (Or.inl h165)))) | exact ih (by omega) _ hf3 (dmH_2n h3 hb110 (Or.inr (Or.inr (Or.inr (by omega)))))
            · show fm_G SR Y_R_dominates X M (fm_xb (i = j ∨ ¬ dm_R (P.1 m) (P.2.2 m) i j) M) 161 [some (.inr 0), some (.inl (nI m)), some (.inl (nI i)), some (.inl (nI j)), some (.inl (nI t)), some (.inl (nI k)), some (.inl (nI ((P.2.2 m k).1))), none, some (.inl (bI b110))] [] M3
              refine fm_iload (pq := 163) hX d_R_dominates_161 rfl rfl ?_
              refine fm_bipush (pq := 165) (v := nI 17) hX d_R_dominates_163 (by decide) rfl ?_
              refine fm_n_eq (tgt := 191) (pq := 168) hX d_R_dominates_165 rfl rfl (by omega) (by omega) (fun h165 => ?_) (fun h165 => ?_)
              · show fm_G SR Y_R_dominates X M (fm_xb (i = j ∨ ¬ dm_R (P.1 m) (P.2.2 m) i j) M) 191 [some (.inr 0), some (.inl (nI m)), some (.inl (nI i)), some (.inl (nI j)), some (.inl (nI t)), some (.inl (nI k)), some (.inl (nI ((P.2.2 m k).1))), none, some (.inl (bI b110))] [] M3
                refine fm_iinc (pq := 194) (v := nI (k + 1)) (ls1 := [some (.inr 0), some (.inl (nI m)), some (.inl (nI i)), some (.inl (nI j)), some (.inl (nI t)), some (.inl (nI (k + 1))), some (.inl (nI ((P.2.2 m k).1))), none, some (.inl (bI b110))]) hX d_R_dominates_191 rfl (nI_add _ _) (by decide) rfl rfl ?_
                refine fm_goto (tgt := 50) hX d_R_dominates_194 rfl ?_
                refine fm_drop 6 (ls1 := [some (.inr 0), some (.inl (nI m)), some (.inl (nI i)), some (.inl (nI j)), some (.inl (nI t)), some (.inl (nI (k + 1))), none, none, some (.inl (bI b110))]) rfl ?_
                refine fm_drop 8 (ls1 := [some (.inr 0), some (.inl (nI m)), some (.inl (nI i)), some (.inl (nI j)), some (.inl (nI t)), some (.inl (nI (k + 1))), none, none, none]) rfl ?_
                first | exact ih (by omega) _ hf3 (dmH_2n h3 hb110 (Or.inl h151)) | exact ih (by omega) _ hf3 (dmH_2n h3 hb110 (Or.inr (Or.inl h158))) | exact ih (by omega) _ hf3 (dmH_2n h3 hb110 (Or.inr (Or.inr (Or.inl h165)))) | exact ih (by omega) _ hf3 (dmH_2n h3 hb110 (Or.inr (Or.inr (Or.inr (by omega)))))
              · show fm_G SR Y_R_dominates X M (fm_xb (i = j ∨ ¬ dm_R (P.1 m) (P.2.2 m) i j) M) 168 [some (.inr 0), some (.inl (nI m)), some (.inl (nI i)), some (.inl (nI j)), some (.inl (nI t)), some (.inl (nI k)), some (.inl (nI ((P.2.2 m k).1))), none, some (.inl (bI b110))] [] M3
                refine fm_iload (pq := 170) hX d_R_dominates_168 rfl rfl ?_
                refine fm_iconst (pq := 171) (v := nI 1) hX d_R_dominates_170 (by decide) rfl ?_
                refine fm_iadd (pq := 172) (v := nI (k + 1)) hX d_R_dominates_171 (nI_add _ _) rfl ?_
                refine fm_aload_n (pq := 173) hX d_R_dominates_172 rfl rfl rfl ?_
                refine fm_getr (pq := 176) (q := 2) hX fR_13 rfl rfl d_R_dominates_173 rfl ?_
                refine fm_iload_n (pq := 177) hX d_R_dominates_176 rfl rfl rfl ?_
                refine fm_iald (pq := 178) (v := nI (P.1 m)) hX rfl rfl rfl (by omega) (by decide) (hP3 m (by omega)).1 d_R_dominates_177 rfl ?_
                refine fm_n_ge (tgt := 191) (pq := 181) hX d_R_dominates_178 rfl rfl (by omega) (by omega) (fun h178 => ?_) (fun h178 => ?_)
                · show fm_G SR Y_R_dominates X M (fm_xb (i = j ∨ ¬ dm_R (P.1 m) (P.2.2 m) i j) M) 191 [some (.inr 0), some (.inl (nI m)), some (.inl (nI i)), some (.inl (nI j)), some (.inl (nI t)), some (.inl (nI k)), some (.inl (nI ((P.2.2 m k).1))), none, some (.inl (bI b110))] [] M3
                  refine fm_iinc (pq := 194) (v := nI (k + 1)) (ls1 := [some (.inr 0), some (.inl (nI m)), some (.inl (nI i)), some (.inl (nI j)), some (.inl (nI t)), some (.inl (nI (k + 1))), some (.inl (nI ((P.2.2 m k).1))), none, some (.inl (bI b110))]) hX d_R_dominates_191 rfl (nI_add _ _) (by decide) rfl rfl ?_
                  refine fm_goto (tgt := 50) hX d_R_dominates_194 rfl ?_
                  refine fm_drop 6 (ls1 := [some (.inr 0), some (.inl (nI m)), some (.inl (nI i)), some (.inl (nI j)), some (.inl (nI t)), some (.inl (nI (k + 1))), none, none, some (.inl (bI b110))]) rfl ?_
                  refine fm_drop 8 (ls1 := [some (.inr 0), some (.inl (nI m)), some (.inl (nI i)), some (.inl (nI j)), some (.inl (nI t)), some (.inl (nI (k + 1))), none, none, none]) rfl ?_
                  first | exact ih (by omega) _ hf3 (dmH_2n h3 hb110 (Or.inl h151)) | exact ih (by omega) _ hf3 (dmH_2n h3 hb110 (Or.inr (Or.inl h158))) | exact ih (by omega) _ hf3 (dmH_2n h3 hb110 (Or.inr (Or.inr (Or.inl h165)))) | exact ih (by omega) _ hf3 (dmH_2n h3 hb110 (Or.inr (Or.inr (Or.inr (by omega)))))
                · show fm_G SR Y_R_dominates X M (fm_xb (i = j ∨ ¬ dm_R (P.1 m) (P.2.2 m) i j) M) 181 [some (.inr 0), some (.inl (nI m)), some (.inl (nI i)), some (.inl (nI j)), some (.inl (nI t)), some (.inl (nI k)), some (.inl (nI ((P.2.2 m k).1))), none, some (.inl (bI b110))] [] M3
                  refine fm_aload_n (pq := 182) hX d_R_dominates_181 rfl rfl rfl ?_
                  refine fm_getr (pq := 185) (q := 12) hX fR_43 rfl rfl d_R_dominates_182 rfl ?_
                  refine fm_iload (pq := 187) hX d_R_dominates_185 rfl rfl ?_
                  refine fm_iconst (pq := 188) (v := nI 1) hX d_R_dominates_187 (by decide) rfl ?_
                  refine fm_iadd (pq := 189) (v := nI (k + 1)) hX d_R_dominates_188 (nI_add _ _) rfl ?_
                  refine fm_iconst (pq := 190) (v := nI 1) hX d_R_dominates_189 (by decide) rfl ?_
                  refine fm_zast (pq := 191) hX rfl rfl rfl (by omega) (by decide) (by decide) d_R_dominates_190 rfl ?_
                  refine fm_iinc (pq := 194) (v := nI (k + 1)) (ls1 := [some (.inr 0), some (.inl (nI m)), some (.inl (nI i)), some (.inl (nI j)), some (.inl (nI t)), some (.inl (nI (k + 1))), some (.inl (nI ((P.2.2 m k).1))), none, some (.inl (bI b110))]) hX d_R_dominates_191 rfl (nI_add _ _) (by decide) rfl rfl ?_
                  refine fm_goto (tgt := 50) hX d_R_dominates_194 rfl ?_
                  refine fm_drop 6 (ls1 := [some (.inr 0), some (.inl (nI m)), some (.inl (nI i)), some (.inl (nI j)), some (.inl (nI t)), some (.inl (nI (k + 1))), none, none, some (.inl (bI b110))]) rfl ?_
                  refine fm_drop 8 (ls1 := [some (.inr 0), some (.inl (nI m)), some (.inl (nI i)), some (.inl (nI j)), some (.inl (nI t)), some (.inl (nI (k + 1))), none, none, none]) rfl ?_
                  exact ih (by omega) _ (fr12_up hf3) (dmH_2y h3 hb110 h151 h158 h165 (by omega))
        refine fm_iload (pq := 114) hX d_R_dominates_112 rfl rfl ?_
        refine fm_b1_eq (tgt := 149) (pq := 117) hX d_R_dominates_114 rfl rfl (fun h114 => ?_) (fun h114 => ?_)
        · show fm_G SR Y_R_dominates X M (fm_xb (i = j ∨ ¬ dm_R (P.1 m) (P.2.2 m) i j) M) 149 [some (.inr 0), some (.inl (nI m)), some (.inl (nI i)), some (.inl (nI j)), some (.inl (nI t)), some (.inl (nI k)), some (.inl (nI ((P.2.2 m k).1))), some (.inl ((P.2.2 m k).2.2.2.2)), some (.inl (bI b110))] [] M2
          refine fm_drop 7 (ls1 := [some (.inr 0), some (.inl (nI m)), some (.inl (nI i)), some (.inl (nI j)), some (.inl (nI t)), some (.inl (nI k)), some (.inl (nI ((P.2.2 m k).1))), none, some (.inl (bI b110))]) rfl ?_
          first | exact L149 _ hf (dmH_n ho wl (Or.inl h114)) | exact L149 _ hf (dmH_n ho wl (Or.inr (Or.inl (by omega)))) | exact L149 _ hf (dmH_n ho wl (Or.inr (Or.inr h138)))
        · show fm_G SR Y_R_dominates X M (fm_xb (i = j ∨ ¬ dm_R (P.1 m) (P.2.2 m) i j) M) 117 [some (.inr 0), some (.inl (nI m)), some (.inl (nI i)), some (.inl (nI j)), some (.inl (nI t)), some (.inl (nI k)), some (.inl (nI ((P.2.2 m k).1))), some (.inl ((P.2.2 m k).2.2.2.2)), some (.inl (bI b110))] [] M2
          refine fm_iload (pq := 119) hX d_R_dominates_117 rfl rfl ?_
          refine fm_bipush (pq := 121) (v := nI 14) hX d_R_dominates_119 (by decide) rfl ?_
          refine fm_n_eq (tgt := 131) (pq := 124) hX d_R_dominates_121 rfl rfl (by omega) (by omega) (fun h121 => ?_) (fun h121 => ?_)
          · show fm_G SR Y_R_dominates X M (fm_xb (i = j ∨ ¬ dm_R (P.1 m) (P.2.2 m) i j) M) 131 [some (.inr 0), some (.inl (nI m)), some (.inl (nI i)), some (.inl (nI j)), some (.inl (nI t)), some (.inl (nI k)), some (.inl (nI ((P.2.2 m k).1))), some (.inl ((P.2.2 m k).2.2.2.2)), some (.inl (bI b110))] [] M2
            refine fm_aload_n (pq := 132) hX d_R_dominates_131 rfl rfl rfl ?_
            refine fm_iload_n (pq := 133) hX d_R_dominates_132 rfl rfl rfl ?_
            refine fm_iload (pq := 135) hX d_R_dominates_133 rfl rfl ?_
            refine fm_callV_i (as := [.inl (nI m), .inl ((P.2.2 m k).2.2.2.2)]) (st := []) (pq := 138) hX rfl rfl cR_128 rfl im_R_isInstruction se_R_isInstruction (k_R_isInstruction (m := m) (by omega) M2 hP2 hw ((P.2.2 m k).2.2.2.2)) rfl rfl (Nat.le_of_ble_eq_true rfl) (Nat.le_of_ble_eq_true rfl) d_R_dominates_135 rfl ?_
            refine fm_p1_eq (tgt := 149) (pq := 141) hX d_R_dominates_138 rfl rfl (fun h138 => ?_) (fun h138 => ?_)
            · show fm_G SR Y_R_dominates X M (fm_xb (i = j ∨ ¬ dm_R (P.1 m) (P.2.2 m) i j) M) 149 [some (.inr 0), some (.inl (nI m)), some (.inl (nI i)), some (.inl (nI j)), some (.inl (nI t)), some (.inl (nI k)), some (.inl (nI ((P.2.2 m k).1))), some (.inl ((P.2.2 m k).2.2.2.2)), some (.inl (bI b110))] [] M2
              refine fm_drop 7 (ls1 := [some (.inr 0), some (.inl (nI m)), some (.inl (nI i)), some (.inl (nI j)), some (.inl (nI t)), some (.inl (nI k)), some (.inl (nI ((P.2.2 m k).1))), none, some (.inl (bI b110))]) rfl ?_
              first | exact L149 _ hf (dmH_n ho wl (Or.inl h114)) | exact L149 _ hf (dmH_n ho wl (Or.inr (Or.inl (by omega)))) | exact L149 _ hf (dmH_n ho wl (Or.inr (Or.inr h138)))
            · show fm_G SR Y_R_dominates X M (fm_xb (i = j ∨ ¬ dm_R (P.1 m) (P.2.2 m) i j) M) 141 [some (.inr 0), some (.inl (nI m)), some (.inl (nI i)), some (.inl (nI j)), some (.inl (nI t)), some (.inl (nI k)), some (.inl (nI ((P.2.2 m k).1))), some (.inl ((P.2.2 m k).2.2.2.2)), some (.inl (bI b110))] [] M2
              obtain ⟨l, hl, el⟩ := cm_ix wl h138
              rw [el]
              refine fm_aload_n (pq := 142) hX d_R_dominates_141 rfl rfl rfl ?_
              refine fm_getr (pq := 145) (q := 12) hX fR_43 rfl rfl d_R_dominates_142 rfl ?_
              refine fm_iload (pq := 147) hX d_R_dominates_145 rfl rfl ?_
              refine fm_iconst (pq := 148) (v := nI 1) hX d_R_dominates_147 (by decide) rfl ?_
              refine fm_zast (pq := 149) hX rfl rfl rfl (by omega) (by decide) (by decide) d_R_dominates_148 rfl ?_
              refine fm_drop 7 (ls1 := [some (.inr 0), some (.inl (nI m)), some (.inl (nI i)), some (.inl (nI j)), some (.inl (nI t)), some (.inl (nI k)), some (.inl (nI ((P.2.2 m k).1))), none, some (.inl (bI b110))]) rfl ?_
              exact L149 _ (fr12_up hf) (dmH_y ho wl h114 (by omega) el hl)
          · show fm_G SR Y_R_dominates X M (fm_xb (i = j ∨ ¬ dm_R (P.1 m) (P.2.2 m) i j) M) 124 [some (.inr 0), some (.inl (nI m)), some (.inl (nI i)), some (.inl (nI j)), some (.inl (nI t)), some (.inl (nI k)), some (.inl (nI ((P.2.2 m k).1))), some (.inl ((P.2.2 m k).2.2.2.2)), some (.inl (bI b110))] [] M2
            refine fm_iload (pq := 126) hX d_R_dominates_124 rfl rfl ?_
            refine fm_bipush (pq := 128) (v := nI 15) hX d_R_dominates_126 (by decide) rfl ?_
            refine fm_n_ne (tgt := 149) (pq := 131) hX d_R_dominates_128 rfl rfl (by omega) (by omega) (fun h128 => ?_) (fun h128 => ?_)
            · show fm_G SR Y_R_dominates X M (fm_xb (i = j ∨ ¬ dm_R (P.1 m) (P.2.2 m) i j) M) 149 [some (.inr 0), some (.inl (nI m)), some (.inl (nI i)), some (.inl (nI j)), some (.inl (nI t)), some (.inl (nI k)), some (.inl (nI ((P.2.2 m k).1))), some (.inl ((P.2.2 m k).2.2.2.2)), some (.inl (bI b110))] [] M2
              refine fm_drop 7 (ls1 := [some (.inr 0), some (.inl (nI m)), some (.inl (nI i)), some (.inl (nI j)), some (.inl (nI t)), some (.inl (nI k)), some (.inl (nI ((P.2.2 m k).1))), none, some (.inl (bI b110))]) rfl ?_
              first | exact L149 _ hf (dmH_n ho wl (Or.inl h114)) | exact L149 _ hf (dmH_n ho wl (Or.inr (Or.inl (by omega)))) | exact L149 _ hf (dmH_n ho wl (Or.inr (Or.inr h138)))
            · show fm_G SR Y_R_dominates X M (fm_xb (i = j ∨ ¬ dm_R (P.1 m) (P.2.2 m) i j) M) 131 [some (.inr 0), some (.inl (nI m)), some (.inl (nI i)), some (.inl (nI j)), some (.inl (nI t)), some (.inl (nI k)), some (.inl (nI ((P.2.2 m k).1))), some (.inl ((P.2.2 m k).2.2.2.2)), some (.inl (bI b110))] [] M2
              refine fm_aload_n (pq := 132) hX d_R_dominates_131 rfl rfl rfl ?_
              refine fm_iload_n (pq := 133) hX d_R_dominates_132 rfl rfl rfl ?_
              refine fm_iload (pq := 135) hX d_R_dominates_133 rfl rfl ?_
              refine fm_callV_i (as := [.inl (nI m), .inl ((P.2.2 m k).2.2.2.2)]) (st := []) (pq := 138) hX rfl rfl cR_128 rfl im_R_isInstruction se_R_isInstruction (k_R_isInstruction (m := m) (by omega) M2 hP2 hw ((P.2.2 m k).2.2.2.2)) rfl rfl (Nat.le_of_ble_eq_true rfl) (Nat.le_of_ble_eq_true rfl) d_R_dominates_135 rfl ?_
              refine fm_p1_eq (tgt := 149) (pq := 141) hX d_R_dominates_138 rfl rfl (fun h138 => ?_) (fun h138 => ?_)
              · show fm_G SR Y_R_dominates X M (fm_xb (i = j ∨ ¬ dm_R (P.1 m) (P.2.2 m) i j) M) 149 [some (.inr 0), some (.inl (nI m)), some (.inl (nI i)), some (.inl (nI j)), some (.inl (nI t)), some (.inl (nI k)), some (.inl (nI ((P.2.2 m k).1))), some (.inl ((P.2.2 m k).2.2.2.2)), some (.inl (bI b110))] [] M2
                refine fm_drop 7 (ls1 := [some (.inr 0), some (.inl (nI m)), some (.inl (nI i)), some (.inl (nI j)), some (.inl (nI t)), some (.inl (nI k)), some (.inl (nI ((P.2.2 m k).1))), none, some (.inl (bI b110))]) rfl ?_
                first | exact L149 _ hf (dmH_n ho wl (Or.inl h114)) | exact L149 _ hf (dmH_n ho wl (Or.inr (Or.inl (by omega)))) | exact L149 _ hf (dmH_n ho wl (Or.inr (Or.inr h138)))
              · show fm_G SR Y_R_dominates X M (fm_xb (i = j ∨ ¬ dm_R (P.1 m) (P.2.2 m) i j) M) 141 [some (.inr 0), some (.inl (nI m)), some (.inl (nI i)), some (.inl (nI j)), some (.inl (nI t)), some (.inl (nI k)), some (.inl (nI ((P.2.2 m k).1))), some (.inl ((P.2.2 m k).2.2.2.2)), some (.inl (bI b110))] [] M2
                obtain ⟨l, hl, el⟩ := cm_ix wl h138
                rw [el]
                refine fm_aload_n (pq := 142) hX d_R_dominates_141 rfl rfl rfl ?_
                refine fm_getr (pq := 145) (q := 12) hX fR_43 rfl rfl d_R_dominates_142 rfl ?_
                refine fm_iload (pq := 147) hX d_R_dominates_145 rfl rfl ?_
                refine fm_iconst (pq := 148) (v := nI 1) hX d_R_dominates_147 (by decide) rfl ?_
                refine fm_zast (pq := 149) hX rfl rfl rfl (by omega) (by decide) (by decide) d_R_dominates_148 rfl ?_
                refine fm_drop 7 (ls1 := [some (.inr 0), some (.inl (nI m)), some (.inl (nI i)), some (.inl (nI j)), some (.inl (nI t)), some (.inl (nI k)), some (.inl (nI ((P.2.2 m k).1))), none, some (.inl (bI b110))]) rfl ?_
                exact L149 _ (fr12_up hf) (dmH_y ho wl h114 (by omega) el hl)
      refine fm_aload_n (pq := 90) hX d_R_dominates_89 rfl rfl rfl ?_
      refine fm_getr (pq := 93) (q := 12) hX fR_43 rfl rfl d_R_dominates_90 rfl ?_
      refine fm_iload (pq := 95) hX d_R_dominates_93 rfl rfl ?_
      refine fm_zald (pq := 96) (v := bI (dm_tn (P.1 m) (P.2.2 m) i o k k)) hX rfl rfl rfl (by omega) (by decide) (ho k (by omega)) d_R_dominates_95 rfl ?_
      refine fm_b1_eq (tgt := 109) (pq := 99) hX d_R_dominates_96 rfl rfl (fun h96 => ?_) (fun h96 => ?_)
      · show fm_G SR Y_R_dominates X M (fm_xb (i = j ∨ ¬ dm_R (P.1 m) (P.2.2 m) i j) M) 109 [some (.inr 0), some (.inl (nI m)), some (.inl (nI i)), some (.inl (nI j)), some (.inl (nI t)), some (.inl (nI k)), some (.inl (nI ((P.2.2 m k).1))), some (.inl ((P.2.2 m k).2.2.2.2)), none] [] M2
        refine fm_iconst (pq := 110) (v := nI 0) hX d_R_dominates_109 (by decide) rfl ?_
        first | exact L110 true ⟨fun _ => ⟨h96, h102⟩, fun _ => rfl⟩ | exact L110 false ⟨fun z => absurd z (by decide), fun z => absurd h102 z.2⟩ | exact L110 false ⟨fun z => absurd z (by decide), fun z => absurd z.1 (by rw [h96]; decide)⟩
      · show fm_G SR Y_R_dominates X M (fm_xb (i = j ∨ ¬ dm_R (P.1 m) (P.2.2 m) i j) M) 99 [some (.inr 0), some (.inl (nI m)), some (.inl (nI i)), some (.inl (nI j)), some (.inl (nI t)), some (.inl (nI k)), some (.inl (nI ((P.2.2 m k).1))), some (.inl ((P.2.2 m k).2.2.2.2)), none] [] M2
        refine fm_iload (pq := 101) hX d_R_dominates_99 rfl rfl ?_
        refine fm_iload_n (pq := 102) hX d_R_dominates_101 rfl rfl rfl ?_
        refine fm_n_eq (tgt := 109) (pq := 105) hX d_R_dominates_102 rfl rfl (by omega) (by omega) (fun h102 => ?_) (fun h102 => ?_)
        · show fm_G SR Y_R_dominates X M (fm_xb (i = j ∨ ¬ dm_R (P.1 m) (P.2.2 m) i j) M) 109 [some (.inr 0), some (.inl (nI m)), some (.inl (nI i)), some (.inl (nI j)), some (.inl (nI t)), some (.inl (nI k)), some (.inl (nI ((P.2.2 m k).1))), some (.inl ((P.2.2 m k).2.2.2.2)), none] [] M2
          refine fm_iconst (pq := 110) (v := nI 0) hX d_R_dominates_109 (by decide) rfl ?_
          first | exact L110 true ⟨fun _ => ⟨h96, h102⟩, fun _ => rfl⟩ | exact L110 false ⟨fun z => absurd z (by decide), fun z => absurd h102 z.2⟩ | exact L110 false ⟨fun z => absurd z (by decide), fun z => absurd z.1 (by rw [h96]; decide)⟩
        · show fm_G SR Y_R_dominates X M (fm_xb (i = j ∨ ¬ dm_R (P.1 m) (P.2.2 m) i j) M) 105 [some (.inr 0), some (.inl (nI m)), some (.inl (nI i)), some (.inl (nI j)), some (.inl (nI t)), some (.inl (nI k)), some (.inl (nI ((P.2.2 m k).1))), some (.inl ((P.2.2 m k).2.2.2.2)), none] [] M2
          refine fm_iconst (pq := 106) (v := nI 1) hX d_R_dominates_105 (by decide) rfl ?_
          refine fm_goto (tgt := 110) hX d_R_dominates_106 rfl ?_
          first | exact L110 true ⟨fun _ => ⟨h96, h102⟩, fun _ => rfl⟩ | exact L110 false ⟨fun z => absurd z (by decide), fun z => absurd h102 z.2⟩ | exact L110 false ⟨fun z => absurd z (by decide), fun z => absurd z.1 (by rw [h96]; decide)⟩
  have L40 : ∀ t, t ≤ 25 → ∀ (M1 : fm_M) (o : Nat → Bool), fr12 M M1 → (∀ q, q < 24 → M1 12 q = bI (o q)) → dm_rr (P.1 m) (P.2.2 m) i (25 - t) o = dm_rr (P.1 m) (P.2.2 m) i 25 (dm_o0 i) → fm_G SR Y_R_dominates X M (fm_xb (i = j ∨ ¬ dm_R (P.1 m) (P.2.2 m) i j) M) 40 [some (.inr 0), some (.inl (nI m)), some (.inl (nI i)), some (.inl (nI j)), some (.inl (nI t)), none, none, none, none] [] M1 := by
    refine fm_ind 25 (fun t hle ih => ?_)
    intro M1 o hf ho hrr
    have hP1 := fr12_P hf hP
    refine fm_iload (pq := 42) hX d_R_dominates_40 rfl rfl ?_
    refine fm_bipush (pq := 44) (v := nI 25) hX d_R_dominates_42 (by decide) rfl ?_
    refine fm_n_ge (tgt := 203) (pq := 47) hX d_R_dominates_44 rfl rfl (by omega) (by omega) (fun h44 => ?_) (fun h44 => ?_)
    · show fm_G SR Y_R_dominates X M (fm_xb (i = j ∨ ¬ dm_R (P.1 m) (P.2.2 m) i j) M) 203 [some (.inr 0), some (.inl (nI m)), some (.inl (nI i)), some (.inl (nI j)), some (.inl (nI t)), none, none, none, none] [] M1
      refine fm_iload_n (pq := 204) hX d_R_dominates_203 rfl rfl rfl ?_
      refine fm_iload_n (pq := 205) hX d_R_dominates_204 rfl rfl rfl ?_
      refine fm_n_eq (tgt := 217) (pq := 208) hX d_R_dominates_205 rfl rfl (by omega) (by omega) (fun h205 => ?_) (fun h205 => ?_)
      · show fm_G SR Y_R_dominates X M (fm_xb (i = j ∨ ¬ dm_R (P.1 m) (P.2.2 m) i j) M) 217 [some (.inr 0), some (.inl (nI m)), some (.inl (nI i)), some (.inl (nI j)), some (.inl (nI t)), none, none, none, none] [] M1
        refine fm_iconst (pq := 218) (v := nI 1) hX d_R_dominates_217 (by decide) rfl ?_
        refine fm_goto (tgt := 222) hX d_R_dominates_218 rfl ?_
        refine fm_zret hX rfl (by decide) d_R_dominates_222 ?_
        have e25 : t = 25 := by omega
        rw [e25] at hrr
        have eo : o = dm_rr (P.1 m) (P.2.2 m) i 25 (dm_o0 i) := hrr
        first
        | exact fm_xb1 (Or.inl h205) hf
        | exact fm_xb1 (Or.inr (fun z => by rw [eo] at h214; rw [(dm_rr_iff wl h0 (fun y => h205 y.symm)).mpr z] at h214; exact absurd h214 (by decide))) hf
        | exact fm_xb0 (fun z => z.elim h205 (fun y => y ((dm_rr_iff wl h0 (fun w => h205 w.symm)).mp (by rw [← eo]; exact h214)))) hf
      · show fm_G SR Y_R_dominates X M (fm_xb (i = j ∨ ¬ dm_R (P.1 m) (P.2.2 m) i j) M) 208 [some (.inr 0), some (.inl (nI m)), some (.inl (nI i)), some (.inl (nI j)), some (.inl (nI t)), none, none, none, none] [] M1
        refine fm_aload_n (pq := 209) hX d_R_dominates_208 rfl rfl rfl ?_
        refine fm_getr (pq := 212) (q := 12) hX fR_43 rfl rfl d_R_dominates_209 rfl ?_
        refine fm_iload_n (pq := 213) hX d_R_dominates_212 rfl rfl rfl ?_
        refine fm_zald (pq := 214) (v := bI (o j)) hX rfl rfl rfl (by omega) (by decide) (ho j (by omega)) d_R_dominates_213 rfl ?_
        refine fm_b1_ne (tgt := 221) (pq := 217) hX d_R_dominates_214 rfl rfl (fun h214 => ?_) (fun h214 => ?_)
        · show fm_G SR Y_R_dominates X M (fm_xb (i = j ∨ ¬ dm_R (P.1 m) (P.2.2 m) i j) M) 221 [some (.inr 0), some (.inl (nI m)), some (.inl (nI i)), some (.inl (nI j)), some (.inl (nI t)), none, none, none, none] [] M1
          refine fm_iconst (pq := 222) (v := nI 0) hX d_R_dominates_221 (by decide) rfl ?_
          refine fm_zret hX rfl (by decide) d_R_dominates_222 ?_
          have e25 : t = 25 := by omega
          rw [e25] at hrr
          have eo : o = dm_rr (P.1 m) (P.2.2 m) i 25 (dm_o0 i) := hrr
          first
          | exact fm_xb1 (Or.inl h205) hf
          | exact fm_xb1 (Or.inr (fun z => by rw [eo] at h214; rw [(dm_rr_iff wl h0 (fun y => h205 y.symm)).mpr z] at h214; exact absurd h214 (by decide))) hf
          | exact fm_xb0 (fun z => z.elim h205 (fun y => y ((dm_rr_iff wl h0 (fun w => h205 w.symm)).mp (by rw [← eo]; exact h214)))) hf
        · show fm_G SR Y_R_dominates X M (fm_xb (i = j ∨ ¬ dm_R (P.1 m) (P.2.2 m) i j) M) 217 [some (.inr 0), some (.inl (nI m)), some (.inl (nI i)), some (.inl (nI j)), some (.inl (nI t)), none, none, none, none] [] M1
          refine fm_iconst (pq := 218) (v := nI 1) hX d_R_dominates_217 (by decide) rfl ?_
          refine fm_goto (tgt := 222) hX d_R_dominates_218 rfl ?_
          refine fm_zret hX rfl (by decide) d_R_dominates_222 ?_
          have e25 : t = 25 := by omega
          rw [e25] at hrr
          have eo : o = dm_rr (P.1 m) (P.2.2 m) i 25 (dm_o0 i) := hrr
          first
          | exact fm_xb1 (Or.inl h205) hf
          | exact fm_xb1 (Or.inr (fun z => by rw [eo] at h214; rw [(dm_rr_iff wl h0 (fun y => h205 y.symm)).mpr z] at h214; exact absurd h214 (by decide))) hf
          | exact fm_xb0 (fun z => z.elim h205 (fun y => y ((dm_rr_iff wl h0 (fun w => h205 w.symm)).mp (by rw [← eo]; exact h214)))) hf
    · show fm_G SR Y_R_dominates X M (fm_xb (i = j ∨ ¬ dm_R (P.1 m) (P.2.2 m) i j) M) 47 [some (.inr 0), some (.inl (nI m)), some (.inl (nI i)), some (.inl (nI j)), some (.inl (nI t)), none, none, none, none] [] M1
      refine fm_iconst (pq := 48) (v := nI 0) hX d_R_dominates_47 (by decide) rfl ?_
      refine fm_istore (pq := 50) (ls1 := [some (.inr 0), some (.inl (nI m)), some (.inl (nI i)), some (.inl (nI j)), some (.inl (nI t)), some (.inl (nI 0)), none, none, none]) hX d_R_dominates_48 (by decide) rfl rfl ?_
      refine L50 t o (fun M2 hf2 ho2 => ?_) 0 (by omega) M1 hf ho
      show fm_G SR Y_R_dominates X M (fm_xb (i = j ∨ ¬ dm_R (P.1 m) (P.2.2 m) i j) M) 197 [some (.inr 0), some (.inl (nI m)), some (.inl (nI i)), some (.inl (nI j)), some (.inl (nI t)), none, none, none, none] [] M2
      refine fm_iinc (pq := 200) (v := nI (t + 1)) (ls1 := [some (.inr 0), some (.inl (nI m)), some (.inl (nI i)), some (.inl (nI j)), some (.inl (nI (t + 1))), none, none, none, none]) hX d_R_dominates_197 rfl (nI_add _ _) (by decide) rfl rfl ?_
      refine fm_goto (tgt := 40) hX d_R_dominates_200 rfl ?_
      exact ih (by omega) _ _ hf2 ho2 (by rw [← hrr, show 25 - t = (25 - (t + 1)) + 1 by omega]; rfl)
  have L3 : ∀ k, k ≤ 24 → ∀ M1, fr12 M M1 → (∀ q, q < k → M1 12 q = bI (dm_o0 i q)) → fm_G SR Y_R_dominates X M (fm_xb (i = j ∨ ¬ dm_R (P.1 m) (P.2.2 m) i j) M) 3 [some (.inr 0), some (.inl (nI m)), some (.inl (nI i)), some (.inl (nI j)), some (.inl (nI k)), none, none, none, none] [] M1 := by
    refine fm_ind 24 (fun k hle ih => ?_)
    intro M1 hf ho
    refine fm_iload (pq := 5) hX d_R_dominates_3 rfl rfl ?_
    refine fm_bipush (pq := 7) (v := nI 24) hX d_R_dominates_5 (by decide) rfl ?_
    refine fm_n_ge (tgt := 37) (pq := 10) hX d_R_dominates_7 rfl rfl (by omega) (by omega) (fun h7 => ?_) (fun h7 => ?_)
    · show fm_G SR Y_R_dominates X M (fm_xb (i = j ∨ ¬ dm_R (P.1 m) (P.2.2 m) i j) M) 37 [some (.inr 0), some (.inl (nI m)), some (.inl (nI i)), some (.inl (nI j)), some (.inl (nI k)), none, none, none, none] [] M1
      refine fm_iconst (pq := 38) (v := nI 0) hX d_R_dominates_37 (by decide) rfl ?_
      refine fm_istore (pq := 40) (ls1 := [some (.inr 0), some (.inl (nI m)), some (.inl (nI i)), some (.inl (nI j)), some (.inl (nI 0)), none, none, none, none]) hX d_R_dominates_38 (by decide) rfl rfl ?_
      have ek : k = 24 := by omega
      rw [ek] at ho
      exact L40 0 (by omega) M1 (dm_o0 i) hf ho rfl
    · show fm_G SR Y_R_dominates X M (fm_xb (i = j ∨ ¬ dm_R (P.1 m) (P.2.2 m) i j) M) 10 [some (.inr 0), some (.inl (nI m)), some (.inl (nI i)), some (.inl (nI j)), some (.inl (nI k)), none, none, none, none] [] M1
      refine fm_aload_n (pq := 11) hX d_R_dominates_10 rfl rfl rfl ?_
      refine fm_getr (pq := 14) (q := 12) hX fR_43 rfl rfl d_R_dominates_11 rfl ?_
      refine fm_iload (pq := 16) hX d_R_dominates_14 rfl rfl ?_
      refine fm_iload (pq := 18) hX d_R_dominates_16 rfl rfl ?_
      refine fm_z_ne (tgt := 29) (pq := 21) hX d_R_dominates_18 rfl rfl (by omega) (fun h18 => ?_) (fun h18 => ?_)
      · show fm_G SR Y_R_dominates X M (fm_xb (i = j ∨ ¬ dm_R (P.1 m) (P.2.2 m) i j) M) 29 [some (.inr 0), some (.inl (nI m)), some (.inl (nI i)), some (.inl (nI j)), some (.inl (nI k)), none, none, none, none] [.inl (nI k), .inr 12] M1
        refine fm_iconst (pq := 30) (v := nI 0) hX d_R_dominates_29 (by decide) rfl ?_
        refine fm_zast (pq := 31) hX rfl rfl rfl (by omega) (by decide) (by decide) d_R_dominates_30 rfl ?_
        refine fm_iinc (pq := 34) (v := nI (k + 1)) (ls1 := [some (.inr 0), some (.inl (nI m)), some (.inl (nI i)), some (.inl (nI j)), some (.inl (nI (k + 1))), none, none, none, none]) hX d_R_dominates_31 rfl (nI_add _ _) (by decide) rfl rfl ?_
        refine fm_goto (tgt := 3) hX d_R_dominates_34 rfl ?_
        exact ih (by omega) _ (fr12_up hf) (dm_i1 ho (by first | (simp [dm_o0, h18, h22]; rfl) | (simp [dm_o0, h18]; rfl)))
      · show fm_G SR Y_R_dominates X M (fm_xb (i = j ∨ ¬ dm_R (P.1 m) (P.2.2 m) i j) M) 21 [some (.inr 0), some (.inl (nI m)), some (.inl (nI i)), some (.inl (nI j)), some (.inl (nI k)), none, none, none, none] [.inl (nI k), .inr 12] M1
        refine fm_iload_n (pq := 22) hX d_R_dominates_21 rfl rfl rfl ?_
        refine fm_z_eq (tgt := 29) (pq := 25) hX d_R_dominates_22 rfl rfl (by omega) (fun h22 => ?_) (fun h22 => ?_)
        · show fm_G SR Y_R_dominates X M (fm_xb (i = j ∨ ¬ dm_R (P.1 m) (P.2.2 m) i j) M) 29 [some (.inr 0), some (.inl (nI m)), some (.inl (nI i)), some (.inl (nI j)), some (.inl (nI k)), none, none, none, none] [.inl (nI k), .inr 12] M1
          refine fm_iconst (pq := 30) (v := nI 0) hX d_R_dominates_29 (by decide) rfl ?_
          refine fm_zast (pq := 31) hX rfl rfl rfl (by omega) (by decide) (by decide) d_R_dominates_30 rfl ?_
          refine fm_iinc (pq := 34) (v := nI (k + 1)) (ls1 := [some (.inr 0), some (.inl (nI m)), some (.inl (nI i)), some (.inl (nI j)), some (.inl (nI (k + 1))), none, none, none, none]) hX d_R_dominates_31 rfl (nI_add _ _) (by decide) rfl rfl ?_
          refine fm_goto (tgt := 3) hX d_R_dominates_34 rfl ?_
          exact ih (by omega) _ (fr12_up hf) (dm_i1 ho (by first | (simp [dm_o0, h18, h22]; rfl) | (simp [dm_o0, h18]; rfl)))
        · show fm_G SR Y_R_dominates X M (fm_xb (i = j ∨ ¬ dm_R (P.1 m) (P.2.2 m) i j) M) 25 [some (.inr 0), some (.inl (nI m)), some (.inl (nI i)), some (.inl (nI j)), some (.inl (nI k)), none, none, none, none] [.inl (nI k), .inr 12] M1
          refine fm_iconst (pq := 26) (v := nI 1) hX d_R_dominates_25 (by decide) rfl ?_
          refine fm_goto (tgt := 30) hX d_R_dominates_26 rfl ?_
          refine fm_zast (pq := 31) hX rfl rfl rfl (by omega) (by decide) (by decide) d_R_dominates_30 rfl ?_
          refine fm_iinc (pq := 34) (v := nI (k + 1)) (ls1 := [some (.inr 0), some (.inl (nI m)), some (.inl (nI i)), some (.inl (nI j)), some (.inl (nI (k + 1))), none, none, none, none]) hX d_R_dominates_31 rfl (nI_add _ _) (by decide) rfl rfl ?_
          refine fm_goto (tgt := 3) hX d_R_dominates_34 rfl ?_
          exact ih (by omega) _ (fr12_up hf) (dm_i1 ho (by first | (simp [dm_o0, h18, h22]; rfl) | (simp [dm_o0, h18]; rfl)))
  show fm_G SR Y_R_dominates X M (fm_xb (i = j ∨ ¬ dm_R (P.1 m) (P.2.2 m) i j) M) 0 [some (.inr 0), some (.inl (nI m)), some (.inl (nI i)), some (.inl (nI j)), none, none, none, none, none] [] M
  refine fm_iconst (pq := 1) (v := nI 0) hX d_R_dominates_0 (by decide) rfl ?_
  refine fm_istore (pq := 3) (ls1 := [some (.inr 0), some (.inl (nI m)), some (.inl (nI i)), some (.inl (nI j)), some (.inl (nI 0)), none, none, none, none]) hX d_R_dominates_1 (by decide) rfl rfl ?_
  exact L3 0 (by omega) M (fr12_rf M) (fun q hq => absurd hq (by omega))
