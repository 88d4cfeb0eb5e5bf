/-! R_run (written by program) -/
theorem rm_RR_4 {I : an_I} (h1 : I.2.1 < 4) (h2 : I.2.2.1 < 4) : rm_RR I < 4 := by
  unfold rm_RR
  split <;> assumption
abbrev rm_six (M : fm_M) : fm_M := fm_up (fm_up (fm_up (fm_up (fm_up (fm_up M 0 14 (nI 0)) 0 22 (nI 0)) 0 24 (nI 0)) 0 25 (nI 0)) 0 26 (nI 0)) 0 27 (nI 0)
theorem rm_zero_o {M : fm_M} {a j : Nat} (h : a ≠ 0) (k : a ≠ 20) : rm_zero M a j = M a j := by
  unfold rm_zero
  rw [fm_fz_o (by omega), fm_up_a h, fm_up_a h, fm_up_a h, fm_up_a h, fm_up_a h, fm_up_a h]
theorem rm_zero_r {M : fm_M} : rm_zero M 0 14 = nI 0 := by
  unfold rm_zero
  rw [fm_fz_o (by omega), fm_up_b (by decide), fm_up_b (by decide), fm_up_b (by decide), fm_up_b (by decide), fm_up_b (by decide), fm_up_s]
section RGO
variable {P : pr_T} {M M2 M3 : fm_M} {F : Nat → Nat → Nat} {t r q t0 i dn md sh : Nat}
theorem rm_go_l (e1 : M2 = rm_it P F t (rm_begin P M)) (hr : M2 0 14 = nI r) (h8 : r ≤ 8) (hq : M2 13 (r - 1) = nI q) (hq5 : q < 5) (ht : M2 15 (r - 1) = nI t0) (ht4 : t0 < 4) (h : ¬ (0 ≤ M2 14 (r - 1) ∧ M2 14 (r - 1) < nI (P.1 q))) : rm_leave M2 r t0 (nI 0) = rm_it P F (t + 1) (rm_begin P M) := by
  show _ = rm_turn P F (rm_it P F t (rm_begin P M))
  rw [← e1, rm_turn_at hr h8 hq hq5]
  unfold rm_tr
  rw [if_neg h, ht, cm_n_nI (by omega)]
theorem rm_go_f (e1 : M2 = rm_it P F t (rm_begin P M)) (hr : M2 0 14 = nI r) (h8 : r ≤ 8) (hq : M2 13 (r - 1) = nI q) (hq5 : q < 5) (hi : i < P.1 q) (ei : M2 14 (r - 1) = nI i) (hdn : M2 0 26 = nI dn) (h : dn = 400) {hp : P.1 q ≤ 24} : fm_up M2 0 24 (nI 4) = rm_it P F (t + 1) (rm_begin P M) := by
  show _ = rm_turn P F (rm_it P F t (rm_begin P M))
  rw [← e1, rm_turn_at hr h8 hq hq5]
  unfold rm_tr
  rw [if_pos (by rw [ei]; exact ⟨nI_pos' (by omega), nI_lt hi (by omega)⟩), hdn, cm_n_nI (by omega), if_pos h]
theorem rm_go_p {os : Nat → Nat} (e1 : M2 = rm_it P F t (rm_begin P M)) (hr : M2 0 14 = nI r) (h8 : r ≤ 8) (hq : M2 13 (r - 1) = nI q) (hq5 : q < 5) (ht : M2 15 (r - 1) = nI t0) (ht4 : t0 < 4) (hi : i < P.1 q) (ei : M2 14 (r - 1) = nI i) (hdn : M2 0 26 = nI dn) (h : dn < 400) (hmd : M2 0 22 = nI md) (hm4 : md ≤ 400) (hsh : M2 0 25 = nI sh) (hs4 : sh ≤ 400)
    (hos : ∀ v, v < 4 → M2 16 (4 * (r - 1) + v) = nI (os v) ∧ os v ≤ 400) (hM3 : fm_up M2 0 26 (nI (dn + 1)) = M3) {hw : pr_wf P} :
    rm_do P (fm_up M3 14 (r - 1) (nI (i + 1))) r sh t0 md (P.2.2 q i).2.2.2.2.toNatClampNeg (os (rm_RR (P.2.2 q i))) (P.2.2 q i) (F q i) = rm_it P F (t + 1) (rm_begin P M) := by
  have w := (hw q hq5).2.2 i hi
  have wl := (hw q hq5).1
  show _ = rm_turn P F (rm_it P F t (rm_begin P M))
  rw [← e1, rm_turn_at hr h8 hq hq5]
  unfold rm_tr
  have hpos : 0 ≤ M2 14 (r - 1) ∧ M2 14 (r - 1) < nI (P.1 q) := by rw [ei]; exact ⟨nI_pos' (by omega), nI_lt hi (by omega)⟩
  rw [if_pos hpos]
  unfold rm_dor
  have hR4 : rm_RR (P.2.2 q i) < 4 := rm_RR_4 w.2.1 w.2.2.1
  have e2 := hos _ hR4
  rw [ei, hdn, hmd, hsh, ht, cm_n_nI (by omega), cm_n_nI (by omega), cm_n_nI (by omega), cm_n_nI (by omega), cm_n_nI (by omega), if_neg (by omega), e2.1, cm_n_nI (by omega), hM3]
end RGO
abbrev Y_R_run : fm_Y := ("EscapeMillModel", b_R_run, 5, (some .int), 7)
set_option maxRecDepth 100000 in
set_option maxHeartbeats 4000000 in
theorem k_R_run {P : pr_T} (M : fm_M) (hP : rP M P) (hw : pr_wf P) (ml b : Bool) (hb : M 0 8 = bI b) (hT : b = true → rT P M) (hV : ∀ M1, rK P M M1 → rQ P ml M1 5 0 → ∀ t, (∀ u, u < t → rm_live (rm_it P (rFt M1) u (rm_begin P M1))) → rV (rm_it P (rFt M1) t (rm_begin P M1)) ∧ t ≤ 802) : fm_ct SR y_R_run b_R_run 5 (some .int) 7 [.inr 0, .inl (bI ml)] M (fm_ir (fun v M' => ∃ M1, rK P M M1 ∧ rQ P ml M1 5 0 ∧ ∃ T, M' = rm_it P (rFt M1) T (rm_begin P M1) ∧ (∀ u, u < T → rm_live (rm_it P (rFt M1) u (rm_begin P M1))) ∧ ¬ rm_live M' ∧ v = M' 0 24)) := by
  refine fm_of (ls := [some (.inr 0), some (.inl (bI ml)), none, none, none]) (by decide) wsA_good (Nat.le_of_ble_eq_true rfl) rfl (fun X hX => ?_)
  have hi2 : ∀ n, n < 5 → P.2.1 n ≤ 2 := fun n hn => (hw n hn).2.1
  have L127 : ∀ M1, rK P M M1 → rQ P ml M1 5 0 → ∀ t, t ≤ 802 → ∀ M2, M2 = rm_it P (rFt M1) t (rm_begin P M1) → (∀ u, u < t → rm_live (rm_it P (rFt M1) u (rm_begin P M1))) → fm_G SR Y_R_run X M (fm_ir (fun v M' => ∃ M1, rK P M M1 ∧ rQ P ml M1 5 0 ∧ ∃ T, M' = rm_it P (rFt M1) T (rm_begin P M1) ∧ (∀ u, u < T → rm_live (rm_it P (rFt M1) u (rm_begin P M1))) ∧ ¬ rm_live M' ∧ v = M' 0 24)) 127 [some (.inr 0), some (.inl (bI ml)), none, none, none] [] M2 := by
    intro M1 hK hQ
    refine fm_ind 802 (fun t hle ih => ?_)
    intro M2 e2 hl
    obtain ⟨⟨r, md, sh, dn, hr, h8, hdn, hd4, hmd, hm4, hsh, hs4, hV1⟩, _⟩ := e2 ▸ hV M1 hK hQ t hl
    have hP2 : rP M2 P := rP_cg (rK_P hK hP) (fun a j h1 h2 => by rw [e2]; exact (rm_it_o ⟨by omega, by omega⟩ t).trans (rm_begin_o ⟨by omega, by omega⟩))
    refine fm_aload_n (pq := 128) hX d_R_run_127 rfl rfl rfl ?_
    refine fm_geti (pq := 131) (v := nI r) hX fR_157 rfl rfl hr d_R_run_128 rfl ?_
    refine fm_z_le (tgt := 239) (pq := 134) hX d_R_run_131 rfl rfl (by omega) (fun h131 => ?_) (fun h131 => ?_)
    · show fm_G SR Y_R_run X M (fm_ir (fun v M' => ∃ M1, rK P M M1 ∧ rQ P ml M1 5 0 ∧ ∃ T, M' = rm_it P (rFt M1) T (rm_begin P M1) ∧ (∀ u, u < T → rm_live (rm_it P (rFt M1) u (rm_begin P M1))) ∧ ¬ rm_live M' ∧ v = M' 0 24)) 239 [some (.inr 0), some (.inl (bI ml)), none, none, none] [] M2
      refine fm_aload_n (pq := 240) hX d_R_run_239 rfl rfl rfl ?_
      refine fm_geti (pq := 243) (v := M2 0 24) hX fR_160 rfl rfl rfl d_R_run_240 rfl ?_
      refine fm_iret hX rfl d_R_run_243 ?_
      exact ⟨_, rfl, M1, hK, hQ, t, e2, hl, (by
        first
        | exact fun z => by have := z.1; rw [hr, show r = 0 by omega] at this; exact absurd this (by decide)
        | exact fun z => h138 z.2), rfl⟩
    · show fm_G SR Y_R_run X M (fm_ir (fun v M' => ∃ M1, rK P M M1 ∧ rQ P ml M1 5 0 ∧ ∃ T, M' = rm_it P (rFt M1) T (rm_begin P M1) ∧ (∀ u, u < T → rm_live (rm_it P (rFt M1) u (rm_begin P M1))) ∧ ¬ rm_live M' ∧ v = M' 0 24)) 134 [some (.inr 0), some (.inl (bI ml)), none, none, none] [] M2
      refine fm_aload_n (pq := 135) hX d_R_run_134 rfl rfl rfl ?_
      refine fm_geti (pq := 138) (v := M2 0 24) hX fR_160 rfl rfl rfl d_R_run_135 rfl ?_
      refine fm_if_ne (tgt := 239) (pq := 141) hX d_R_run_138 rfl rfl (fun h138 => ?_) (fun h138 => ?_)
      · show fm_G SR Y_R_run X M (fm_ir (fun v M' => ∃ M1, rK P M M1 ∧ rQ P ml M1 5 0 ∧ ∃ T, M' = rm_it P (rFt M1) T (rm_begin P M1) ∧ (∀ u, u < T → rm_live (rm_it P (rFt M1) u (rm_begin P M1))) ∧ ¬ rm_live M' ∧ v = M' 0 24)) 239 [some (.inr 0), some (.inl (bI ml)), none, none, none] [] M2
        refine fm_aload_n (pq := 240) hX d_R_run_239 rfl rfl rfl ?_
        refine fm_geti (pq := 243) (v := M2 0 24) hX fR_160 rfl rfl rfl d_R_run_240 rfl ?_
        refine fm_iret hX rfl d_R_run_243 ?_
        exact ⟨_, rfl, M1, hK, hQ, t, e2, hl, (by
          first
          | exact fun z => by have := z.1; rw [hr, show r = 0 by omega] at this; exact absurd this (by decide)
          | exact fun z => h138 z.2), rfl⟩
      · show fm_G SR Y_R_run X M (fm_ir (fun v M' => ∃ M1, rK P M M1 ∧ rQ P ml M1 5 0 ∧ ∃ T, M' = rm_it P (rFt M1) T (rm_begin P M1) ∧ (∀ u, u < T → rm_live (rm_it P (rFt M1) u (rm_begin P M1))) ∧ ¬ rm_live M' ∧ v = M' 0 24)) 141 [some (.inr 0), some (.inl (bI ml)), none, none, none] [] M2
        obtain ⟨⟨q, hq5, hq⟩, ⟨t0, ht4, ht⟩, os, hos⟩ := hV1 (by omega)
        have wq := (hw q hq5).1
        have hlv : rm_live (rm_it P (rFt M1) t (rm_begin P M1)) := by
          rw [← e2]
          exact ⟨by rw [hr, ← nI_0]; exact nI_lt (by omega) (by omega), h138⟩
        have hl2 : ∀ u, u < t + 1 → rm_live (rm_it P (rFt M1) u (rm_begin P M1)) := fun u hu => by
          by_cases z : u = t
          · rw [z]; exact hlv
          · exact hl u (by omega)
        have ht2 := (hV M1 hK hQ (t + 1) hl2).2
        refine fm_aload_n (pq := 142) hX d_R_run_141 rfl rfl rfl ?_
        refine fm_getr (pq := 145) (q := 13) hX fR_47 rfl rfl d_R_run_142 rfl ?_
        refine fm_aload_n (pq := 146) hX d_R_run_145 rfl rfl rfl ?_
        refine fm_geti (pq := 149) (v := nI r) hX fR_157 rfl rfl hr d_R_run_146 rfl ?_
        refine fm_iconst (pq := 150) (v := nI 1) hX d_R_run_149 (by decide) rfl ?_
        refine fm_isub (pq := 151) (v := nI (r - 1)) hX d_R_run_150 (pk_sub (by omega)) rfl ?_
        refine fm_iald (pq := 152) (v := nI q) hX rfl rfl rfl (by omega) (by decide) hq d_R_run_151 rfl ?_
        refine fm_istore_n (pq := 153) (ls1 := [some (.inr 0), some (.inl (bI ml)), some (.inl (nI q)), none, none]) hX d_R_run_152 rfl (by decide) rfl rfl ?_
        refine fm_aload_n (pq := 154) hX d_R_run_153 rfl rfl rfl ?_
        refine fm_getr (pq := 157) (q := 14) hX fR_50 rfl rfl d_R_run_154 rfl ?_
        refine fm_aload_n (pq := 158) hX d_R_run_157 rfl rfl rfl ?_
        refine fm_geti (pq := 161) (v := nI r) hX fR_157 rfl rfl hr d_R_run_158 rfl ?_
        refine fm_iconst (pq := 162) (v := nI 1) hX d_R_run_161 (by decide) rfl ?_
        refine fm_isub (pq := 163) (v := nI (r - 1)) hX d_R_run_162 (pk_sub (by omega)) rfl ?_
        refine fm_iald (pq := 164) (v := M2 14 (r - 1)) hX rfl rfl rfl (by omega) (by decide) rfl d_R_run_163 rfl ?_
        refine fm_istore_n (pq := 165) (ls1 := [some (.inr 0), some (.inl (bI ml)), some (.inl (nI q)), some (.inl (M2 14 (r - 1))), none]) hX d_R_run_164 rfl (by decide) rfl rfl ?_
        refine fm_iload_n (pq := 166) hX d_R_run_165 rfl rfl rfl ?_
        refine fm_if_lt (tgt := 179) (pq := 169) hX d_R_run_166 rfl rfl (fun h166 => ?_) (fun h166 => ?_)
        · show fm_G SR Y_R_run X M (fm_ir (fun v M' => ∃ M1, rK P M M1 ∧ rQ P ml M1 5 0 ∧ ∃ T, M' = rm_it P (rFt M1) T (rm_begin P M1) ∧ (∀ u, u < T → rm_live (rm_it P (rFt M1) u (rm_begin P M1))) ∧ ¬ rm_live M' ∧ v = M' 0 24)) 179 [some (.inr 0), some (.inl (bI ml)), some (.inl (nI q)), some (.inl (M2 14 (r - 1))), none] [] M2
          refine fm_aload_n (pq := 180) hX d_R_run_179 rfl rfl rfl ?_
          refine fm_iconst (pq := 181) (v := nI 0) hX d_R_run_180 (by decide) rfl ?_
          refine fm_callV_v (as := [.inl (nI 0)]) (st := []) (pq := 184) hX rfl rfl cR_176 rfl im_R_leave se_R_leave (k_R_leave M2 hr (by omega) (by omega) (t := t0) ht4 (fun _ => ht) (nI 0)) rfl rfl (Nat.le_of_ble_eq_true rfl) (Nat.le_of_ble_eq_true rfl) d_R_run_181 rfl ?_
          refine fm_goto (tgt := 236) hX d_R_run_184 rfl ?_
          refine fm_goto (tgt := 127) hX d_R_run_236 rfl ?_
          refine fm_drop 2 (ls1 := [some (.inr 0), some (.inl (bI ml)), none, some (.inl (M2 14 (r - 1))), none]) rfl ?_
          refine fm_drop 3 (ls1 := [some (.inr 0), some (.inl (bI ml)), none, none, none]) rfl ?_
          exact ih (by omega) _ (rm_go_l e2 hr (by omega) hq hq5 ht ht4 (by first | exact fun z => absurd h166 (Int32.not_lt.mpr z.1) | exact fun z => h176 z.2)) hl2
        · show fm_G SR Y_R_run X M (fm_ir (fun v M' => ∃ M1, rK P M M1 ∧ rQ P ml M1 5 0 ∧ ∃ T, M' = rm_it P (rFt M1) T (rm_begin P M1) ∧ (∀ u, u < T → rm_live (rm_it P (rFt M1) u (rm_begin P M1))) ∧ ¬ rm_live M' ∧ v = M' 0 24)) 169 [some (.inr 0), some (.inl (bI ml)), some (.inl (nI q)), some (.inl (M2 14 (r - 1))), none] [] M2
          refine fm_iload_n (pq := 170) hX d_R_run_169 rfl rfl rfl ?_
          refine fm_aload_n (pq := 171) hX d_R_run_170 rfl rfl rfl ?_
          refine fm_getr (pq := 174) (q := 2) hX fR_13 rfl rfl d_R_run_171 rfl ?_
          refine fm_iload_n (pq := 175) hX d_R_run_174 rfl rfl rfl ?_
          refine fm_iald (pq := 176) (v := nI (P.1 q)) hX rfl rfl rfl (by omega) (by decide) (hP2 q (by omega)).1 d_R_run_175 rfl ?_
          refine fm_icmp_lt (tgt := 187) (pq := 179) hX d_R_run_176 rfl rfl (fun h176 => ?_) (fun h176 => ?_)
          · show fm_G SR Y_R_run X M (fm_ir (fun v M' => ∃ M1, rK P M M1 ∧ rQ P ml M1 5 0 ∧ ∃ T, M' = rm_it P (rFt M1) T (rm_begin P M1) ∧ (∀ u, u < T → rm_live (rm_it P (rFt M1) u (rm_begin P M1))) ∧ ¬ rm_live M' ∧ v = M' 0 24)) 187 [some (.inr 0), some (.inl (bI ml)), some (.inl (nI q)), some (.inl (M2 14 (r - 1))), none] [] M2
            obtain ⟨i, hi, ei⟩ := cm_ix wq ⟨Int32.not_lt.mp h166, h176⟩
            rw [ei]
            obtain ⟨f0, hf0, ef0, _, _⟩ := hQ q i hq5 hi (by omega)
            have hft : rFt M1 q i = f0 := by unfold rFt; rw [ef0, cm_n_nI (by omega)]
            refine fm_aload_n (pq := 188) hX d_R_run_187 rfl rfl rfl ?_
            refine fm_geti (pq := 191) (v := nI dn) hX fR_201 rfl rfl hdn d_R_run_188 rfl ?_
            refine fm_sipush (pq := 194) (v := nI 400) hX d_R_run_191 (by decide) rfl ?_
            refine fm_n_ne (tgt := 205) (pq := 197) hX d_R_run_194 rfl rfl (by omega) (by omega) (fun h194 => ?_) (fun h194 => ?_)
            · show fm_G SR Y_R_run X M (fm_ir (fun v M' => ∃ M1, rK P M M1 ∧ rQ P ml M1 5 0 ∧ ∃ T, M' = rm_it P (rFt M1) T (rm_begin P M1) ∧ (∀ u, u < T → rm_live (rm_it P (rFt M1) u (rm_begin P M1))) ∧ ¬ rm_live M' ∧ v = M' 0 24)) 205 [some (.inr 0), some (.inl (bI ml)), some (.inl (nI q)), some (.inl (nI i)), none] [] M2
              refine fm_aload_n (pq := 206) hX d_R_run_205 rfl rfl rfl ?_
              refine fm_dup (pq := 207) hX d_R_run_206 rfl ?_
              refine fm_geti (pq := 210) (v := nI dn) hX fR_201 rfl rfl hdn d_R_run_207 rfl ?_
              refine fm_iconst (pq := 211) (v := nI 1) hX d_R_run_210 (by decide) rfl ?_
              refine fm_iadd (pq := 212) (v := nI (dn + 1)) hX d_R_run_211 (nI_add _ _) rfl ?_
              refine fm_puti (pq := 215) hX fR_201 pR_26 rfl rfl rfl rfl d_R_run_212 rfl ?_
              generalize hM3 : fm_up M2 0 26 (nI (dn + 1)) = M3
              have g3 : ∀ a j, ¬ (a = 0 ∧ j = 26) → M3 a j = M2 a j := fun a j h => by rw [← hM3, fm_up_n h]
              have hP3 : rP M3 P := rP_cg hP2 (fun a j h1 h2 => g3 a j (by omega))
              have hr3 : M3 0 14 = nI r := (g3 _ _ (by omega)).trans hr
              have hmd3 : M3 0 22 = nI md := (g3 _ _ (by omega)).trans hmd
              have hsh3 : M3 0 25 = nI sh := (g3 _ _ (by omega)).trans hsh
              have ht3 : 2 ≤ r → M3 15 (r - 1) = nI t0 := fun _ => (g3 _ _ (by omega)).trans ht
              have hpl3 : M3 14 (r - 1) = nI i := (g3 _ _ (by omega)).trans ei
              have hR4 : rm_RR (P.2.2 q i) < 4 := rm_RR_4 ((hw q hq5).2.2 i hi).2.1 ((hw q hq5).2.2 i hi).2.2.1
              have hob3 := hos _ hR4
              have hob4 : M3 16 (4 * (r - 1) + rm_RR (P.2.2 q i)) = nI (os (rm_RR (P.2.2 q i))) := (g3 _ _ (by omega)).trans hob3.1
              have ho5 := hob3.2
              have hf3 : M3 22 (24 * q + i) = nI (rFt M1 q i) := by rw [g3 _ _ (by omega), e2, rm_it_o ⟨by omega, by omega⟩, rm_begin_o ⟨by omega, by omega⟩, hft]; exact ef0
              refine fm_aload_n (pq := 216) hX d_R_run_215 rfl rfl rfl ?_
              refine fm_bipush (pq := 218) (v := nI 24) hX d_R_run_216 (by decide) rfl ?_
              refine fm_iload_n (pq := 219) hX d_R_run_218 rfl rfl rfl ?_
              refine fm_imul (pq := 220) (v := nI (24 * q)) hX d_R_run_219 (pk_mul _ _) rfl ?_
              refine fm_iload_n (pq := 221) hX d_R_run_220 rfl rfl rfl ?_
              refine fm_iadd (pq := 222) (v := nI (24 * q + i)) hX d_R_run_221 (nI_add _ _) rfl ?_
              refine fm_aload_n (pq := 223) hX d_R_run_222 rfl rfl rfl ?_
              refine fm_getr (pq := 226) (q := 22) hX fR_74 rfl rfl d_R_run_223 rfl ?_
              refine fm_bipush (pq := 228) (v := nI 24) hX d_R_run_226 (by decide) rfl ?_
              refine fm_iload_n (pq := 229) hX d_R_run_228 rfl rfl rfl ?_
              refine fm_imul (pq := 230) (v := nI (24 * q)) hX d_R_run_229 (pk_mul _ _) rfl ?_
              refine fm_iload_n (pq := 231) hX d_R_run_230 rfl rfl rfl ?_
              refine fm_iadd (pq := 232) (v := nI (24 * q + i)) hX d_R_run_231 (nI_add _ _) rfl ?_
              refine fm_iald (pq := 233) (v := nI (rFt M1 q i)) hX rfl rfl rfl (by omega) (by decide) hf3 d_R_run_232 rfl ?_
              refine fm_callV_v (as := [.inl (nI (24 * q + i)), .inl (nI (rFt M1 q i))]) (st := []) (pq := 236) hX rfl rfl cR_204 rfl im_R_does se_R_does (k_R_does (P := P) (m := q) (i := i) hq5 hi M3 hP3 hw (r := r) hr3 (by omega) (by omega) (md := md) (sh := sh) (t := t0) (ob := os (rm_RR (P.2.2 q i))) (f := rFt M1 q i) hmd3 (by omega) hsh3 (by omega) ht4 ht3 hpl3 (by omega) (fun _ => hob4) (by omega)) rfl rfl (Nat.le_of_ble_eq_true rfl) (Nat.le_of_ble_eq_true rfl) d_R_run_233 rfl ?_
              refine fm_goto (tgt := 127) hX d_R_run_236 rfl ?_
              refine fm_drop 2 (ls1 := [some (.inr 0), some (.inl (bI ml)), none, some (.inl (nI i)), none]) rfl ?_
              refine fm_drop 3 (ls1 := [some (.inr 0), some (.inl (bI ml)), none, none, none]) rfl ?_
              exact ih (by omega) _ (rm_go_p (hw := hw) e2 hr (by omega) hq hq5 ht ht4 hi ei hdn (by omega) hmd (by omega) hsh (by omega) hos hM3) hl2
            · show fm_G SR Y_R_run X M (fm_ir (fun v M' => ∃ M1, rK P M M1 ∧ rQ P ml M1 5 0 ∧ ∃ T, M' = rm_it P (rFt M1) T (rm_begin P M1) ∧ (∀ u, u < T → rm_live (rm_it P (rFt M1) u (rm_begin P M1))) ∧ ¬ rm_live M' ∧ v = M' 0 24)) 197 [some (.inr 0), some (.inl (bI ml)), some (.inl (nI q)), some (.inl (nI i)), none] [] M2
              refine fm_aload_n (pq := 198) hX d_R_run_197 rfl rfl rfl ?_
              refine fm_iconst (pq := 199) (v := nI 4) hX d_R_run_198 (by decide) rfl ?_
              refine fm_puti (pq := 202) hX fR_160 pR_24 rfl rfl rfl rfl d_R_run_199 rfl ?_
              refine fm_goto (tgt := 236) hX d_R_run_202 rfl ?_
              refine fm_goto (tgt := 127) hX d_R_run_236 rfl ?_
              refine fm_drop 2 (ls1 := [some (.inr 0), some (.inl (bI ml)), none, some (.inl (nI i)), none]) rfl ?_
              refine fm_drop 3 (ls1 := [some (.inr 0), some (.inl (bI ml)), none, none, none]) rfl ?_
              exact ih (by omega) _ (rm_go_f (hp := wq) e2 hr (by omega) hq hq5 hi ei hdn (by omega)) hl2
          · show fm_G SR Y_R_run X M (fm_ir (fun v M' => ∃ M1, rK P M M1 ∧ rQ P ml M1 5 0 ∧ ∃ T, M' = rm_it P (rFt M1) T (rm_begin P M1) ∧ (∀ u, u < T → rm_live (rm_it P (rFt M1) u (rm_begin P M1))) ∧ ¬ rm_live M' ∧ v = M' 0 24)) 179 [some (.inr 0), some (.inl (bI ml)), some (.inl (nI q)), some (.inl (M2 14 (r - 1))), none] [] M2
            refine fm_aload_n (pq := 180) hX d_R_run_179 rfl rfl rfl ?_
            refine fm_iconst (pq := 181) (v := nI 0) hX d_R_run_180 (by decide) rfl ?_
            refine fm_callV_v (as := [.inl (nI 0)]) (st := []) (pq := 184) hX rfl rfl cR_176 rfl im_R_leave se_R_leave (k_R_leave M2 hr (by omega) (by omega) (t := t0) ht4 (fun _ => ht) (nI 0)) rfl rfl (Nat.le_of_ble_eq_true rfl) (Nat.le_of_ble_eq_true rfl) d_R_run_181 rfl ?_
            refine fm_goto (tgt := 236) hX d_R_run_184 rfl ?_
            refine fm_goto (tgt := 127) hX d_R_run_236 rfl ?_
            refine fm_drop 2 (ls1 := [some (.inr 0), some (.inl (bI ml)), none, some (.inl (M2 14 (r - 1))), none]) rfl ?_
            refine fm_drop 3 (ls1 := [some (.inr 0), some (.inl (bI ml)), none, none, none]) rfl ?_
            exact ih (by omega) _ (rm_go_l e2 hr (by omega) hq hq5 ht ht4 (by first | exact fun z => absurd h166 (Int32.not_lt.mpr z.1) | exact fun z => h176 z.2)) hl2
  have L101 : ∀ M1, rK P M M1 → rQ P ml M1 5 0 → ∀ g, g ≤ 4 → fm_G SR Y_R_run X M (fm_ir (fun v M' => ∃ M1, rK P M M1 ∧ rQ P ml M1 5 0 ∧ ∃ T, M' = rm_it P (rFt M1) T (rm_begin P M1) ∧ (∀ u, u < T → rm_live (rm_it P (rFt M1) u (rm_begin P M1))) ∧ ¬ rm_live M' ∧ v = M' 0 24)) 101 [some (.inr 0), some (.inl (bI ml)), some (.inl (nI g)), none, none] [] (fm_fz (rm_six M1) 20 0 g (nI 0)) := by
    intro M1 hK hQ
    refine fm_ind 4 (fun g hle ih => ?_)
    refine fm_iload_n (pq := 102) hX d_R_run_101 rfl rfl rfl ?_
    refine fm_iconst (pq := 103) (v := nI 4) hX d_R_run_102 (by decide) rfl ?_
    refine fm_n_ge (tgt := 119) (pq := 106) hX d_R_run_103 rfl rfl (by omega) (by omega) (fun h103 => ?_) (fun h103 => ?_)
    · show fm_G SR Y_R_run X M (fm_ir (fun v M' => ∃ M1, rK P M M1 ∧ rQ P ml M1 5 0 ∧ ∃ T, M' = rm_it P (rFt M1) T (rm_begin P M1) ∧ (∀ u, u < T → rm_live (rm_it P (rFt M1) u (rm_begin P M1))) ∧ ¬ rm_live M' ∧ v = M' 0 24)) 119 [some (.inr 0), some (.inl (bI ml)), some (.inl (nI g)), none, none] [] (fm_fz (rm_six M1) 20 0 g (nI 0))
      have eg : g = 4 := by omega
      subst eg
      refine fm_aload_n (pq := 120) hX d_R_run_119 rfl rfl rfl ?_
      refine fm_iconst (pq := 121) (v := nI 0) hX d_R_run_120 (by decide) rfl ?_
      refine fm_iconst (pq := 122) (v := nI 0) hX d_R_run_121 (by decide) rfl ?_
      refine fm_iconst (pq := 123) (v := nI 0) hX d_R_run_122 (by decide) rfl ?_
      refine fm_iconst (pq := 124) (v := nI 0) hX d_R_run_123 (by decide) rfl ?_
      refine fm_callV_v (as := [.inl (nI 0), .inl (nI 0), .inl (nI 0), .inl (nI 0)]) (st := []) (pq := 127) hX rfl rfl cR_173 rfl im_R_enter se_R_enter (k_R_enter (P := P) (rm_zero M1) (rP_cg (rK_P hK hP) (fun a j h1 h2 => rm_zero_o (by omega) (by omega))) hw (r := 0) rm_zero_r (by omega) (m := 0) (t := 0) (by omega) (by omega) (nI 0) (nI 0)) rfl rfl (Nat.le_of_ble_eq_true rfl) (Nat.le_of_ble_eq_true rfl) d_R_run_124 rfl ?_
      refine fm_drop 2 (ls1 := [some (.inr 0), some (.inl (bI ml)), none, none, none]) rfl ?_
      exact L127 M1 hK hQ 0 (by omega) _ rfl (fun u hu => absurd hu (by omega))
    · show fm_G SR Y_R_run X M (fm_ir (fun v M' => ∃ M1, rK P M M1 ∧ rQ P ml M1 5 0 ∧ ∃ T, M' = rm_it P (rFt M1) T (rm_begin P M1) ∧ (∀ u, u < T → rm_live (rm_it P (rFt M1) u (rm_begin P M1))) ∧ ¬ rm_live M' ∧ v = M' 0 24)) 106 [some (.inr 0), some (.inl (bI ml)), some (.inl (nI g)), none, none] [] (fm_fz (rm_six M1) 20 0 g (nI 0))
      refine fm_aload_n (pq := 107) hX d_R_run_106 rfl rfl rfl ?_
      refine fm_getr (pq := 110) (q := 20) hX fR_68 rfl rfl d_R_run_107 rfl ?_
      refine fm_iload_n (pq := 111) hX d_R_run_110 rfl rfl rfl ?_
      refine fm_iconst (pq := 112) (v := nI 0) hX d_R_run_111 (by decide) rfl ?_
      refine fm_iast (pq := 113) hX rfl rfl rfl (by omega) (by decide) d_R_run_112 rfl ?_
      refine fm_mem (M' := fm_fz (rm_six M1) 20 0 (g + 1) (nI 0)) (by have := fm_fz_s (rm_six M1) 20 0 g (nI 0); rw [Nat.zero_add] at this; exact this) ?_
      refine fm_iinc (pq := 116) (v := nI (g + 1)) (ls1 := [some (.inr 0), some (.inl (bI ml)), some (.inl (nI (g + 1))), none, none]) hX d_R_run_113 rfl (nI_add _ _) (by decide) rfl rfl ?_
      refine fm_goto (tgt := 101) hX d_R_run_116 rfl ?_
      exact ih (by omega)
  have L18 : ∀ m, m < 5 → (∀ M1, rK P M M1 → rQ P ml M1 (m + 1) 0 → fm_G SR Y_R_run X M (fm_ir (fun v M' => ∃ M1, rK P M M1 ∧ rQ P ml M1 5 0 ∧ ∃ T, M' = rm_it P (rFt M1) T (rm_begin P M1) ∧ (∀ u, u < T → rm_live (rm_it P (rFt M1) u (rm_begin P M1))) ∧ ¬ rm_live M' ∧ v = M' 0 24)) 63 [some (.inr 0), some (.inl (bI ml)), some (.inl (nI m)), none, none] [] M1) → ∀ i, i ≤ P.1 m → ∀ M1, rK P M M1 → rQ P ml M1 m i → fm_G SR Y_R_run X M (fm_ir (fun v M' => ∃ M1, rK P M M1 ∧ rQ P ml M1 5 0 ∧ ∃ T, M' = rm_it P (rFt M1) T (rm_begin P M1) ∧ (∀ u, u < T → rm_live (rm_it P (rFt M1) u (rm_begin P M1))) ∧ ¬ rm_live M' ∧ v = M' 0 24)) 18 [some (.inr 0), some (.inl (bI ml)), some (.inl (nI m)), some (.inl (nI i)), none] [] M1 := by
    intro m hm K
    have wl := (hw m hm).1
    refine fm_ind (P.1 m) (fun i hle ih => ?_)
    intro M1 hK hQ
    have hP1 := rK_P hK hP
    refine fm_iload_n (pq := 19) hX d_R_run_18 rfl rfl rfl ?_
    refine fm_aload_n (pq := 20) hX d_R_run_19 rfl rfl rfl ?_
    refine fm_getr (pq := 23) (q := 2) hX fR_13 rfl rfl d_R_run_20 rfl ?_
    refine fm_iload_n (pq := 24) hX d_R_run_23 rfl rfl rfl ?_
    refine fm_iald (pq := 25) (v := nI (P.1 m)) hX rfl rfl rfl (by omega) (by decide) (hP1 m (by omega)).1 d_R_run_24 rfl ?_
    refine fm_n_ge (tgt := 63) (pq := 28) hX d_R_run_25 rfl rfl (by omega) (by omega) (fun h25 => ?_) (fun h25 => ?_)
    · show fm_G SR Y_R_run X M (fm_ir (fun v M' => ∃ M1, rK P M M1 ∧ rQ P ml M1 5 0 ∧ ∃ T, M' = rm_it P (rFt M1) T (rm_begin P M1) ∧ (∀ u, u < T → rm_live (rm_it P (rFt M1) u (rm_begin P M1))) ∧ ¬ rm_live M' ∧ v = M' 0 24)) 63 [some (.inr 0), some (.inl (bI ml)), some (.inl (nI m)), some (.inl (nI i)), none] [] M1
      refine fm_drop 3 rfl ?_
      exact K M1 hK (rQ_n hQ (by omega))
    · show fm_G SR Y_R_run X M (fm_ir (fun v M' => ∃ M1, rK P M M1 ∧ rQ P ml M1 5 0 ∧ ∃ T, M' = rm_it P (rFt M1) T (rm_begin P M1) ∧ (∀ u, u < T → rm_live (rm_it P (rFt M1) u (rm_begin P M1))) ∧ ¬ rm_live M' ∧ v = M' 0 24)) 28 [some (.inr 0), some (.inl (bI ml)), some (.inl (nI m)), some (.inl (nI i)), none] [] M1
      have L42 : ∀ (v : Int32) (M5 : fm_M), rQ P ml (fm_up M5 22 (24 * m + i) v) m (i + 1) → rK P M M5 → fm_G SR Y_R_run X M (fm_ir (fun v M' => ∃ M1, rK P M M1 ∧ rQ P ml M1 5 0 ∧ ∃ T, M' = rm_it P (rFt M1) T (rm_begin P M1) ∧ (∀ u, u < T → rm_live (rm_it P (rFt M1) u (rm_begin P M1))) ∧ ¬ rm_live M' ∧ v = M' 0 24)) 42 [some (.inr 0), some (.inl (bI ml)), some (.inl (nI m)), some (.inl (nI i)), none] [.inl v] M5 := by
        intro v M5 hQ2 hK35
        refine fm_istore (pq := 44) (ls1 := [some (.inr 0), some (.inl (bI ml)), some (.inl (nI m)), some (.inl (nI i)), some (.inl v)]) hX d_R_run_42 (by decide) rfl rfl ?_
        refine fm_aload_n (pq := 45) hX d_R_run_44 rfl rfl rfl ?_
        refine fm_getr (pq := 48) (q := 22) hX fR_74 rfl rfl d_R_run_45 rfl ?_
        refine fm_bipush (pq := 50) (v := nI 24) hX d_R_run_48 (by decide) rfl ?_
        refine fm_iload_n (pq := 51) hX d_R_run_50 rfl rfl rfl ?_
        refine fm_imul (pq := 52) (v := nI (24 * m)) hX d_R_run_51 (pk_mul _ _) rfl ?_
        refine fm_iload_n (pq := 53) hX d_R_run_52 rfl rfl rfl ?_
        refine fm_iadd (pq := 54) (v := nI (24 * m + i)) hX d_R_run_53 (nI_add _ _) rfl ?_
        refine fm_iload (pq := 56) hX d_R_run_54 rfl rfl ?_
        refine fm_iast (pq := 57) hX rfl rfl rfl (by omega) (by decide) d_R_run_56 rfl ?_
        refine fm_iinc (pq := 60) (v := nI (i + 1)) (ls1 := [some (.inr 0), some (.inl (bI ml)), some (.inl (nI m)), some (.inl (nI (i + 1))), some (.inl v)]) hX d_R_run_57 rfl (nI_add _ _) (by decide) rfl rfl ?_
        refine fm_goto (tgt := 18) hX d_R_run_60 rfl ?_
        refine fm_drop 4 (ls1 := [some (.inr 0), some (.inl (bI ml)), some (.inl (nI m)), some (.inl (nI (i + 1))), none]) rfl ?_
        exact ih (by omega) _ (rK_22 hi2 (by first | exact hK35 | exact hK)) hQ2
      refine fm_iload_n (pq := 29) hX d_R_run_28 rfl rfl rfl ?_
      refine fm_b1_eq (tgt := 41) (pq := 32) hX d_R_run_29 rfl rfl (fun h29 => ?_) (fun h29 => ?_)
      · show fm_G SR Y_R_run X M (fm_ir (fun v M' => ∃ M1, rK P M M1 ∧ rQ P ml M1 5 0 ∧ ∃ T, M' = rm_it P (rFt M1) T (rm_begin P M1) ∧ (∀ u, u < T → rm_live (rm_it P (rFt M1) u (rm_begin P M1))) ∧ ¬ rm_live M' ∧ v = M' 0 24)) 41 [some (.inr 0), some (.inl (bI ml)), some (.inl (nI m)), some (.inl (nI i)), none] [] M1
        refine fm_iconst (pq := 42) (v := nI 0) hX d_R_run_41 (by decide) rfl ?_
        exact L42 _ _ (rQ_s hw hm hQ (fr12_rf _) 0 (by omega) rfl (fun z => absurd (h29.symm.trans z) (by decide)) (fun _ => rfl)) hK
      · show fm_G SR Y_R_run X M (fm_ir (fun v M' => ∃ M1, rK P M M1 ∧ rQ P ml M1 5 0 ∧ ∃ T, M' = rm_it P (rFt M1) T (rm_begin P M1) ∧ (∀ u, u < T → rm_live (rm_it P (rFt M1) u (rm_begin P M1))) ∧ ¬ rm_live M' ∧ v = M' 0 24)) 32 [some (.inr 0), some (.inl (bI ml)), some (.inl (nI m)), some (.inl (nI i)), none] [] M1
        refine fm_aload_n (pq := 33) hX d_R_run_32 rfl rfl rfl ?_
        refine fm_iload_n (pq := 34) hX d_R_run_33 rfl rfl rfl ?_
        refine fm_iload_n (pq := 35) hX d_R_run_34 rfl rfl rfl ?_
        refine fm_callV_x (as := [.inl (nI m), .inl (nI i)]) (st := []) (pq := 38) hX rfl rfl cR_198 rfl im_R_fateOf se_R_fateOf (k_R_fateOf (m := m) (by omega) M1 hP1 hw (i := i) (by omega)) rfl rfl (Nat.le_of_ble_eq_true rfl) (Nat.le_of_ble_eq_true rfl) d_R_run_35 rfl (fun v35 M35 c35 => ?_)
        have hP35 := fr12_P c35.2 hP1
        have hK35 := rK_12 hi2 hK c35.2
        obtain ⟨f35, hf35, ef35⟩ := fa_is_le c35.1
        refine fm_goto (tgt := 42) hX d_R_run_38 rfl ?_
        exact L42 _ _ (rQ_s hw hm hQ c35.2 f35 hf35 ef35 (fun _ => c35.1) (fun z => absurd (h29.symm.trans z) (by decide))) hK35
  have L11 : ∀ m, m ≤ 5 → ∀ M1, rK P M M1 → rQ P ml M1 m 0 → fm_G SR Y_R_run X M (fm_ir (fun v M' => ∃ M1, rK P M M1 ∧ rQ P ml M1 5 0 ∧ ∃ T, M' = rm_it P (rFt M1) T (rm_begin P M1) ∧ (∀ u, u < T → rm_live (rm_it P (rFt M1) u (rm_begin P M1))) ∧ ¬ rm_live M' ∧ v = M' 0 24)) 11 [some (.inr 0), some (.inl (bI ml)), some (.inl (nI m)), none, none] [] M1 := by
    refine fm_ind 5 (fun m hle ih => ?_)
    intro M1 hK hQ
    have hP1 := rK_P hK hP
    refine fm_iload_n (pq := 12) hX d_R_run_11 rfl rfl rfl ?_
    refine fm_iconst (pq := 13) (v := nI 5) hX d_R_run_12 (by decide) rfl ?_
    refine fm_n_ge (tgt := 69) (pq := 16) hX d_R_run_13 rfl rfl (by omega) (by omega) (fun h13 => ?_) (fun h13 => ?_)
    · show fm_G SR Y_R_run X M (fm_ir (fun v M' => ∃ M1, rK P M M1 ∧ rQ P ml M1 5 0 ∧ ∃ T, M' = rm_it P (rFt M1) T (rm_begin P M1) ∧ (∀ u, u < T → rm_live (rm_it P (rFt M1) u (rm_begin P M1))) ∧ ¬ rm_live M' ∧ v = M' 0 24)) 69 [some (.inr 0), some (.inl (bI ml)), some (.inl (nI m)), none, none] [] M1
      have em : m = 5 := by omega
      subst em
      refine fm_aload_n (pq := 70) hX d_R_run_69 rfl rfl rfl ?_
      refine fm_iconst (pq := 71) (v := nI 0) hX d_R_run_70 (by decide) rfl ?_
      refine fm_puti (pq := 74) hX fR_157 pR_14 rfl rfl rfl rfl d_R_run_71 rfl ?_
      refine fm_aload_n (pq := 75) hX d_R_run_74 rfl rfl rfl ?_
      refine fm_iconst (pq := 76) (v := nI 0) hX d_R_run_75 (by decide) rfl ?_
      refine fm_puti (pq := 79) hX fR_170 pR_22 rfl rfl rfl rfl d_R_run_76 rfl ?_
      refine fm_aload_n (pq := 80) hX d_R_run_79 rfl rfl rfl ?_
      refine fm_iconst (pq := 81) (v := nI 0) hX d_R_run_80 (by decide) rfl ?_
      refine fm_puti (pq := 84) hX fR_160 pR_24 rfl rfl rfl rfl d_R_run_81 rfl ?_
      refine fm_aload_n (pq := 85) hX d_R_run_84 rfl rfl rfl ?_
      refine fm_iconst (pq := 86) (v := nI 0) hX d_R_run_85 (by decide) rfl ?_
      refine fm_puti (pq := 89) hX fR_179 pR_25 rfl rfl rfl rfl d_R_run_86 rfl ?_
      refine fm_aload_n (pq := 90) hX d_R_run_89 rfl rfl rfl ?_
      refine fm_iconst (pq := 91) (v := nI 0) hX d_R_run_90 (by decide) rfl ?_
      refine fm_puti (pq := 94) hX fR_201 pR_26 rfl rfl rfl rfl d_R_run_91 rfl ?_
      refine fm_aload_n (pq := 95) hX d_R_run_94 rfl rfl rfl ?_
      refine fm_iconst (pq := 96) (v := nI 0) hX d_R_run_95 (by decide) rfl ?_
      refine fm_puti (pq := 99) hX fR_167 pR_27 rfl rfl rfl rfl d_R_run_96 rfl ?_
      refine fm_iconst (pq := 100) (v := nI 0) hX d_R_run_99 (by decide) rfl ?_
      refine fm_istore_n (pq := 101) (ls1 := [some (.inr 0), some (.inl (bI ml)), some (.inl (nI 0)), none, none]) hX d_R_run_100 rfl (by decide) rfl rfl ?_
      refine fm_mem (fm_fz_0 _ 20 0 (nI 0)).symm ?_
      exact L101 M1 hK hQ 0 (by omega)
    · show fm_G SR Y_R_run X M (fm_ir (fun v M' => ∃ M1, rK P M M1 ∧ rQ P ml M1 5 0 ∧ ∃ T, M' = rm_it P (rFt M1) T (rm_begin P M1) ∧ (∀ u, u < T → rm_live (rm_it P (rFt M1) u (rm_begin P M1))) ∧ ¬ rm_live M' ∧ v = M' 0 24)) 16 [some (.inr 0), some (.inl (bI ml)), some (.inl (nI m)), none, none] [] M1
      refine fm_iconst (pq := 17) (v := nI 0) hX d_R_run_16 (by decide) rfl ?_
      refine fm_istore_n (pq := 18) (ls1 := [some (.inr 0), some (.inl (bI ml)), some (.inl (nI m)), some (.inl (nI 0)), none]) hX d_R_run_17 rfl (by decide) rfl rfl ?_
      exact L18 m (by omega) (fun M1 hK hQ => by
        refine fm_iinc (v := nI (m + 1)) (ls1 := [some (.inr 0), some (.inl (bI ml)), some (.inl (nI (m + 1))), none, none]) (pq := 66) hX d_R_run_63 rfl (nI_add _ _) (by decide) rfl rfl ?_
        refine fm_goto (tgt := 11) hX d_R_run_66 rfl ?_
        exact ih (by omega) _ hK hQ) 0 (by omega) M1 hK hQ
  show fm_G SR Y_R_run X M (fm_ir (fun v M' => ∃ M1, rK P M M1 ∧ rQ P ml M1 5 0 ∧ ∃ T, M' = rm_it P (rFt M1) T (rm_begin P M1) ∧ (∀ u, u < T → rm_live (rm_it P (rFt M1) u (rm_begin P M1))) ∧ ¬ rm_live M' ∧ v = M' 0 24)) 0 [some (.inr 0), some (.inl (bI ml)), none, none, none] [] M
  refine fm_aload_n (pq := 1) hX d_R_run_0 rfl rfl rfl ?_
  refine fm_iconst (pq := 2) (v := nI 0) hX d_R_run_1 (by decide) rfl ?_
  refine fm_puti (pq := 5) hX fR_77 pR_0 rfl rfl rfl rfl d_R_run_2 rfl ?_
  refine fm_aload_n (pq := 6) hX d_R_run_5 rfl rfl rfl ?_
  refine fm_callV_r (as := []) (st := []) (pq := 9) hX rfl rfl cR_195 rfl im_R_know se_R_know (k_R_know (fm_up M 0 0 (nI 0)) (rP_cg hP (fun a j h1 h2 => fm_up_a (by omega))) hw b (by rw [fm_up_n (by omega)]; exact hb) (fun z => rT_cg hi2 (hT z) (fun a j h1 h2 => fm_up_a (by omega)))) rfl rfl (Nat.le_of_ble_eq_true rfl) (Nat.le_of_ble_eq_true rfl) d_R_run_6 rfl (fun M6 c6 => ?_)
  have hK6 := rK_0 c6
  have hP6 := rK_P hK6 hP
  refine fm_iconst (pq := 10) (v := nI 0) hX d_R_run_9 (by decide) rfl ?_
  refine fm_istore_n (pq := 11) (ls1 := [some (.inr 0), some (.inl (bI ml)), some (.inl (nI 0)), none, none]) hX d_R_run_10 rfl (by decide) rfl rfl ?_
  exact L11 0 (by omega) M6 hK6 (fun n k h1 h2 h3 => absurd h3 (by omega))
