/-! The reference: analyse (written by program) -/
theorem an_sm_1b {σ : an_T} {k p : Nat} (h : bt (an_rc σ.2.1 an_W) (24 + p) = false) {ot : Int32} (ho : ot = if k = 2 then an_rc σ.2.1 (an_1 (25 - p)) else 0) (h2 : ¬ (an_rc σ.2.1 (an_1 (24 + p)) &&& (an_rc σ.2.1 σ.2.2 ||| ot)) = 0) : an_sm σ k p = 1 := by
  unfold an_sm
  rw [if_neg (by rw [h]; decide), if_pos (by rw [← ho]; exact h2)]
theorem an_sm_0b {σ : an_T} {k p : Nat} (h : bt (an_rc σ.2.1 an_W) (24 + p) = false) {ot : Int32} (ho : ot = if k = 2 then an_rc σ.2.1 (an_1 (25 - p)) else 0) (h2 : (an_rc σ.2.1 (an_1 (24 + p)) &&& (an_rc σ.2.1 σ.2.2 ||| ot)) = 0) : an_sm σ k p = 0 := by
  unfold an_sm
  rw [if_neg (by rw [h]; decide), if_neg (fun q => q (by rw [← ho]; exact h2))]
abbrev Y_R_analyse : fm_Y := ("EscapeMillModel", b_R_analyse, 8, none, 4)
set_option maxRecDepth 100000 in
set_option maxHeartbeats 4000000 in
theorem k_R_analyse {P : pr_T} {m : Nat} (hm : m < 5) (M : fm_M) (hP : rP M P) (hw : pr_wf P) (S : Nat → an_T) (hS : ∀ n, m < n → n < 5 → rOK P S n M) : fm_ct SR y_R_analyse b_R_analyse 8 none 4 [.inr 0, .inl (nI m)] M (fm_vr (fun M' => ∃ σ, an_is1 P (fun n => if n = m then σ else S n) m ∧ rOK P (fun n => if n = m then σ else S n) m M' ∧ ∀ a j, ¬ rFa m a j → M' a j = M a j)) := by
  refine fm_of (ls := [some (.inr 0), some (.inl (nI m)), none, none, none, none, none, none]) (by decide) wsA_good (Nat.le_of_ble_eq_true rfl) rfl (fun X hX => ?_)
  obtain ⟨wl, wi, wI⟩ := hw m hm
  have hi2 : ∀ n, n < 5 → P.2.1 n ≤ 2 := fun n hn => (hw n hn).2.1
  have hE : rE P m (an_env P m S) M := rE_of hS
  have hPz : rP (rZ M m) P := rP_cg hP (fun a j h1 h2 => rZ_o (by unfold rFa rW; omega))
  have hEz : rE P m (an_env P m S) (rZ M m) := rE_cg hi2 hE (fun a j q => rZ_o q)
  have L225 : P.1 m ≠ 0 → ∀ (M1 : fm_M), rP M1 P → (∀ a j, ¬ rFa m a j → M1 a j = M a j) → an_sol (an_s0 (P.2.1 m)) (P.1 m) (fun i => an_ok (an_env P m S) i (P.2.2 m i)) (rA M1 m) → ∀ p, p ≤ P.2.1 m → ∀ M2, rU m (P.2.1 m) p M1 M2 → fm_G SR Y_R_analyse X M (fm_vr (fun M' => ∃ σ, an_is1 P (fun n => if n = m then σ else S n) m ∧ rOK P (fun n => if n = m then σ else S n) m M' ∧ ∀ a j, ¬ rFa m a j → M' a j = M a j)) 225 [some (.inr 0), some (.inl (nI m)), none, none, some (.inl (an_rc (rA M1 m).2.1 an_W)), some (.inl (an_rc (rA M1 m).2.1 (rA M1 m).2.2)), some (.inl (nI p)), none] [] M2 := by
    intro hn M1 hP1 hf1 hs1
    refine fm_ind (P.2.1 m) (fun p hle ih => ?_)
    intro M2 hu
    have hP2 : rP M2 P := rP_cg hP1 (fun a j h1 h2 => hu.1 a j (by omega))
    have hA2 := rU_A hu
    refine fm_iload (pq := 227) hX d_R_analyse_225 rfl rfl ?_
    refine fm_aload_n (pq := 228) hX d_R_analyse_227 rfl rfl rfl ?_
    refine fm_getr (pq := 231) (q := 1) hX fR_7 rfl rfl d_R_analyse_228 rfl ?_
    refine fm_iload_n (pq := 232) hX d_R_analyse_231 rfl rfl rfl ?_
    refine fm_iald (pq := 233) (v := nI (P.2.1 m)) hX rfl rfl rfl (by omega) (by decide) (hP2 m (by omega)).2.1 d_R_analyse_232 rfl ?_
    refine fm_n_ge (tgt := 325) (pq := 236) hX d_R_analyse_233 rfl rfl (by omega) (by omega) (fun h233 => ?_) (fun h233 => ?_)
    · show fm_G SR Y_R_analyse X M (fm_vr (fun M' => ∃ σ, an_is1 P (fun n => if n = m then σ else S n) m ∧ rOK P (fun n => if n = m then σ else S n) m M' ∧ ∀ a j, ¬ rFa m a j → M' a j = M a j)) 325 [some (.inr 0), some (.inl (nI m)), none, none, some (.inl (an_rc (rA M1 m).2.1 an_W)), some (.inl (an_rc (rA M1 m).2.1 (rA M1 m).2.2)), some (.inl (nI p)), none] [] M2
      refine fm_vret hX rfl d_R_analyse_325 ?_
      have ep : p = P.2.1 m := by omega
      rw [ep] at hu
      exact ⟨rfl, rG_end hn hf1 hs1 hu⟩
    · show fm_G SR Y_R_analyse X M (fm_vr (fun M' => ∃ σ, an_is1 P (fun n => if n = m then σ else S n) m ∧ rOK P (fun n => if n = m then σ else S n) m M' ∧ ∀ a j, ¬ rFa m a j → M' a j = M a j)) 236 [some (.inr 0), some (.inl (nI m)), none, none, some (.inl (an_rc (rA M1 m).2.1 an_W)), some (.inl (an_rc (rA M1 m).2.1 (rA M1 m).2.2)), some (.inl (nI p)), none] [] M2
      have L262 : ∀ v : Int32, v = (if P.2.1 m = 2 then an_rc (rA M1 m).2.1 (an_1 (25 - p)) else 0) → fm_G SR Y_R_analyse X M (fm_vr (fun M' => ∃ σ, an_is1 P (fun n => if n = m then σ else S n) m ∧ rOK P (fun n => if n = m then σ else S n) m M' ∧ ∀ a j, ¬ rFa m a j → M' a j = M a j)) 262 [some (.inr 0), some (.inl (nI m)), none, none, some (.inl (an_rc (rA M1 m).2.1 an_W)), some (.inl (an_rc (rA M1 m).2.1 (rA M1 m).2.2)), some (.inl (nI p)), none] [.inl v] M2 := by
        intro v262 hv262
        refine fm_istore (pq := 264) (ls1 := [some (.inr 0), some (.inl (nI m)), none, none, some (.inl (an_rc (rA M1 m).2.1 an_W)), some (.inl (an_rc (rA M1 m).2.1 (rA M1 m).2.2)), some (.inl (nI p)), some (.inl v262)]) hX d_R_analyse_262 (by decide) rfl rfl ?_
        refine fm_aload_n (pq := 265) hX d_R_analyse_264 rfl rfl rfl ?_
        refine fm_getr (pq := 268) (q := 11) hX fR_40 rfl rfl d_R_analyse_265 rfl ?_
        refine fm_iconst (pq := 269) (v := nI 2) hX d_R_analyse_268 (by decide) rfl ?_
        refine fm_iload_n (pq := 270) hX d_R_analyse_269 rfl rfl rfl ?_
        refine fm_imul (pq := 271) (v := nI (2 * m)) hX d_R_analyse_270 (pk_mul _ _) rfl ?_
        refine fm_iload (pq := 273) hX d_R_analyse_271 rfl rfl ?_
        refine fm_iadd (pq := 274) (v := nI (2 * m + p)) hX d_R_analyse_273 (nI_add _ _) rfl ?_
        have L318 : ∀ v : Int32, v = nI (an_sm (rA M1 m) (P.2.1 m) p) → fm_G SR Y_R_analyse X M (fm_vr (fun M' => ∃ σ, an_is1 P (fun n => if n = m then σ else S n) m ∧ rOK P (fun n => if n = m then σ else S n) m M' ∧ ∀ a j, ¬ rFa m a j → M' a j = M a j)) 318 [some (.inr 0), some (.inl (nI m)), none, none, some (.inl (an_rc (rA M1 m).2.1 an_W)), some (.inl (an_rc (rA M1 m).2.1 (rA M1 m).2.2)), some (.inl (nI p)), some (.inl v262)] [.inl v, .inl (nI (2 * m + p)), .inr 11] M2 := by
          intro v hv
          subst hv
          refine fm_iast (pq := 319) hX rfl rfl rfl (by omega) (by decide) d_R_analyse_318 rfl ?_
          refine fm_iinc (pq := 322) (v := nI (p + 1)) (ls1 := [some (.inr 0), some (.inl (nI m)), none, none, some (.inl (an_rc (rA M1 m).2.1 an_W)), some (.inl (an_rc (rA M1 m).2.1 (rA M1 m).2.2)), some (.inl (nI (p + 1))), some (.inl v262)]) hX d_R_analyse_319 rfl (nI_add _ _) (by decide) rfl rfl ?_
          refine fm_goto (tgt := 225) hX d_R_analyse_322 rfl ?_
          refine fm_drop 7 (ls1 := [some (.inr 0), some (.inl (nI m)), none, none, some (.inl (an_rc (rA M1 m).2.1 an_W)), some (.inl (an_rc (rA M1 m).2.1 (rA M1 m).2.2)), some (.inl (nI (p + 1))), none]) rfl ?_
          exact ih (by omega) _ (rU_s hu (by omega))
        refine fm_iload (pq := 276) hX d_R_analyse_274 rfl rfl ?_
        refine fm_bipush (pq := 278) (v := nI 24) hX d_R_analyse_276 (by decide) rfl ?_
        refine fm_iload (pq := 280) hX d_R_analyse_278 rfl rfl ?_
        refine fm_iadd (pq := 281) (v := nI (24 + p)) hX d_R_analyse_280 (nI_add _ _) rfl ?_
        refine fm_ishr (pq := 282) (v := (an_rc (rA M1 m).2.1 an_W) >>> (nI (24 + p) &&& 31)) hX d_R_analyse_281 rfl rfl ?_
        refine fm_iconst (pq := 283) (v := nI 1) hX d_R_analyse_282 (by decide) rfl ?_
        refine fm_iand (pq := 284) (v := bI (bt (an_rc (rA M1 m).2.1 an_W) (24 + p))) hX d_R_analyse_283 (fm_bit _ (by omega)) rfl ?_
        refine fm_iconst (pq := 285) (v := nI 1) hX d_R_analyse_284 (by decide) rfl ?_
        refine fm_b2_ne1 (tgt := 292) (pq := 288) hX d_R_analyse_285 rfl rfl (fun h285 => ?_) (fun h285 => ?_)
        · show fm_G SR Y_R_analyse X M (fm_vr (fun M' => ∃ σ, an_is1 P (fun n => if n = m then σ else S n) m ∧ rOK P (fun n => if n = m then σ else S n) m M' ∧ ∀ a j, ¬ rFa m a j → M' a j = M a j)) 292 [some (.inr 0), some (.inl (nI m)), none, none, some (.inl (an_rc (rA M1 m).2.1 an_W)), some (.inl (an_rc (rA M1 m).2.1 (rA M1 m).2.2)), some (.inl (nI p)), some (.inl v262)] [.inl (nI (2 * m + p)), .inr 11] M2
          refine fm_aload_n (pq := 293) hX d_R_analyse_292 rfl rfl rfl ?_
          refine fm_iload_n (pq := 294) hX d_R_analyse_293 rfl rfl rfl ?_
          refine fm_iconst (pq := 295) (v := nI 1) hX d_R_analyse_294 (by decide) rfl ?_
          refine fm_bipush (pq := 297) (v := nI 24) hX d_R_analyse_295 (by decide) rfl ?_
          refine fm_iload (pq := 299) hX d_R_analyse_297 rfl rfl ?_
          refine fm_iadd (pq := 300) (v := nI (24 + p)) hX d_R_analyse_299 (nI_add _ _) rfl ?_
          refine fm_ishl (pq := 301) (v := an_1 (24 + p)) hX d_R_analyse_300 rfl rfl ?_
          refine fm_callV_i (as := [.inl (nI m), .inl (an_1 (24 + p))]) (st := [.inl (nI (2 * m + p)), .inr 11]) (pq := 304) hX rfl rfl cR_93 rfl im_R_reached se_R_reached (k_R_reached (m := m) (by omega) M2 (an_1 (24 + p))) rfl rfl (Nat.le_of_ble_eq_true rfl) (Nat.le_of_ble_eq_true rfl) d_R_analyse_301 rfl ?_
          refine fm_iload (pq := 306) hX d_R_analyse_304 rfl rfl ?_
          refine fm_iload (pq := 308) hX d_R_analyse_306 rfl rfl ?_
          refine fm_ior (pq := 309) (v := (an_rc (rA M1 m).2.1 (rA M1 m).2.2) ||| v262) hX d_R_analyse_308 rfl rfl ?_
          refine fm_iand (pq := 310) (v := (an_rc (rA M2 m).2.1 (an_1 (24 + p))) &&& ((an_rc (rA M1 m).2.1 (rA M1 m).2.2) ||| v262)) hX d_R_analyse_309 rfl rfl ?_
          refine fm_if_eq (tgt := 317) (pq := 313) hX d_R_analyse_310 rfl rfl (fun h310 => ?_) (fun h310 => ?_)
          · show fm_G SR Y_R_analyse X M (fm_vr (fun M' => ∃ σ, an_is1 P (fun n => if n = m then σ else S n) m ∧ rOK P (fun n => if n = m then σ else S n) m M' ∧ ∀ a j, ¬ rFa m a j → M' a j = M a j)) 317 [some (.inr 0), some (.inl (nI m)), none, none, some (.inl (an_rc (rA M1 m).2.1 an_W)), some (.inl (an_rc (rA M1 m).2.1 (rA M1 m).2.2)), some (.inl (nI p)), some (.inl v262)] [.inl (nI (2 * m + p)), .inr 11] M2
            refine fm_iconst (pq := 318) (v := nI 0) hX d_R_analyse_317 (by decide) rfl ?_
            first | exact L318 _ (by rw [an_sm, if_pos h285]) | exact L318 _ (by rw [an_sm_1b h285 hv262 (by rw [hA2] at h310; exact h310)]) | exact L318 _ (by rw [an_sm_0b h285 hv262 (by rw [hA2] at h310; exact h310)])
          · show fm_G SR Y_R_analyse X M (fm_vr (fun M' => ∃ σ, an_is1 P (fun n => if n = m then σ else S n) m ∧ rOK P (fun n => if n = m then σ else S n) m M' ∧ ∀ a j, ¬ rFa m a j → M' a j = M a j)) 313 [some (.inr 0), some (.inl (nI m)), none, none, some (.inl (an_rc (rA M1 m).2.1 an_W)), some (.inl (an_rc (rA M1 m).2.1 (rA M1 m).2.2)), some (.inl (nI p)), some (.inl v262)] [.inl (nI (2 * m + p)), .inr 11] M2
            refine fm_iconst (pq := 314) (v := nI 1) hX d_R_analyse_313 (by decide) rfl ?_
            refine fm_goto (tgt := 318) hX d_R_analyse_314 rfl ?_
            first | exact L318 _ (by rw [an_sm, if_pos h285]) | exact L318 _ (by rw [an_sm_1b h285 hv262 (by rw [hA2] at h310; exact h310)]) | exact L318 _ (by rw [an_sm_0b h285 hv262 (by rw [hA2] at h310; exact h310)])
        · show fm_G SR Y_R_analyse X M (fm_vr (fun M' => ∃ σ, an_is1 P (fun n => if n = m then σ else S n) m ∧ rOK P (fun n => if n = m then σ else S n) m M' ∧ ∀ a j, ¬ rFa m a j → M' a j = M a j)) 288 [some (.inr 0), some (.inl (nI m)), none, none, some (.inl (an_rc (rA M1 m).2.1 an_W)), some (.inl (an_rc (rA M1 m).2.1 (rA M1 m).2.2)), some (.inl (nI p)), some (.inl v262)] [.inl (nI (2 * m + p)), .inr 11] M2
          refine fm_iconst (pq := 289) (v := nI 2) hX d_R_analyse_288 (by decide) rfl ?_
          refine fm_goto (tgt := 318) hX d_R_analyse_289 rfl ?_
          first | exact L318 _ (by rw [an_sm, if_pos h285]) | exact L318 _ (by rw [an_sm_1b h285 hv262 (by rw [hA2] at h310; exact h310)]) | exact L318 _ (by rw [an_sm_0b h285 hv262 (by rw [hA2] at h310; exact h310)])
      refine fm_aload_n (pq := 237) hX d_R_analyse_236 rfl rfl rfl ?_
      refine fm_getr (pq := 240) (q := 1) hX fR_7 rfl rfl d_R_analyse_237 rfl ?_
      refine fm_iload_n (pq := 241) hX d_R_analyse_240 rfl rfl rfl ?_
      refine fm_iald (pq := 242) (v := nI (P.2.1 m)) hX rfl rfl rfl (by omega) (by decide) (hP2 m (by omega)).2.1 d_R_analyse_241 rfl ?_
      refine fm_iconst (pq := 243) (v := nI 2) hX d_R_analyse_242 (by decide) rfl ?_
      refine fm_n_ne (tgt := 261) (pq := 246) hX d_R_analyse_243 rfl rfl (by omega) (by omega) (fun h243 => ?_) (fun h243 => ?_)
      · show fm_G SR Y_R_analyse X M (fm_vr (fun M' => ∃ σ, an_is1 P (fun n => if n = m then σ else S n) m ∧ rOK P (fun n => if n = m then σ else S n) m M' ∧ ∀ a j, ¬ rFa m a j → M' a j = M a j)) 261 [some (.inr 0), some (.inl (nI m)), none, none, some (.inl (an_rc (rA M1 m).2.1 an_W)), some (.inl (an_rc (rA M1 m).2.1 (rA M1 m).2.2)), some (.inl (nI p)), none] [] M2
        refine fm_iconst (pq := 262) (v := nI 0) hX d_R_analyse_261 (by decide) rfl ?_
        first | exact L262 _ (by rw [if_pos h243, hA2]) | exact L262 _ (if_neg h243).symm
      · show fm_G SR Y_R_analyse X M (fm_vr (fun M' => ∃ σ, an_is1 P (fun n => if n = m then σ else S n) m ∧ rOK P (fun n => if n = m then σ else S n) m M' ∧ ∀ a j, ¬ rFa m a j → M' a j = M a j)) 246 [some (.inr 0), some (.inl (nI m)), none, none, some (.inl (an_rc (rA M1 m).2.1 an_W)), some (.inl (an_rc (rA M1 m).2.1 (rA M1 m).2.2)), some (.inl (nI p)), none] [] M2
        refine fm_aload_n (pq := 247) hX d_R_analyse_246 rfl rfl rfl ?_
        refine fm_iload_n (pq := 248) hX d_R_analyse_247 rfl rfl rfl ?_
        refine fm_iconst (pq := 249) (v := nI 1) hX d_R_analyse_248 (by decide) rfl ?_
        refine fm_bipush (pq := 251) (v := nI 25) hX d_R_analyse_249 (by decide) rfl ?_
        refine fm_iload (pq := 253) hX d_R_analyse_251 rfl rfl ?_
        refine fm_isub (pq := 254) (v := nI (25 - p)) hX d_R_analyse_253 (pk_sub (by omega)) rfl ?_
        refine fm_ishl (pq := 255) (v := an_1 (25 - p)) hX d_R_analyse_254 rfl rfl ?_
        refine fm_callV_i (as := [.inl (nI m), .inl (an_1 (25 - p))]) (st := []) (pq := 258) hX rfl rfl cR_93 rfl im_R_reached se_R_reached (k_R_reached (m := m) (by omega) M2 (an_1 (25 - p))) rfl rfl (Nat.le_of_ble_eq_true rfl) (Nat.le_of_ble_eq_true rfl) d_R_analyse_255 rfl ?_
        refine fm_goto (tgt := 262) hX d_R_analyse_258 rfl ?_
        first | exact L262 _ (by rw [if_pos h243, hA2]) | exact L262 _ (if_neg h243).symm
  have L165 : ∀ (bf : Int32) (nw : Nat) (M2 : fm_M), rP M2 P → rE P m (an_env P m S) M2 → (∀ M3, rS m M2 M3 (an_pass (rF P m (an_env P m S)) (P.1 m) (rA M2 m)) → fm_G SR Y_R_analyse X M (fm_vr (fun M' => ∃ σ, an_is1 P (fun n => if n = m then σ else S n) m ∧ rOK P (fun n => if n = m then σ else S n) m M' ∧ ∀ a j, ¬ rFa m a j → M' a j = M a j)) 189 [some (.inr 0), some (.inl (nI m)), some (.inl bf), some (.inl (nI nw)), none, none, none, none] [] M3) → ∀ i, i ≤ P.1 m → ∀ M3, rS m M2 M3 (an_pass (rF P m (an_env P m S)) i (rA M2 m)) → fm_G SR Y_R_analyse X M (fm_vr (fun M' => ∃ σ, an_is1 P (fun n => if n = m then σ else S n) m ∧ rOK P (fun n => if n = m then σ else S n) m M' ∧ ∀ a j, ¬ rFa m a j → M' a j = M a j)) 165 [some (.inr 0), some (.inl (nI m)), some (.inl bf), some (.inl (nI nw)), some (.inl (nI i)), none, none, none] [] M3 := by
    intro bf nw M2 hP2 hE2 K
    refine fm_ind (P.1 m) (fun i hle ih => ?_)
    intro M3 hc
    have hP3 := rS_P hc hP2
    have hE3 := rE_S hE2 hc
    refine fm_iload (pq := 167) hX d_R_analyse_165 rfl rfl ?_
    refine fm_aload_n (pq := 168) hX d_R_analyse_167 rfl rfl rfl ?_
    refine fm_getr (pq := 171) (q := 2) hX fR_13 rfl rfl d_R_analyse_168 rfl ?_
    refine fm_iload_n (pq := 172) hX d_R_analyse_171 rfl rfl rfl ?_
    refine fm_iald (pq := 173) (v := nI (P.1 m)) hX rfl rfl rfl (by omega) (by decide) (hP3 m (by omega)).1 d_R_analyse_172 rfl ?_
    refine fm_n_ge (tgt := 189) (pq := 176) hX d_R_analyse_173 rfl rfl (by omega) (by omega) (fun h173 => ?_) (fun h173 => ?_)
    · show fm_G SR Y_R_analyse X M (fm_vr (fun M' => ∃ σ, an_is1 P (fun n => if n = m then σ else S n) m ∧ rOK P (fun n => if n = m then σ else S n) m M' ∧ ∀ a j, ¬ rFa m a j → M' a j = M a j)) 189 [some (.inr 0), some (.inl (nI m)), some (.inl bf), some (.inl (nI nw)), some (.inl (nI i)), none, none, none] [] M3
      refine fm_drop 4 rfl ?_
      have e : i = P.1 m := by omega
      rw [e] at hc
      exact K M3 hc
    · show fm_G SR Y_R_analyse X M (fm_vr (fun M' => ∃ σ, an_is1 P (fun n => if n = m then σ else S n) m ∧ rOK P (fun n => if n = m then σ else S n) m M' ∧ ∀ a j, ¬ rFa m a j → M' a j = M a j)) 176 [some (.inr 0), some (.inl (nI m)), some (.inl bf), some (.inl (nI nw)), some (.inl (nI i)), none, none, none] [] M3
      refine fm_aload_n (pq := 177) hX d_R_analyse_176 rfl rfl rfl ?_
      refine fm_iload_n (pq := 178) hX d_R_analyse_177 rfl rfl rfl ?_
      refine fm_iload (pq := 180) hX d_R_analyse_178 rfl rfl ?_
      refine fm_callV_r (as := [.inl (nI m), .inl (nI i)]) (st := []) (pq := 183) hX rfl rfl cR_118 rfl im_R_adds se_R_adds (k_R_adds hm M3 hP3 hw (i := i) (by omega) hE3) rfl rfl (Nat.le_of_ble_eq_true rfl) (Nat.le_of_ble_eq_true rfl) d_R_analyse_180 rfl (fun M180 c180 => ?_)
      have hP180 := rS_P c180 hP3
      refine fm_iinc (pq := 186) (v := nI (i + 1)) (ls1 := [some (.inr 0), some (.inl (nI m)), some (.inl bf), some (.inl (nI nw)), some (.inl (nI (i + 1))), none, none, none]) hX d_R_analyse_183 rfl (nI_add _ _) (by decide) rfl rfl ?_
      refine fm_goto (tgt := 165) hX d_R_analyse_186 rfl ?_
      exact ih (by omega) _ (rS_tr hc (rS_eq c180 (by rw [hc.1]; rfl)))
  have L157 : P.1 m ≠ 0 → ∀ (d : Nat) (bf : Int32) (M1 : fm_M), rG P m (an_env P m S) M d bf M1 → fm_G SR Y_R_analyse X M (fm_vr (fun M' => ∃ σ, an_is1 P (fun n => if n = m then σ else S n) m ∧ rOK P (fun n => if n = m then σ else S n) m M' ∧ ∀ a j, ¬ rFa m a j → M' a j = M a j)) 157 [some (.inr 0), some (.inl (nI m)), some (.inl bf), some (.inl (nI (an_wt (rA M1 m)))), none, none, none, none] [] M1 := by
    intro h83
    refine fm_indd (fun d ih => ?_)
    intro bf M1 hG
    have hP1 : rP M1 P := rP_cg hP (fun a j h1 h2 => hG.1 a j (by unfold rFa rW; omega))
    have hE1 : rE P m (an_env P m S) M1 := rE_cg hi2 hE hG.1
    have hbd := an_wt_bd (rA M1 m)
    refine fm_iload_n (pq := 158) hX d_R_analyse_157 rfl rfl rfl ?_
    refine fm_iload_n (pq := 159) hX d_R_analyse_158 rfl rfl rfl ?_
    refine fm_icmp_le (tgt := 200) (pq := 162) hX d_R_analyse_159 rfl rfl (fun h159 => ?_) (fun h159 => ?_)
    · show fm_G SR Y_R_analyse X M (fm_vr (fun M' => ∃ σ, an_is1 P (fun n => if n = m then σ else S n) m ∧ rOK P (fun n => if n = m then σ else S n) m M' ∧ ∀ a j, ¬ rFa m a j → M' a j = M a j)) 200 [some (.inr 0), some (.inl (nI m)), some (.inl bf), some (.inl (nI (an_wt (rA M1 m)))), none, none, none, none] [] M1
      refine fm_aload_n (pq := 201) hX d_R_analyse_200 rfl rfl rfl ?_
      refine fm_iload_n (pq := 202) hX d_R_analyse_201 rfl rfl rfl ?_
      refine fm_ldc (pq := 204) (v := an_W) hX d_R_analyse_202 kR_92 rfl ?_
      refine fm_callV_i (as := [.inl (nI m), .inl an_W]) (st := []) (pq := 207) hX rfl rfl cR_93 rfl im_R_reached se_R_reached (k_R_reached (m := m) (by omega) M1 an_W) rfl rfl (Nat.le_of_ble_eq_true rfl) (Nat.le_of_ble_eq_true rfl) d_R_analyse_204 rfl ?_
      refine fm_istore (pq := 209) (ls1 := [some (.inr 0), some (.inl (nI m)), some (.inl bf), some (.inl (nI (an_wt (rA M1 m)))), some (.inl (an_rc (rA M1 m).2.1 an_W)), none, none, none]) hX d_R_analyse_207 (by decide) rfl rfl ?_
      refine fm_aload_n (pq := 210) hX d_R_analyse_209 rfl rfl rfl ?_
      refine fm_iload_n (pq := 211) hX d_R_analyse_210 rfl rfl rfl ?_
      refine fm_aload_n (pq := 212) hX d_R_analyse_211 rfl rfl rfl ?_
      refine fm_getr (pq := 215) (q := 10) hX fR_37 rfl rfl d_R_analyse_212 rfl ?_
      refine fm_iload_n (pq := 216) hX d_R_analyse_215 rfl rfl rfl ?_
      refine fm_iald (pq := 217) (v := (rA M1 m).2.2) hX rfl rfl rfl (by omega) (by decide) rfl d_R_analyse_216 rfl ?_
      refine fm_callV_i (as := [.inl (nI m), .inl ((rA M1 m).2.2)]) (st := []) (pq := 220) hX rfl rfl cR_93 rfl im_R_reached se_R_reached (k_R_reached (m := m) (by omega) M1 ((rA M1 m).2.2)) rfl rfl (Nat.le_of_ble_eq_true rfl) (Nat.le_of_ble_eq_true rfl) d_R_analyse_217 rfl ?_
      refine fm_istore (pq := 222) (ls1 := [some (.inr 0), some (.inl (nI m)), some (.inl bf), some (.inl (nI (an_wt (rA M1 m)))), some (.inl (an_rc (rA M1 m).2.1 an_W)), some (.inl (an_rc (rA M1 m).2.1 ((rA M1 m).2.2))), none, none]) hX d_R_analyse_220 (by decide) rfl rfl ?_
      refine fm_iconst (pq := 223) (v := nI 0) hX d_R_analyse_222 (by decide) rfl ?_
      refine fm_istore (pq := 225) (ls1 := [some (.inr 0), some (.inl (nI m)), some (.inl bf), some (.inl (nI (an_wt (rA M1 m)))), some (.inl (an_rc (rA M1 m).2.1 an_W)), some (.inl (an_rc (rA M1 m).2.1 ((rA M1 m).2.2))), some (.inl (nI 0)), none]) hX d_R_analyse_223 (by decide) rfl rfl ?_
      refine fm_drop 2 (ls1 := [some (.inr 0), some (.inl (nI m)), none, some (.inl (nI (an_wt (rA M1 m)))), some (.inl (an_rc (rA M1 m).2.1 an_W)), some (.inl (an_rc (rA M1 m).2.1 ((rA M1 m).2.2))), some (.inl (nI 0)), none]) rfl ?_
      refine fm_drop 3 (ls1 := [some (.inr 0), some (.inl (nI m)), none, none, some (.inl (an_rc (rA M1 m).2.1 an_W)), some (.inl (an_rc (rA M1 m).2.1 ((rA M1 m).2.2))), some (.inl (nI 0)), none]) rfl ?_
      exact L225 h83 M1 hP1 hG.1 (rG_e hw hm hG h159) 0 (by omega) _ ⟨fun _ _ _ => rfl, fun q hq => absurd hq (by omega)⟩
    · show fm_G SR Y_R_analyse X M (fm_vr (fun M' => ∃ σ, an_is1 P (fun n => if n = m then σ else S n) m ∧ rOK P (fun n => if n = m then σ else S n) m M' ∧ ∀ a j, ¬ rFa m a j → M' a j = M a j)) 162 [some (.inr 0), some (.inl (nI m)), some (.inl bf), some (.inl (nI (an_wt (rA M1 m)))), none, none, none, none] [] M1
      refine fm_iconst (pq := 163) (v := nI 0) hX d_R_analyse_162 (by decide) rfl ?_
      refine fm_istore (pq := 165) (ls1 := [some (.inr 0), some (.inl (nI m)), some (.inl bf), some (.inl (nI (an_wt (rA M1 m)))), some (.inl (nI 0)), none, none, none]) hX d_R_analyse_163 (by decide) rfl rfl ?_
      have hd := rG_pos hw hm hG h159
      refine L165 bf _ M1 hP1 hE1 (fun M3 hc => ?_) 0 (by omega) _ (rS_rf _ _)
      show fm_G SR Y_R_analyse X M (fm_vr (fun M' => ∃ σ, an_is1 P (fun n => if n = m then σ else S n) m ∧ rOK P (fun n => if n = m then σ else S n) m M' ∧ ∀ a j, ¬ rFa m a j → M' a j = M a j)) 189 [some (.inr 0), some (.inl (nI m)), some (.inl bf), some (.inl (nI (an_wt (rA M1 m)))), none, none, none, none] [] M3
      refine fm_iload_n (pq := 190) hX d_R_analyse_189 rfl rfl rfl ?_
      refine fm_istore_n (pq := 191) (ls1 := [some (.inr 0), some (.inl (nI m)), some (.inl (nI (an_wt (rA M1 m)))), some (.inl (nI (an_wt (rA M1 m)))), none, none, none, none]) hX d_R_analyse_190 rfl (by decide) rfl rfl ?_
      refine fm_aload_n (pq := 192) hX d_R_analyse_191 rfl rfl rfl ?_
      refine fm_iload_n (pq := 193) hX d_R_analyse_192 rfl rfl rfl ?_
      refine fm_callV_i (as := [.inl (nI m)]) (st := []) (pq := 196) hX rfl rfl cR_114 rfl im_R_weight se_R_weight (k_R_weight (m := m) (by omega) M3) rfl rfl (Nat.le_of_ble_eq_true rfl) (Nat.le_of_ble_eq_true rfl) d_R_analyse_193 rfl ?_
      refine fm_istore_n (pq := 197) (ls1 := [some (.inr 0), some (.inl (nI m)), some (.inl (nI (an_wt (rA M1 m)))), some (.inl (nI (an_wt (rA M3 m)))), none, none, none, none]) hX d_R_analyse_196 rfl (by decide) rfl rfl ?_
      refine fm_goto (tgt := 157) hX d_R_analyse_197 rfl ?_
      exact ih (d - 1) (by omega) _ _ (rG_n hG h159 hc wl)
  have L99 : P.1 m ≠ 0 → ∀ p, p ≤ P.2.1 m → ∀ M1, rS m (rZ M m) M1 (an_s0 p) → fm_G SR Y_R_analyse X M (fm_vr (fun M' => ∃ σ, an_is1 P (fun n => if n = m then σ else S n) m ∧ rOK P (fun n => if n = m then σ else S n) m M' ∧ ∀ a j, ¬ rFa m a j → M' a j = M a j)) 99 [some (.inr 0), some (.inl (nI m)), some (.inl (nI p)), none, none, none, none, none] [] M1 := by
    intro h83
    refine fm_ind (P.2.1 m) (fun p hle ih => ?_)
    intro M1 hc
    have hP1 := rS_P hc hPz
    refine fm_iload_n (pq := 100) hX d_R_analyse_99 rfl rfl rfl ?_
    refine fm_aload_n (pq := 101) hX d_R_analyse_100 rfl rfl rfl ?_
    refine fm_getr (pq := 104) (q := 1) hX fR_7 rfl rfl d_R_analyse_101 rfl ?_
    refine fm_iload_n (pq := 105) hX d_R_analyse_104 rfl rfl rfl ?_
    refine fm_iald (pq := 106) (v := nI (P.2.1 m)) hX rfl rfl rfl (by omega) (by decide) (hP1 m (by omega)).2.1 d_R_analyse_105 rfl ?_
    refine fm_n_ge (tgt := 149) (pq := 109) hX d_R_analyse_106 rfl rfl (by omega) (by omega) (fun h106 => ?_) (fun h106 => ?_)
    · show fm_G SR Y_R_analyse X M (fm_vr (fun M' => ∃ σ, an_is1 P (fun n => if n = m then σ else S n) m ∧ rOK P (fun n => if n = m then σ else S n) m M' ∧ ∀ a j, ¬ rFa m a j → M' a j = M a j)) 149 [some (.inr 0), some (.inl (nI m)), some (.inl (nI p)), none, none, none, none, none] [] M1
      refine fm_iconst (pq := 150) (v := (-1)) hX d_R_analyse_149 (by decide) rfl ?_
      refine fm_istore_n (pq := 151) (ls1 := [some (.inr 0), some (.inl (nI m)), some (.inl ((-1))), none, none, none, none, none]) hX d_R_analyse_150 rfl (by decide) rfl rfl ?_
      refine fm_aload_n (pq := 152) hX d_R_analyse_151 rfl rfl rfl ?_
      refine fm_iload_n (pq := 153) hX d_R_analyse_152 rfl rfl rfl ?_
      refine fm_callV_i (as := [.inl (nI m)]) (st := []) (pq := 156) hX rfl rfl cR_114 rfl im_R_weight se_R_weight (k_R_weight (m := m) (by omega) M1) rfl rfl (Nat.le_of_ble_eq_true rfl) (Nat.le_of_ble_eq_true rfl) d_R_analyse_153 rfl ?_
      refine fm_istore_n (pq := 157) (ls1 := [some (.inr 0), some (.inl (nI m)), some (.inl ((-1))), some (.inl (nI (an_wt (rA M1 m)))), none, none, none, none]) hX d_R_analyse_156 rfl (by decide) rfl rfl ?_
      exact L157 h83 1595 _ _ (rG_0 (rS_eq hc (by rw [show p = P.2.1 m by omega])))
    · show fm_G SR Y_R_analyse X M (fm_vr (fun M' => ∃ σ, an_is1 P (fun n => if n = m then σ else S n) m ∧ rOK P (fun n => if n = m then σ else S n) m M' ∧ ∀ a j, ¬ rFa m a j → M' a j = M a j)) 109 [some (.inr 0), some (.inl (nI m)), some (.inl (nI p)), none, none, none, none, none] [] M1
      refine fm_aload_n (pq := 110) hX d_R_analyse_109 rfl rfl rfl ?_
      refine fm_getr (pq := 113) (q := 8) hX fR_31 rfl rfl d_R_analyse_110 rfl ?_
      refine fm_iconst (pq := 114) (v := nI 4) hX d_R_analyse_113 (by decide) rfl ?_
      refine fm_iload_n (pq := 115) hX d_R_analyse_114 rfl rfl rfl ?_
      refine fm_imul (pq := 116) (v := nI (4 * m)) hX d_R_analyse_115 (pk_mul _ _) rfl ?_
      refine fm_iload_n (pq := 117) hX d_R_analyse_116 rfl rfl rfl ?_
      refine fm_iadd (pq := 118) (v := nI (4 * m + p)) hX d_R_analyse_117 (nI_add _ _) rfl ?_
      refine fm_iconst (pq := 119) (v := nI 1) hX d_R_analyse_118 (by decide) rfl ?_
      refine fm_bipush (pq := 121) (v := nI 24) hX d_R_analyse_119 (by decide) rfl ?_
      refine fm_iload_n (pq := 122) hX d_R_analyse_121 rfl rfl rfl ?_
      refine fm_iadd (pq := 123) (v := nI (24 + p)) hX d_R_analyse_122 (nI_add _ _) rfl ?_
      refine fm_ishl (pq := 124) (v := an_1 (24 + p)) hX d_R_analyse_123 rfl rfl ?_
      refine fm_iast (pq := 125) hX rfl rfl rfl (by omega) (by decide) d_R_analyse_124 rfl ?_
      generalize hM124 : fm_up M1 8 (4 * m + p) (an_1 (24 + p)) = M124
      have c124 : rS m M1 M124 (an_m (rA M1 m) p (an_1 (24 + p))) := by rw [← hM124]; exact rS_set (by omega) (by rw [hc.1]; exact an_s0_p)
      have hP124 := rS_P c124 hP1
      refine fm_aload_n (pq := 126) hX d_R_analyse_125 rfl rfl rfl ?_
      refine fm_iload_n (pq := 127) hX d_R_analyse_126 rfl rfl rfl ?_
      refine fm_iconst (pq := 128) (v := nI 1) hX d_R_analyse_127 (by decide) rfl ?_
      refine fm_bipush (pq := 130) (v := nI 24) hX d_R_analyse_128 (by decide) rfl ?_
      refine fm_iload_n (pq := 131) hX d_R_analyse_130 rfl rfl rfl ?_
      refine fm_iadd (pq := 132) (v := nI (24 + p)) hX d_R_analyse_131 (nI_add _ _) rfl ?_
      refine fm_ishl (pq := 133) (v := an_1 (24 + p)) hX d_R_analyse_132 rfl rfl ?_
      refine fm_iconst (pq := 134) (v := nI 2) hX d_R_analyse_133 (by decide) rfl ?_
      refine fm_iconst (pq := 135) (v := nI 1) hX d_R_analyse_134 (by decide) rfl ?_
      refine fm_bipush (pq := 137) (v := nI 24) hX d_R_analyse_135 (by decide) rfl ?_
      refine fm_iload_n (pq := 138) hX d_R_analyse_137 rfl rfl rfl ?_
      refine fm_iadd (pq := 139) (v := nI (24 + p)) hX d_R_analyse_138 (nI_add _ _) rfl ?_
      refine fm_ishl (pq := 140) (v := an_1 (24 + p)) hX d_R_analyse_139 rfl rfl ?_
      refine fm_callV_r (as := [.inl (nI m), .inl (an_1 (24 + p)), .inl (nI 2), .inl (an_1 (24 + p))]) (st := []) (pq := 143) hX rfl rfl cR_97 rfl im_R_holds se_R_holds (k_R_holds (m := m) (by omega) M124 (an_1 (24 + p)) (f := 2) (by omega) (an_1 (24 + p))) rfl rfl (Nat.le_of_ble_eq_true rfl) (Nat.le_of_ble_eq_true rfl) d_R_analyse_140 rfl (fun M140 c140 => ?_)
      have hP140 := rS_P c140 hP124
      refine fm_iinc (pq := 146) (v := nI (p + 1)) (ls1 := [some (.inr 0), some (.inl (nI m)), some (.inl (nI (p + 1))), none, none, none, none, none]) hX d_R_analyse_143 rfl (nI_add _ _) (by decide) rfl rfl ?_
      refine fm_goto (tgt := 99) hX d_R_analyse_146 rfl ?_
      exact ih (by omega) _ (rS_eq (rS_tr hc (rS_tr c124 c140)) (by rw [c124.1, hc.1, rHs_2]; exact an_s0_s (by omega)))
  have L26 : ∀ k, k ≤ 54 → fm_G SR Y_R_analyse X M (fm_vr (fun M' => ∃ σ, an_is1 P (fun n => if n = m then σ else S n) m ∧ rOK P (fun n => if n = m then σ else S n) m M' ∧ ∀ a j, ¬ rFa m a j → M' a j = M a j)) 26 [some (.inr 0), some (.inl (nI m)), some (.inl (nI k)), none, none, none, none, none] [] (fm_fz (fm_fz M 8 (4 * m) 4 (nI 0)) 9 (54 * m) k (nI 0)) := by
    refine fm_ind 54 (fun k hle ih => ?_)
    refine fm_iload_n (pq := 27) hX d_R_analyse_26 rfl rfl rfl ?_
    refine fm_bipush (pq := 29) (v := nI 54) hX d_R_analyse_27 (by decide) rfl ?_
    refine fm_n_ge (tgt := 50) (pq := 32) hX d_R_analyse_29 rfl rfl (by omega) (by omega) (fun h29 => ?_) (fun h29 => ?_)
    · show fm_G SR Y_R_analyse X M (fm_vr (fun M' => ∃ σ, an_is1 P (fun n => if n = m then σ else S n) m ∧ rOK P (fun n => if n = m then σ else S n) m M' ∧ ∀ a j, ¬ rFa m a j → M' a j = M a j)) 50 [some (.inr 0), some (.inl (nI m)), some (.inl (nI k)), none, none, none, none, none] [] (fm_fz (fm_fz M 8 (4 * m) 4 (nI 0)) 9 (54 * m) k (nI 0))
      have ek : k = 54 := by omega
      rw [ek]
      refine fm_aload_n (pq := 51) hX d_R_analyse_50 rfl rfl rfl ?_
      refine fm_getr (pq := 54) (q := 10) hX fR_37 rfl rfl d_R_analyse_51 rfl ?_
      refine fm_iload_n (pq := 55) hX d_R_analyse_54 rfl rfl rfl ?_
      refine fm_iconst (pq := 56) (v := nI 0) hX d_R_analyse_55 (by decide) rfl ?_
      refine fm_iast (pq := 57) hX rfl rfl rfl (by omega) (by decide) d_R_analyse_56 rfl ?_
      refine fm_aload_n (pq := 58) hX d_R_analyse_57 rfl rfl rfl ?_
      refine fm_getr (pq := 61) (q := 11) hX fR_40 rfl rfl d_R_analyse_58 rfl ?_
      refine fm_iconst (pq := 62) (v := nI 2) hX d_R_analyse_61 (by decide) rfl ?_
      refine fm_iload_n (pq := 63) hX d_R_analyse_62 rfl rfl rfl ?_
      refine fm_imul (pq := 64) (v := nI (2 * m)) hX d_R_analyse_63 (pk_mul _ _) rfl ?_
      refine fm_iconst (pq := 65) (v := nI 0) hX d_R_analyse_64 (by decide) rfl ?_
      refine fm_iast (pq := 66) hX rfl rfl rfl (by omega) (by decide) d_R_analyse_65 rfl ?_
      refine fm_aload_n (pq := 67) hX d_R_analyse_66 rfl rfl rfl ?_
      refine fm_getr (pq := 70) (q := 11) hX fR_40 rfl rfl d_R_analyse_67 rfl ?_
      refine fm_iconst (pq := 71) (v := nI 2) hX d_R_analyse_70 (by decide) rfl ?_
      refine fm_iload_n (pq := 72) hX d_R_analyse_71 rfl rfl rfl ?_
      refine fm_imul (pq := 73) (v := nI (2 * m)) hX d_R_analyse_72 (pk_mul _ _) rfl ?_
      refine fm_iconst (pq := 74) (v := nI 1) hX d_R_analyse_73 (by decide) rfl ?_
      refine fm_iadd (pq := 75) (v := nI (2 * m + 1)) hX d_R_analyse_74 (nI_add _ _) rfl ?_
      refine fm_iconst (pq := 76) (v := nI 0) hX d_R_analyse_75 (by decide) rfl ?_
      refine fm_iast (pq := 77) hX rfl rfl rfl (by omega) (by decide) d_R_analyse_76 rfl ?_
      refine fm_mem (M' := rZ M m) rfl ?_
      refine fm_aload_n (pq := 78) hX d_R_analyse_77 rfl rfl rfl ?_
      refine fm_getr (pq := 81) (q := 2) hX fR_13 rfl rfl d_R_analyse_78 rfl ?_
      refine fm_iload_n (pq := 82) hX d_R_analyse_81 rfl rfl rfl ?_
      refine fm_iald (pq := 83) (v := nI (P.1 m)) hX rfl rfl rfl (by omega) (by decide) (hPz m (by omega)).1 d_R_analyse_82 rfl ?_
      refine fm_z_ne (tgt := 87) (pq := 86) hX d_R_analyse_83 rfl rfl (by omega) (fun h83 => ?_) (fun h83 => ?_)
      · show fm_G SR Y_R_analyse X M (fm_vr (fun M' => ∃ σ, an_is1 P (fun n => if n = m then σ else S n) m ∧ rOK P (fun n => if n = m then σ else S n) m M' ∧ ∀ a j, ¬ rFa m a j → M' a j = M a j)) 87 [some (.inr 0), some (.inl (nI m)), some (.inl (nI 54)), none, none, none, none, none] [] (rZ M m)
        refine fm_aload_n (pq := 88) hX d_R_analyse_87 rfl rfl rfl ?_
        refine fm_iload_n (pq := 89) hX d_R_analyse_88 rfl rfl rfl ?_
        refine fm_ldc (pq := 91) (v := an_W) hX d_R_analyse_89 kR_92 rfl ?_
        refine fm_iconst (pq := 92) (v := nI 2) hX d_R_analyse_91 (by decide) rfl ?_
        refine fm_ldc (pq := 94) (v := an_W) hX d_R_analyse_92 kR_92 rfl ?_
        refine fm_callV_r (as := [.inl (nI m), .inl an_W, .inl (nI 2), .inl an_W]) (st := []) (pq := 97) hX rfl rfl cR_97 rfl im_R_holds se_R_holds (k_R_holds (m := m) (by omega) (rZ M m) an_W (f := 2) (by omega) an_W) rfl rfl (Nat.le_of_ble_eq_true rfl) (Nat.le_of_ble_eq_true rfl) d_R_analyse_94 rfl (fun M94 c94 => ?_)
        have hP94 := rS_P c94 hPz
        refine fm_iconst (pq := 98) (v := nI 0) hX d_R_analyse_97 (by decide) rfl ?_
        refine fm_istore_n (pq := 99) (ls1 := [some (.inr 0), some (.inl (nI m)), some (.inl (nI 0)), none, none, none, none, none]) hX d_R_analyse_98 rfl (by decide) rfl rfl ?_
        exact L99 h83 0 (by omega) _ (rS_eq c94 (by rw [rZ_A, rHs_2]; exact an_s0_0))
      · show fm_G SR Y_R_analyse X M (fm_vr (fun M' => ∃ σ, an_is1 P (fun n => if n = m then σ else S n) m ∧ rOK P (fun n => if n = m then σ else S n) m M' ∧ ∀ a j, ¬ rFa m a j → M' a j = M a j)) 86 [some (.inr 0), some (.inl (nI m)), some (.inl (nI 54)), none, none, none, none, none] [] (rZ M m)
        refine fm_vret hX rfl d_R_analyse_86 ?_
        exact ⟨rfl, rZ_end h83⟩
    · show fm_G SR Y_R_analyse X M (fm_vr (fun M' => ∃ σ, an_is1 P (fun n => if n = m then σ else S n) m ∧ rOK P (fun n => if n = m then σ else S n) m M' ∧ ∀ a j, ¬ rFa m a j → M' a j = M a j)) 32 [some (.inr 0), some (.inl (nI m)), some (.inl (nI k)), none, none, none, none, none] [] (fm_fz (fm_fz M 8 (4 * m) 4 (nI 0)) 9 (54 * m) k (nI 0))
      refine fm_aload_n (pq := 33) hX d_R_analyse_32 rfl rfl rfl ?_
      refine fm_getr (pq := 36) (q := 9) hX fR_34 rfl rfl d_R_analyse_33 rfl ?_
      refine fm_bipush (pq := 38) (v := nI 54) hX d_R_analyse_36 (by decide) rfl ?_
      refine fm_iload_n (pq := 39) hX d_R_analyse_38 rfl rfl rfl ?_
      refine fm_imul (pq := 40) (v := nI (54 * m)) hX d_R_analyse_39 (pk_mul _ _) rfl ?_
      refine fm_iload_n (pq := 41) hX d_R_analyse_40 rfl rfl rfl ?_
      refine fm_iadd (pq := 42) (v := nI (54 * m + k)) hX d_R_analyse_41 (nI_add _ _) rfl ?_
      refine fm_iconst (pq := 43) (v := nI 0) hX d_R_analyse_42 (by decide) rfl ?_
      refine fm_iast (pq := 44) hX rfl rfl rfl (by omega) (by decide) d_R_analyse_43 rfl ?_
      refine fm_mem (M' := fm_fz (fm_fz M 8 (4 * m) 4 (nI 0)) 9 (54 * m) (k + 1) (nI 0)) (fm_fz_s _ _ _ _ _) ?_
      refine fm_iinc (pq := 47) (v := nI (k + 1)) (ls1 := [some (.inr 0), some (.inl (nI m)), some (.inl (nI (k + 1))), none, none, none, none, none]) hX d_R_analyse_44 rfl (nI_add _ _) (by decide) rfl rfl ?_
      refine fm_goto (tgt := 26) hX d_R_analyse_47 rfl ?_
      exact ih (by omega)
  have L2 : ∀ k, k ≤ 4 → fm_G SR Y_R_analyse X M (fm_vr (fun M' => ∃ σ, an_is1 P (fun n => if n = m then σ else S n) m ∧ rOK P (fun n => if n = m then σ else S n) m M' ∧ ∀ a j, ¬ rFa m a j → M' a j = M a j)) 2 [some (.inr 0), some (.inl (nI m)), some (.inl (nI k)), none, none, none, none, none] [] (fm_fz M 8 (4 * m) k (nI 0)) := by
    refine fm_ind 4 (fun k hle ih => ?_)
    refine fm_iload_n (pq := 3) hX d_R_analyse_2 rfl rfl rfl ?_
    refine fm_iconst (pq := 4) (v := nI 4) hX d_R_analyse_3 (by decide) rfl ?_
    refine fm_n_ge (tgt := 24) (pq := 7) hX d_R_analyse_4 rfl rfl (by omega) (by omega) (fun h4 => ?_) (fun h4 => ?_)
    · show fm_G SR Y_R_analyse X M (fm_vr (fun M' => ∃ σ, an_is1 P (fun n => if n = m then σ else S n) m ∧ rOK P (fun n => if n = m then σ else S n) m M' ∧ ∀ a j, ¬ rFa m a j → M' a j = M a j)) 24 [some (.inr 0), some (.inl (nI m)), some (.inl (nI k)), none, none, none, none, none] [] (fm_fz M 8 (4 * m) k (nI 0))
      refine fm_iconst (pq := 25) (v := nI 0) hX d_R_analyse_24 (by decide) rfl ?_
      refine fm_istore_n (pq := 26) (ls1 := [some (.inr 0), some (.inl (nI m)), some (.inl (nI 0)), none, none, none, none, none]) hX d_R_analyse_25 rfl (by decide) rfl rfl ?_
      have ek : k = 4 := by omega
      rw [ek]
      refine fm_mem (fm_fz_0 _ 9 (54 * m) (nI 0)).symm ?_
      exact L26 0 (by omega)
    · show fm_G SR Y_R_analyse X M (fm_vr (fun M' => ∃ σ, an_is1 P (fun n => if n = m then σ else S n) m ∧ rOK P (fun n => if n = m then σ else S n) m M' ∧ ∀ a j, ¬ rFa m a j → M' a j = M a j)) 7 [some (.inr 0), some (.inl (nI m)), some (.inl (nI k)), none, none, none, none, none] [] (fm_fz M 8 (4 * m) k (nI 0))
      refine fm_aload_n (pq := 8) hX d_R_analyse_7 rfl rfl rfl ?_
      refine fm_getr (pq := 11) (q := 8) hX fR_31 rfl rfl d_R_analyse_8 rfl ?_
      refine fm_iconst (pq := 12) (v := nI 4) hX d_R_analyse_11 (by decide) rfl ?_
      refine fm_iload_n (pq := 13) hX d_R_analyse_12 rfl rfl rfl ?_
      refine fm_imul (pq := 14) (v := nI (4 * m)) hX d_R_analyse_13 (pk_mul _ _) rfl ?_
      refine fm_iload_n (pq := 15) hX d_R_analyse_14 rfl rfl rfl ?_
      refine fm_iadd (pq := 16) (v := nI (4 * m + k)) hX d_R_analyse_15 (nI_add _ _) rfl ?_
      refine fm_iconst (pq := 17) (v := nI 0) hX d_R_analyse_16 (by decide) rfl ?_
      refine fm_iast (pq := 18) hX rfl rfl rfl (by omega) (by decide) d_R_analyse_17 rfl ?_
      refine fm_mem (M' := fm_fz M 8 (4 * m) (k + 1) (nI 0)) (fm_fz_s _ _ _ _ _) ?_
      refine fm_iinc (pq := 21) (v := nI (k + 1)) (ls1 := [some (.inr 0), some (.inl (nI m)), some (.inl (nI (k + 1))), none, none, none, none, none]) hX d_R_analyse_18 rfl (nI_add _ _) (by decide) rfl rfl ?_
      refine fm_goto (tgt := 2) hX d_R_analyse_21 rfl ?_
      exact ih (by omega)
  show fm_G SR Y_R_analyse X M (fm_vr (fun M' => ∃ σ, an_is1 P (fun n => if n = m then σ else S n) m ∧ rOK P (fun n => if n = m then σ else S n) m M' ∧ ∀ a j, ¬ rFa m a j → M' a j = M a j)) 0 [some (.inr 0), some (.inl (nI m)), none, none, none, none, none, none] [] M
  refine fm_iconst (pq := 1) (v := nI 0) hX d_R_analyse_0 (by decide) rfl ?_
  refine fm_istore_n (pq := 2) (ls1 := [some (.inr 0), some (.inl (nI m)), some (.inl (nI 0)), none, none, none, none, none]) hX d_R_analyse_1 rfl (by decide) rfl rfl ?_
  refine fm_mem (fm_fz_0 _ 8 (4 * m) (nI 0)).symm ?_
  exact L2 0 (by omega)
