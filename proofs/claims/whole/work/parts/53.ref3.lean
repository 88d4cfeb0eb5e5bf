/-! The reference: calls, adds (written by program) -/
theorem rHs_z {f : Nat} (h : f < 2) : rHs f = fun a g => decide (23 < a) || decide (g = f) := by
  funext a g
  unfold rHs
  rw [decide_eq_false (show ¬ f = 2 by omega), Bool.or_false]
abbrev Y_R_calls : fm_Y := ("EscapeMillModel", b_R_calls, 11, none, 2)
set_option maxRecDepth 100000 in
set_option maxHeartbeats 4000000 in
theorem k_R_calls {P : pr_T} {m : Nat} (hm : m < 5) (M : fm_M) (hP : rP M P) (hw : pr_wf P) {i : Nat} (hi : i < P.1 m) (ho : (P.2.2 m i).1 = 16) {E : an_E} (hE : rE P m E M) : fm_ct SR y_R_calls b_R_calls 11 none 2 [.inr 0, .inl (nI m), .inl (nI i)] M (fm_vr (fun M' => rS m M M' (an_rn E (P.2.2 m i).2.1 (P.2.2 m i).2.2.1 (P.2.2 m i).2.2.2.1 (P.2.2 m i).2.2.2.2.toNatClampNeg (rA M m)))) := by
  refine fm_of (ls := [some (.inr 0), some (.inl (nI m)), some (.inl (nI i)), none, none, none, none, none, none, none, none]) (by decide) wsA_good (Nat.le_of_ble_eq_true rfl) rfl (fun X hX => ?_)
  obtain ⟨wl, wi, wI⟩ := hw m hm
  obtain ⟨w1, w2, w3, w4, w5, w6⟩ := wI i hi
  obtain ⟨k, hk, hn⟩ := w6 ho
  have hk2 := (hw k hk).2.1
  have hk1 := (hw k hk).1
  clear w6
  have L219 : ∀ bo : Int32, bo = an_rb (an_c0 (P.2.2 m i).2.1 (rA M m)) (P.2.2 m i).2.2.1 (P.2.2 m i).2.2.2.1 (P.2.1 k) → ∀ p, p ≤ P.2.1 k → ∀ M2, rS m M M2 (an_rn2 E (P.2.2 m i).2.1 (P.2.2 m i).2.2.1 (P.2.2 m i).2.2.2.1 k bo p (an_rn1 E (P.2.2 m i).2.1 (P.2.2 m i).2.2.1 (P.2.2 m i).2.2.2.1 k (P.2.1 k) (rA M m))) → fm_G SR Y_R_calls X M (fm_vr (fun M' => rS m M M' (an_rn E (P.2.2 m i).2.1 (P.2.2 m i).2.2.1 (P.2.2 m i).2.2.2.1 (P.2.2 m i).2.2.2.2.toNatClampNeg (rA M m)))) 219 [some (.inr 0), some (.inl (nI m)), some (.inl (nI i)), some (.inl (nI k)), some (.inl (nI (4 * m + (P.2.2 m i).2.1))), some (.inl bo), some (.inl (an_rc (rA M m).2.1 an_W)), some (.inl (nI p)), none, none, none] [] M2 := by
    intro bo hbo
    refine fm_ind (P.2.1 k) (fun p hle ih => ?_)
    intro M2 hc
    have hE2 := rE_S hE hc
    have hP2 := rS_P hc hP
    have hj4 : (if p = 0 then (P.2.2 m i).2.2.1 else (P.2.2 m i).2.2.2.1) < 4 := by split <;> omega
    refine fm_iload (pq := 221) hX d_R_calls_219 rfl rfl ?_
    refine fm_aload_n (pq := 222) hX d_R_calls_221 rfl rfl rfl ?_
    refine fm_getr (pq := 225) (q := 1) hX fR_7 rfl rfl d_R_calls_222 rfl ?_
    refine fm_iload_n (pq := 226) hX d_R_calls_225 rfl rfl rfl ?_
    refine fm_iald (pq := 227) (v := nI (P.2.1 k)) hX rfl rfl rfl (by omega) (by decide) (hP2 k (by omega)).2.1 d_R_calls_226 rfl ?_
    refine fm_n_ge (tgt := 348) (pq := 230) hX d_R_calls_227 rfl rfl (by omega) (by omega) (fun h227 => ?_) (fun h227 => ?_)
    · show fm_G SR Y_R_calls X M (fm_vr (fun M' => rS m M M' (an_rn E (P.2.2 m i).2.1 (P.2.2 m i).2.2.1 (P.2.2 m i).2.2.2.1 (P.2.2 m i).2.2.2.2.toNatClampNeg (rA M m)))) 348 [some (.inr 0), some (.inl (nI m)), some (.inl (nI i)), some (.inl (nI k)), some (.inl (nI (4 * m + (P.2.2 m i).2.1))), some (.inl bo), some (.inl (an_rc (rA M m).2.1 an_W)), some (.inl (nI p)), none, none, none] [] M2
      refine fm_vret hX rfl d_R_calls_348 ?_
      have hkk : (P.2.2 m i).2.2.2.2.toNatClampNeg = k := by rw [hn]; exact nI_clamp (by omega)
      have ep : p = P.2.1 k := by omega
      rw [ep] at hc
      exact ⟨rfl, rS_eq hc (by rw [hkk, hbo, ← an_rn_end (by rw [hE.1]; exact hk2), hE.1])⟩
    · show fm_G SR Y_R_calls X M (fm_vr (fun M' => rS m M M' (an_rn E (P.2.2 m i).2.1 (P.2.2 m i).2.2.1 (P.2.2 m i).2.2.2.1 (P.2.2 m i).2.2.2.2.toNatClampNeg (rA M m)))) 230 [some (.inr 0), some (.inl (nI m)), some (.inl (nI i)), some (.inl (nI k)), some (.inl (nI (4 * m + (P.2.2 m i).2.1))), some (.inl bo), some (.inl (an_rc (rA M m).2.1 an_W)), some (.inl (nI p)), none, none, none] [] M2
      have he2 := rE_2 hE2 hk (by omega : p < P.2.1 k)
      refine fm_aload_n (pq := 231) hX d_R_calls_230 rfl rfl rfl ?_
      refine fm_getr (pq := 234) (q := 8) hX fR_31 rfl rfl d_R_calls_231 rfl ?_
      refine fm_iconst (pq := 235) (v := nI 4) hX d_R_calls_234 (by decide) rfl ?_
      refine fm_iload_n (pq := 236) hX d_R_calls_235 rfl rfl rfl ?_
      refine fm_imul (pq := 237) (v := nI (4 * m)) hX d_R_calls_236 (pk_mul _ _) rfl ?_
      have L267 : ∀ j : Nat, j = (if p = 0 then (P.2.2 m i).2.2.1 else (P.2.2 m i).2.2.2.1) → fm_G SR Y_R_calls X M (fm_vr (fun M' => rS m M M' (an_rn E (P.2.2 m i).2.1 (P.2.2 m i).2.2.1 (P.2.2 m i).2.2.2.1 (P.2.2 m i).2.2.2.2.toNatClampNeg (rA M m)))) 267 [some (.inr 0), some (.inl (nI m)), some (.inl (nI i)), some (.inl (nI k)), some (.inl (nI (4 * m + (P.2.2 m i).2.1))), some (.inl bo), some (.inl (an_rc (rA M m).2.1 an_W)), some (.inl (nI p)), none, none, none] [.inl (nI j), .inl (nI (4 * m)), .inr 8] M2 := by
        intro j hj
        subst hj
        refine fm_iadd (pq := 268) (v := nI (4 * m + ((if p = 0 then (P.2.2 m i).2.2.1 else (P.2.2 m i).2.2.2.1)))) hX d_R_calls_267 (nI_add _ _) rfl ?_
        refine fm_iald (pq := 269) (v := (rA M2 m).1 ((if p = 0 then (P.2.2 m i).2.2.1 else (P.2.2 m i).2.2.2.1))) hX rfl rfl rfl (by omega) (by decide) (rA_m (by omega)).symm d_R_calls_268 rfl ?_
        refine fm_istore (pq := 271) (ls1 := [some (.inr 0), some (.inl (nI m)), some (.inl (nI i)), some (.inl (nI k)), some (.inl (nI (4 * m + (P.2.2 m i).2.1))), some (.inl bo), some (.inl (an_rc (rA M m).2.1 an_W)), some (.inl (nI p)), some (.inl ((rA M2 m).1 ((if p = 0 then (P.2.2 m i).2.2.1 else (P.2.2 m i).2.2.2.1)))), none, none]) hX d_R_calls_269 (by decide) rfl rfl ?_
        refine fm_aload_n (pq := 272) hX d_R_calls_271 rfl rfl rfl ?_
        refine fm_iload_n (pq := 273) hX d_R_calls_272 rfl rfl rfl ?_
        refine fm_iload_n (pq := 274) hX d_R_calls_273 rfl rfl rfl ?_
        refine fm_iload (pq := 276) hX d_R_calls_274 rfl rfl ?_
        refine fm_callV_i (as := [.inl (nI m), .inl (nI k), .inl (nI p)]) (st := []) (pq := 279) hX rfl rfl cR_105 rfl im_R_stateOf se_R_stateOf (k_R_stateOf (m := m) (by omega) M2 hP2 hw hE2 (k := k) (p := p) (by omega) (by omega)) rfl rfl (Nat.le_of_ble_eq_true rfl) (Nat.le_of_ble_eq_true rfl) d_R_calls_276 rfl ?_
        refine fm_istore (pq := 281) (ls1 := [some (.inr 0), some (.inl (nI m)), some (.inl (nI i)), some (.inl (nI k)), some (.inl (nI (4 * m + (P.2.2 m i).2.1))), some (.inl bo), some (.inl (an_rc (rA M m).2.1 an_W)), some (.inl (nI p)), some (.inl ((rA M2 m).1 ((if p = 0 then (P.2.2 m i).2.2.1 else (P.2.2 m i).2.2.2.1)))), some (.inl (nI (E.2.1 k p))), none]) hX d_R_calls_279 (by decide) rfl rfl ?_
        refine fm_iload (pq := 283) hX d_R_calls_281 rfl rfl ?_
        refine fm_iconst (pq := 284) (v := nI 2) hX d_R_calls_283 (by decide) rfl ?_
        refine fm_n_ne (tgt := 300) (pq := 287) hX d_R_calls_284 rfl rfl (by omega) (by omega) (fun h284 => ?_) (fun h284 => ?_)
        · show fm_G SR Y_R_calls X M (fm_vr (fun M' => rS m M M' (an_rn E (P.2.2 m i).2.1 (P.2.2 m i).2.2.1 (P.2.2 m i).2.2.2.1 (P.2.2 m i).2.2.2.2.toNatClampNeg (rA M m)))) 300 [some (.inr 0), some (.inl (nI m)), some (.inl (nI i)), some (.inl (nI k)), some (.inl (nI (4 * m + (P.2.2 m i).2.1))), some (.inl bo), some (.inl (an_rc (rA M m).2.1 an_W)), some (.inl (nI p)), some (.inl ((rA M2 m).1 ((if p = 0 then (P.2.2 m i).2.2.1 else (P.2.2 m i).2.2.2.1)))), some (.inl (nI (E.2.1 k p))), none] [] M2
          refine fm_iload (pq := 302) hX d_R_calls_300 rfl rfl ?_
          refine fm_iconst (pq := 303) (v := nI 1) hX d_R_calls_302 (by decide) rfl ?_
          refine fm_n_ne (tgt := 342) (pq := 306) hX d_R_calls_303 rfl rfl (by omega) (by omega) (fun h303 => ?_) (fun h303 => ?_)
          · show fm_G SR Y_R_calls X M (fm_vr (fun M' => rS m M M' (an_rn E (P.2.2 m i).2.1 (P.2.2 m i).2.2.1 (P.2.2 m i).2.2.2.1 (P.2.2 m i).2.2.2.2.toNatClampNeg (rA M m)))) 342 [some (.inr 0), some (.inl (nI m)), some (.inl (nI i)), some (.inl (nI k)), some (.inl (nI (4 * m + (P.2.2 m i).2.1))), some (.inl bo), some (.inl (an_rc (rA M m).2.1 an_W)), some (.inl (nI p)), some (.inl ((rA M2 m).1 ((if p = 0 then (P.2.2 m i).2.2.1 else (P.2.2 m i).2.2.2.1)))), some (.inl (nI (E.2.1 k p))), none] [] M2
            refine fm_iinc (pq := 345) (v := nI (p + 1)) (ls1 := [some (.inr 0), some (.inl (nI m)), some (.inl (nI i)), some (.inl (nI k)), some (.inl (nI (4 * m + (P.2.2 m i).2.1))), some (.inl bo), some (.inl (an_rc (rA M m).2.1 an_W)), some (.inl (nI (p + 1))), some (.inl ((rA M2 m).1 ((if p = 0 then (P.2.2 m i).2.2.1 else (P.2.2 m i).2.2.2.1)))), some (.inl (nI (E.2.1 k p))), none]) hX d_R_calls_342 rfl (nI_add _ _) (by decide) rfl rfl ?_
            refine fm_goto (tgt := 219) hX d_R_calls_345 rfl ?_
            refine fm_drop 8 (ls1 := [some (.inr 0), some (.inl (nI m)), some (.inl (nI i)), some (.inl (nI k)), some (.inl (nI (4 * m + (P.2.2 m i).2.1))), some (.inl bo), some (.inl (an_rc (rA M m).2.1 an_W)), some (.inl (nI (p + 1))), none, some (.inl (nI (E.2.1 k p))), none]) rfl ?_
            refine fm_drop 9 (ls1 := [some (.inr 0), some (.inl (nI m)), some (.inl (nI i)), some (.inl (nI k)), some (.inl (nI (4 * m + (P.2.2 m i).2.1))), some (.inl bo), some (.inl (an_rc (rA M m).2.1 an_W)), some (.inl (nI (p + 1))), none, none, none]) rfl ?_
            exact ih (by omega) _ (rS_r2_0 hc h284 h303)
          · show fm_G SR Y_R_calls X M (fm_vr (fun M' => rS m M M' (an_rn E (P.2.2 m i).2.1 (P.2.2 m i).2.2.1 (P.2.2 m i).2.2.2.1 (P.2.2 m i).2.2.2.2.toNatClampNeg (rA M m)))) 306 [some (.inr 0), some (.inl (nI m)), some (.inl (nI i)), some (.inl (nI k)), some (.inl (nI (4 * m + (P.2.2 m i).2.1))), some (.inl bo), some (.inl (an_rc (rA M m).2.1 an_W)), some (.inl (nI p)), some (.inl ((rA M2 m).1 ((if p = 0 then (P.2.2 m i).2.2.1 else (P.2.2 m i).2.2.2.1)))), some (.inl (nI (E.2.1 k p))), none] [] M2
            refine fm_aload_n (pq := 307) hX d_R_calls_306 rfl rfl rfl ?_
            refine fm_iload_n (pq := 308) hX d_R_calls_307 rfl rfl rfl ?_
            refine fm_iload (pq := 310) hX d_R_calls_308 rfl rfl ?_
            refine fm_callV_i (as := [.inl (nI m), .inl bo]) (st := []) (pq := 313) hX rfl rfl cR_93 rfl im_R_reached se_R_reached (k_R_reached (m := m) (by omega) M2 bo) rfl rfl (Nat.le_of_ble_eq_true rfl) (Nat.le_of_ble_eq_true rfl) d_R_calls_310 rfl ?_
            refine fm_istore (pq := 315) (ls1 := [some (.inr 0), some (.inl (nI m)), some (.inl (nI i)), some (.inl (nI k)), some (.inl (nI (4 * m + (P.2.2 m i).2.1))), some (.inl bo), some (.inl (an_rc (rA M m).2.1 an_W)), some (.inl (nI p)), some (.inl ((rA M2 m).1 ((if p = 0 then (P.2.2 m i).2.2.1 else (P.2.2 m i).2.2.2.1)))), some (.inl (nI (E.2.1 k p))), some (.inl (an_rc (rA M2 m).2.1 bo))]) hX d_R_calls_313 (by decide) rfl rfl ?_
            refine fm_aload_n (pq := 316) hX d_R_calls_315 rfl rfl rfl ?_
            refine fm_iload_n (pq := 317) hX d_R_calls_316 rfl rfl rfl ?_
            refine fm_iload (pq := 319) hX d_R_calls_317 rfl rfl ?_
            refine fm_iconst (pq := 320) (v := nI 2) hX d_R_calls_319 (by decide) rfl ?_
            refine fm_iload (pq := 322) hX d_R_calls_320 rfl rfl ?_
            refine fm_callV_r (as := [.inl (nI m), .inl (an_rc (rA M2 m).2.1 bo), .inl (nI 2), .inl (an_rc (rA M2 m).2.1 bo)]) (st := []) (pq := 325) hX rfl rfl cR_97 rfl im_R_holds se_R_holds (k_R_holds (m := m) (by omega) M2 (an_rc (rA M2 m).2.1 bo) (f := 2) (by omega) (an_rc (rA M2 m).2.1 bo)) rfl rfl (Nat.le_of_ble_eq_true rfl) (Nat.le_of_ble_eq_true rfl) d_R_calls_322 rfl (fun M322 c322 => ?_)
            have hP322 := rS_P c322 hP2
            refine fm_aload_n (pq := 326) hX d_R_calls_325 rfl rfl rfl ?_
            refine fm_getr (pq := 329) (q := 8) hX fR_31 rfl rfl d_R_calls_326 rfl ?_
            refine fm_iload (pq := 331) hX d_R_calls_329 rfl rfl ?_
            refine fm_aload_n (pq := 332) hX d_R_calls_331 rfl rfl rfl ?_
            refine fm_getr (pq := 335) (q := 8) hX fR_31 rfl rfl d_R_calls_332 rfl ?_
            refine fm_iload (pq := 337) hX d_R_calls_335 rfl rfl ?_
            refine fm_iald (pq := 338) (v := (rA M322 m).1 ((P.2.2 m i).2.1)) hX rfl rfl rfl (by omega) (by decide) (rA_m (by omega)).symm d_R_calls_337 rfl ?_
            refine fm_iload (pq := 340) hX d_R_calls_338 rfl rfl ?_
            refine fm_ior (pq := 341) (v := ((rA M322 m).1 ((P.2.2 m i).2.1)) ||| (an_rc (rA M2 m).2.1 bo)) hX d_R_calls_340 rfl rfl ?_
            refine fm_iast (pq := 342) hX rfl rfl rfl (by omega) (by decide) d_R_calls_341 rfl ?_
            generalize hM341 : fm_up M322 8 (4 * m + (P.2.2 m i).2.1) (((rA M322 m).1 ((P.2.2 m i).2.1)) ||| (an_rc (rA M2 m).2.1 bo)) = M341
            have c341 : rS m M322 M341 (an_m (rA M322 m) (P.2.2 m i).2.1 (an_rc (rA M2 m).2.1 bo)) := by rw [← hM341]; exact rS_m2 w2 M322 _
            refine fm_iinc (pq := 345) (v := nI (p + 1)) (ls1 := [some (.inr 0), some (.inl (nI m)), some (.inl (nI i)), some (.inl (nI k)), some (.inl (nI (4 * m + (P.2.2 m i).2.1))), some (.inl bo), some (.inl (an_rc (rA M m).2.1 an_W)), some (.inl (nI (p + 1))), some (.inl ((rA M2 m).1 ((if p = 0 then (P.2.2 m i).2.2.1 else (P.2.2 m i).2.2.2.1)))), some (.inl (nI (E.2.1 k p))), some (.inl (an_rc (rA M2 m).2.1 bo))]) hX d_R_calls_342 rfl (nI_add _ _) (by decide) rfl rfl ?_
            refine fm_goto (tgt := 219) hX d_R_calls_345 rfl ?_
            refine fm_drop 8 (ls1 := [some (.inr 0), some (.inl (nI m)), some (.inl (nI i)), some (.inl (nI k)), some (.inl (nI (4 * m + (P.2.2 m i).2.1))), some (.inl bo), some (.inl (an_rc (rA M m).2.1 an_W)), some (.inl (nI (p + 1))), none, some (.inl (nI (E.2.1 k p))), some (.inl (an_rc (rA M2 m).2.1 bo))]) rfl ?_
            refine fm_drop 9 (ls1 := [some (.inr 0), some (.inl (nI m)), some (.inl (nI i)), some (.inl (nI k)), some (.inl (nI (4 * m + (P.2.2 m i).2.1))), some (.inl bo), some (.inl (an_rc (rA M m).2.1 an_W)), some (.inl (nI (p + 1))), none, none, some (.inl (an_rc (rA M2 m).2.1 bo))]) rfl ?_
            refine fm_drop 10 (ls1 := [some (.inr 0), some (.inl (nI m)), some (.inl (nI i)), some (.inl (nI k)), some (.inl (nI (4 * m + (P.2.2 m i).2.1))), some (.inl bo), some (.inl (an_rc (rA M m).2.1 an_W)), some (.inl (nI (p + 1))), none, none, none]) rfl ?_
            exact ih (by omega) _ (rS_r2_1 hc h303 c322 c341)
        · show fm_G SR Y_R_calls X M (fm_vr (fun M' => rS m M M' (an_rn E (P.2.2 m i).2.1 (P.2.2 m i).2.2.1 (P.2.2 m i).2.2.2.1 (P.2.2 m i).2.2.2.2.toNatClampNeg (rA M m)))) 287 [some (.inr 0), some (.inl (nI m)), some (.inl (nI i)), some (.inl (nI k)), some (.inl (nI (4 * m + (P.2.2 m i).2.1))), some (.inl bo), some (.inl (an_rc (rA M m).2.1 an_W)), some (.inl (nI p)), some (.inl ((rA M2 m).1 ((if p = 0 then (P.2.2 m i).2.2.1 else (P.2.2 m i).2.2.2.1)))), some (.inl (nI (E.2.1 k p))), none] [] M2
          refine fm_aload_n (pq := 288) hX d_R_calls_287 rfl rfl rfl ?_
          refine fm_iload_n (pq := 289) hX d_R_calls_288 rfl rfl rfl ?_
          refine fm_ldc (pq := 291) (v := an_W) hX d_R_calls_289 kR_92 rfl ?_
          refine fm_iconst (pq := 292) (v := nI 2) hX d_R_calls_291 (by decide) rfl ?_
          refine fm_iload (pq := 294) hX d_R_calls_292 rfl rfl ?_
          refine fm_callV_r (as := [.inl (nI m), .inl an_W, .inl (nI 2), .inl ((rA M2 m).1 ((if p = 0 then (P.2.2 m i).2.2.1 else (P.2.2 m i).2.2.2.1)))]) (st := []) (pq := 297) hX rfl rfl cR_97 rfl im_R_holds se_R_holds (k_R_holds (m := m) (by omega) M2 an_W (f := 2) (by omega) ((rA M2 m).1 ((if p = 0 then (P.2.2 m i).2.2.1 else (P.2.2 m i).2.2.2.1)))) rfl rfl (Nat.le_of_ble_eq_true rfl) (Nat.le_of_ble_eq_true rfl) d_R_calls_294 rfl (fun M294 c294 => ?_)
          have hP294 := rS_P c294 hP2
          refine fm_goto (tgt := 342) hX d_R_calls_297 rfl ?_
          refine fm_iinc (pq := 345) (v := nI (p + 1)) (ls1 := [some (.inr 0), some (.inl (nI m)), some (.inl (nI i)), some (.inl (nI k)), some (.inl (nI (4 * m + (P.2.2 m i).2.1))), some (.inl bo), some (.inl (an_rc (rA M m).2.1 an_W)), some (.inl (nI (p + 1))), some (.inl ((rA M2 m).1 ((if p = 0 then (P.2.2 m i).2.2.1 else (P.2.2 m i).2.2.2.1)))), some (.inl (nI (E.2.1 k p))), none]) hX d_R_calls_342 rfl (nI_add _ _) (by decide) rfl rfl ?_
          refine fm_goto (tgt := 219) hX d_R_calls_345 rfl ?_
          refine fm_drop 8 (ls1 := [some (.inr 0), some (.inl (nI m)), some (.inl (nI i)), some (.inl (nI k)), some (.inl (nI (4 * m + (P.2.2 m i).2.1))), some (.inl bo), some (.inl (an_rc (rA M m).2.1 an_W)), some (.inl (nI (p + 1))), none, some (.inl (nI (E.2.1 k p))), none]) rfl ?_
          refine fm_drop 9 (ls1 := [some (.inr 0), some (.inl (nI m)), some (.inl (nI i)), some (.inl (nI k)), some (.inl (nI (4 * m + (P.2.2 m i).2.1))), some (.inl bo), some (.inl (an_rc (rA M m).2.1 an_W)), some (.inl (nI (p + 1))), none, none, none]) rfl ?_
          exact ih (by omega) _ (rS_r2_2 hc h284 c294)
      refine fm_iload (pq := 239) hX d_R_calls_237 rfl rfl ?_
      refine fm_z_ne (tgt := 256) (pq := 242) hX d_R_calls_239 rfl rfl (by omega) (fun h239 => ?_) (fun h239 => ?_)
      · show fm_G SR Y_R_calls X M (fm_vr (fun M' => rS m M M' (an_rn E (P.2.2 m i).2.1 (P.2.2 m i).2.2.1 (P.2.2 m i).2.2.2.1 (P.2.2 m i).2.2.2.2.toNatClampNeg (rA M m)))) 256 [some (.inr 0), some (.inl (nI m)), some (.inl (nI i)), some (.inl (nI k)), some (.inl (nI (4 * m + (P.2.2 m i).2.1))), some (.inl bo), some (.inl (an_rc (rA M m).2.1 an_W)), some (.inl (nI p)), none, none, none] [.inl (nI (4 * m)), .inr 8] M2
        refine fm_aload_n (pq := 257) hX d_R_calls_256 rfl rfl rfl ?_
        refine fm_getr (pq := 260) (q := 6) hX fR_25 rfl rfl d_R_calls_257 rfl ?_
        refine fm_bipush (pq := 262) (v := nI 24) hX d_R_calls_260 (by decide) rfl ?_
        refine fm_iload_n (pq := 263) hX d_R_calls_262 rfl rfl rfl ?_
        refine fm_imul (pq := 264) (v := nI (24 * m)) hX d_R_calls_263 (pk_mul _ _) rfl ?_
        refine fm_iload_n (pq := 265) hX d_R_calls_264 rfl rfl rfl ?_
        refine fm_iadd (pq := 266) (v := nI (24 * m + i)) hX d_R_calls_265 (nI_add _ _) rfl ?_
        refine fm_iald (pq := 267) (v := nI ((P.2.2 m i).2.2.2.1)) hX rfl rfl rfl (by omega) (by decide) ((hP2 m (by omega)).2.2 i (by omega)).2.2.2.1 d_R_calls_266 rfl ?_
        first | exact L267 _ (by rw [if_pos h239]) | exact L267 _ (by rw [if_neg h239])
      · show fm_G SR Y_R_calls X M (fm_vr (fun M' => rS m M M' (an_rn E (P.2.2 m i).2.1 (P.2.2 m i).2.2.1 (P.2.2 m i).2.2.2.1 (P.2.2 m i).2.2.2.2.toNatClampNeg (rA M m)))) 242 [some (.inr 0), some (.inl (nI m)), some (.inl (nI i)), some (.inl (nI k)), some (.inl (nI (4 * m + (P.2.2 m i).2.1))), some (.inl bo), some (.inl (an_rc (rA M m).2.1 an_W)), some (.inl (nI p)), none, none, none] [.inl (nI (4 * m)), .inr 8] M2
        refine fm_aload_n (pq := 243) hX d_R_calls_242 rfl rfl rfl ?_
        refine fm_getr (pq := 246) (q := 5) hX fR_22 rfl rfl d_R_calls_243 rfl ?_
        refine fm_bipush (pq := 248) (v := nI 24) hX d_R_calls_246 (by decide) rfl ?_
        refine fm_iload_n (pq := 249) hX d_R_calls_248 rfl rfl rfl ?_
        refine fm_imul (pq := 250) (v := nI (24 * m)) hX d_R_calls_249 (pk_mul _ _) rfl ?_
        refine fm_iload_n (pq := 251) hX d_R_calls_250 rfl rfl rfl ?_
        refine fm_iadd (pq := 252) (v := nI (24 * m + i)) hX d_R_calls_251 (nI_add _ _) rfl ?_
        refine fm_iald (pq := 253) (v := nI ((P.2.2 m i).2.2.1)) hX rfl rfl rfl (by omega) (by decide) ((hP2 m (by omega)).2.2 i (by omega)).2.2.1 d_R_calls_252 rfl ?_
        refine fm_goto (tgt := 267) hX d_R_calls_253 rfl ?_
        first | exact L267 _ (by rw [if_pos h239]) | exact L267 _ (by rw [if_neg h239])
  have L77 : ∀ p, p ≤ P.2.1 k → ∀ (bo : Int32) (M1 : fm_M), bo = an_rb (an_c0 (P.2.2 m i).2.1 (rA M m)) (P.2.2 m i).2.2.1 (P.2.2 m i).2.2.2.1 p → rS m M M1 (an_rn1 E (P.2.2 m i).2.1 (P.2.2 m i).2.2.1 (P.2.2 m i).2.2.2.1 k p (rA M m)) → fm_G SR Y_R_calls X M (fm_vr (fun M' => rS m M M' (an_rn E (P.2.2 m i).2.1 (P.2.2 m i).2.2.1 (P.2.2 m i).2.2.2.1 (P.2.2 m i).2.2.2.2.toNatClampNeg (rA M m)))) 77 [some (.inr 0), some (.inl (nI m)), some (.inl (nI i)), some (.inl (nI k)), some (.inl (nI (4 * m + (P.2.2 m i).2.1))), some (.inl bo), some (.inl (an_rc (rA M m).2.1 an_W)), some (.inl (nI p)), none, none, none] [] M1 := by
    refine fm_ind (P.2.1 k) (fun p hle ih => ?_)
    intro bo M1 hbo hc
    have hE1 := rE_S hE hc
    have hP1 := rS_P hc hP
    have hj4 : (if p = 0 then (P.2.2 m i).2.2.1 else (P.2.2 m i).2.2.2.1) < 4 := by split <;> omega
    refine fm_iload (pq := 79) hX d_R_calls_77 rfl rfl ?_
    refine fm_aload_n (pq := 80) hX d_R_calls_79 rfl rfl rfl ?_
    refine fm_getr (pq := 83) (q := 1) hX fR_7 rfl rfl d_R_calls_80 rfl ?_
    refine fm_iload_n (pq := 84) hX d_R_calls_83 rfl rfl rfl ?_
    refine fm_iald (pq := 85) (v := nI (P.2.1 k)) hX rfl rfl rfl (by omega) (by decide) (hP1 k (by omega)).2.1 d_R_calls_84 rfl ?_
    refine fm_n_ge (tgt := 216) (pq := 88) hX d_R_calls_85 rfl rfl (by omega) (by omega) (fun h85 => ?_) (fun h85 => ?_)
    · show fm_G SR Y_R_calls X M (fm_vr (fun M' => rS m M M' (an_rn E (P.2.2 m i).2.1 (P.2.2 m i).2.2.1 (P.2.2 m i).2.2.2.1 (P.2.2 m i).2.2.2.2.toNatClampNeg (rA M m)))) 216 [some (.inr 0), some (.inl (nI m)), some (.inl (nI i)), some (.inl (nI k)), some (.inl (nI (4 * m + (P.2.2 m i).2.1))), some (.inl bo), some (.inl (an_rc (rA M m).2.1 an_W)), some (.inl (nI p)), none, none, none] [] M1
      refine fm_iconst (pq := 217) (v := nI 0) hX d_R_calls_216 (by decide) rfl ?_
      refine fm_istore (pq := 219) (ls1 := [some (.inr 0), some (.inl (nI m)), some (.inl (nI i)), some (.inl (nI k)), some (.inl (nI (4 * m + (P.2.2 m i).2.1))), some (.inl bo), some (.inl (an_rc (rA M m).2.1 an_W)), some (.inl (nI 0)), none, none, none]) hX d_R_calls_217 (by decide) rfl rfl ?_
      have ep : p = P.2.1 k := by omega
      rw [ep] at hc hbo
      exact L219 bo hbo 0 (by omega) M1 hc
    · show fm_G SR Y_R_calls X M (fm_vr (fun M' => rS m M M' (an_rn E (P.2.2 m i).2.1 (P.2.2 m i).2.2.1 (P.2.2 m i).2.2.2.1 (P.2.2 m i).2.2.2.2.toNatClampNeg (rA M m)))) 88 [some (.inr 0), some (.inl (nI m)), some (.inl (nI i)), some (.inl (nI k)), some (.inl (nI (4 * m + (P.2.2 m i).2.1))), some (.inl bo), some (.inl (an_rc (rA M m).2.1 an_W)), some (.inl (nI p)), none, none, none] [] M1
      have he2 := rE_2 hE1 hk (by omega : p < P.2.1 k)
      refine fm_aload_n (pq := 89) hX d_R_calls_88 rfl rfl rfl ?_
      refine fm_getr (pq := 92) (q := 8) hX fR_31 rfl rfl d_R_calls_89 rfl ?_
      refine fm_iconst (pq := 93) (v := nI 4) hX d_R_calls_92 (by decide) rfl ?_
      refine fm_iload_n (pq := 94) hX d_R_calls_93 rfl rfl rfl ?_
      refine fm_imul (pq := 95) (v := nI (4 * m)) hX d_R_calls_94 (pk_mul _ _) rfl ?_
      have L125 : ∀ j : Nat, j = (if p = 0 then (P.2.2 m i).2.2.1 else (P.2.2 m i).2.2.2.1) → fm_G SR Y_R_calls X M (fm_vr (fun M' => rS m M M' (an_rn E (P.2.2 m i).2.1 (P.2.2 m i).2.2.1 (P.2.2 m i).2.2.2.1 (P.2.2 m i).2.2.2.2.toNatClampNeg (rA M m)))) 125 [some (.inr 0), some (.inl (nI m)), some (.inl (nI i)), some (.inl (nI k)), some (.inl (nI (4 * m + (P.2.2 m i).2.1))), some (.inl bo), some (.inl (an_rc (rA M m).2.1 an_W)), some (.inl (nI p)), none, none, none] [.inl (nI j), .inl (nI (4 * m)), .inr 8] M1 := by
        intro j hj
        subst hj
        refine fm_iadd (pq := 126) (v := nI (4 * m + ((if p = 0 then (P.2.2 m i).2.2.1 else (P.2.2 m i).2.2.2.1)))) hX d_R_calls_125 (nI_add _ _) rfl ?_
        refine fm_iald (pq := 127) (v := (rA M1 m).1 ((if p = 0 then (P.2.2 m i).2.2.1 else (P.2.2 m i).2.2.2.1))) hX rfl rfl rfl (by omega) (by decide) (rA_m (by omega)).symm d_R_calls_126 rfl ?_
        refine fm_istore (pq := 129) (ls1 := [some (.inr 0), some (.inl (nI m)), some (.inl (nI i)), some (.inl (nI k)), some (.inl (nI (4 * m + (P.2.2 m i).2.1))), some (.inl bo), some (.inl (an_rc (rA M m).2.1 an_W)), some (.inl (nI p)), some (.inl ((rA M1 m).1 ((if p = 0 then (P.2.2 m i).2.2.1 else (P.2.2 m i).2.2.2.1)))), none, none]) hX d_R_calls_127 (by decide) rfl rfl ?_
        refine fm_aload_n (pq := 130) hX d_R_calls_129 rfl rfl rfl ?_
        refine fm_iload_n (pq := 131) hX d_R_calls_130 rfl rfl rfl ?_
        refine fm_iload (pq := 133) hX d_R_calls_131 rfl rfl ?_
        refine fm_callV_i (as := [.inl (nI m), .inl ((rA M1 m).1 ((if p = 0 then (P.2.2 m i).2.2.1 else (P.2.2 m i).2.2.2.1)))]) (st := []) (pq := 136) hX rfl rfl cR_93 rfl im_R_reached se_R_reached (k_R_reached (m := m) (by omega) M1 ((rA M1 m).1 ((if p = 0 then (P.2.2 m i).2.2.1 else (P.2.2 m i).2.2.2.1)))) rfl rfl (Nat.le_of_ble_eq_true rfl) (Nat.le_of_ble_eq_true rfl) d_R_calls_133 rfl ?_
        refine fm_istore (pq := 138) (ls1 := [some (.inr 0), some (.inl (nI m)), some (.inl (nI i)), some (.inl (nI k)), some (.inl (nI (4 * m + (P.2.2 m i).2.1))), some (.inl bo), some (.inl (an_rc (rA M m).2.1 an_W)), some (.inl (nI p)), some (.inl ((rA M1 m).1 ((if p = 0 then (P.2.2 m i).2.2.1 else (P.2.2 m i).2.2.2.1)))), some (.inl (an_rc (rA M1 m).2.1 ((rA M1 m).1 ((if p = 0 then (P.2.2 m i).2.2.1 else (P.2.2 m i).2.2.2.1))))), none]) hX d_R_calls_136 (by decide) rfl rfl ?_
        have L178 : ∀ v : Int32, v = bI (E.2.2 k p) → fm_G SR Y_R_calls X M (fm_vr (fun M' => rS m M M' (an_rn E (P.2.2 m i).2.1 (P.2.2 m i).2.2.1 (P.2.2 m i).2.2.2.1 (P.2.2 m i).2.2.2.2.toNatClampNeg (rA M m)))) 178 [some (.inr 0), some (.inl (nI m)), some (.inl (nI i)), some (.inl (nI k)), some (.inl (nI (4 * m + (P.2.2 m i).2.1))), some (.inl bo), some (.inl (an_rc (rA M m).2.1 an_W)), some (.inl (nI p)), some (.inl ((rA M1 m).1 ((if p = 0 then (P.2.2 m i).2.2.1 else (P.2.2 m i).2.2.2.1)))), some (.inl (an_rc (rA M1 m).2.1 ((rA M1 m).1 ((if p = 0 then (P.2.2 m i).2.2.1 else (P.2.2 m i).2.2.2.1))))), none] [.inl v] M1 := by
          intro v hv
          subst hv
          refine fm_istore (pq := 180) (ls1 := [some (.inr 0), some (.inl (nI m)), some (.inl (nI i)), some (.inl (nI k)), some (.inl (nI (4 * m + (P.2.2 m i).2.1))), some (.inl bo), some (.inl (an_rc (rA M m).2.1 an_W)), some (.inl (nI p)), some (.inl ((rA M1 m).1 ((if p = 0 then (P.2.2 m i).2.2.1 else (P.2.2 m i).2.2.2.1)))), some (.inl (an_rc (rA M1 m).2.1 ((rA M1 m).1 ((if p = 0 then (P.2.2 m i).2.2.1 else (P.2.2 m i).2.2.2.1))))), some (.inl (bI (E.2.2 k p)))]) hX d_R_calls_178 (by decide) rfl rfl ?_
          refine fm_aload_n (pq := 181) hX d_R_calls_180 rfl rfl rfl ?_
          refine fm_iload_n (pq := 182) hX d_R_calls_181 rfl rfl rfl ?_
          refine fm_iload (pq := 184) hX d_R_calls_182 rfl rfl ?_
          refine fm_iconst (pq := 185) (v := nI 2) hX d_R_calls_184 (by decide) rfl ?_
          have L200 : ∀ v : Int32, v = (if E.2.2 k p = true then an_rc (rA M1 m).2.1 ((rA M1 m).1 (if p = 0 then (P.2.2 m i).2.2.1 else (P.2.2 m i).2.2.2.1)) ||| an_W else an_rc (rA M1 m).2.1 ((rA M1 m).1 (if p = 0 then (P.2.2 m i).2.2.1 else (P.2.2 m i).2.2.2.1))) → fm_G SR Y_R_calls X M (fm_vr (fun M' => rS m M M' (an_rn E (P.2.2 m i).2.1 (P.2.2 m i).2.2.1 (P.2.2 m i).2.2.2.1 (P.2.2 m i).2.2.2.2.toNatClampNeg (rA M m)))) 200 [some (.inr 0), some (.inl (nI m)), some (.inl (nI i)), some (.inl (nI k)), some (.inl (nI (4 * m + (P.2.2 m i).2.1))), some (.inl bo), some (.inl (an_rc (rA M m).2.1 an_W)), some (.inl (nI p)), some (.inl ((rA M1 m).1 ((if p = 0 then (P.2.2 m i).2.2.1 else (P.2.2 m i).2.2.2.1)))), some (.inl (an_rc (rA M1 m).2.1 ((rA M1 m).1 ((if p = 0 then (P.2.2 m i).2.2.1 else (P.2.2 m i).2.2.2.1))))), some (.inl (bI (E.2.2 k p)))] [.inl v, .inl (nI 2), .inl (an_rc (rA M1 m).2.1 ((rA M1 m).1 ((if p = 0 then (P.2.2 m i).2.2.1 else (P.2.2 m i).2.2.2.1)))), .inl (nI m), .inr 0] M1 := by
            intro v200 hv200
            refine fm_callV_r (as := [.inl (nI m), .inl (an_rc (rA M1 m).2.1 ((rA M1 m).1 ((if p = 0 then (P.2.2 m i).2.2.1 else (P.2.2 m i).2.2.2.1)))), .inl (nI 2), .inl v200]) (st := []) (pq := 203) hX rfl rfl cR_97 rfl im_R_holds se_R_holds (k_R_holds (m := m) (by omega) M1 (an_rc (rA M1 m).2.1 ((rA M1 m).1 ((if p = 0 then (P.2.2 m i).2.2.1 else (P.2.2 m i).2.2.2.1)))) (f := 2) (by omega) v200) rfl rfl (Nat.le_of_ble_eq_true rfl) (Nat.le_of_ble_eq_true rfl) d_R_calls_200 rfl (fun M200 c200 => ?_)
            have hP200 := rS_P c200 hP1
            refine fm_iload (pq := 205) hX d_R_calls_203 rfl rfl ?_
            refine fm_iload (pq := 207) hX d_R_calls_205 rfl rfl ?_
            refine fm_ior (pq := 208) (v := bo ||| ((rA M1 m).1 ((if p = 0 then (P.2.2 m i).2.2.1 else (P.2.2 m i).2.2.2.1)))) hX d_R_calls_207 rfl rfl ?_
            refine fm_istore (pq := 210) (ls1 := [some (.inr 0), some (.inl (nI m)), some (.inl (nI i)), some (.inl (nI k)), some (.inl (nI (4 * m + (P.2.2 m i).2.1))), some (.inl (bo ||| ((rA M1 m).1 ((if p = 0 then (P.2.2 m i).2.2.1 else (P.2.2 m i).2.2.2.1))))), some (.inl (an_rc (rA M m).2.1 an_W)), some (.inl (nI p)), some (.inl ((rA M1 m).1 ((if p = 0 then (P.2.2 m i).2.2.1 else (P.2.2 m i).2.2.2.1)))), some (.inl (an_rc (rA M1 m).2.1 ((rA M1 m).1 ((if p = 0 then (P.2.2 m i).2.2.1 else (P.2.2 m i).2.2.2.1))))), some (.inl (bI (E.2.2 k p)))]) hX d_R_calls_208 (by decide) rfl rfl ?_
            refine fm_iinc (pq := 213) (v := nI (p + 1)) (ls1 := [some (.inr 0), some (.inl (nI m)), some (.inl (nI i)), some (.inl (nI k)), some (.inl (nI (4 * m + (P.2.2 m i).2.1))), some (.inl (bo ||| ((rA M1 m).1 ((if p = 0 then (P.2.2 m i).2.2.1 else (P.2.2 m i).2.2.2.1))))), some (.inl (an_rc (rA M m).2.1 an_W)), some (.inl (nI (p + 1))), some (.inl ((rA M1 m).1 ((if p = 0 then (P.2.2 m i).2.2.1 else (P.2.2 m i).2.2.2.1)))), some (.inl (an_rc (rA M1 m).2.1 ((rA M1 m).1 ((if p = 0 then (P.2.2 m i).2.2.1 else (P.2.2 m i).2.2.2.1))))), some (.inl (bI (E.2.2 k p)))]) hX d_R_calls_210 rfl (nI_add _ _) (by decide) rfl rfl ?_
            refine fm_goto (tgt := 77) hX d_R_calls_213 rfl ?_
            refine fm_drop 8 (ls1 := [some (.inr 0), some (.inl (nI m)), some (.inl (nI i)), some (.inl (nI k)), some (.inl (nI (4 * m + (P.2.2 m i).2.1))), some (.inl (bo ||| ((rA M1 m).1 ((if p = 0 then (P.2.2 m i).2.2.1 else (P.2.2 m i).2.2.2.1))))), some (.inl (an_rc (rA M m).2.1 an_W)), some (.inl (nI (p + 1))), none, some (.inl (an_rc (rA M1 m).2.1 ((rA M1 m).1 ((if p = 0 then (P.2.2 m i).2.2.1 else (P.2.2 m i).2.2.2.1))))), some (.inl (bI (E.2.2 k p)))]) rfl ?_
            refine fm_drop 9 (ls1 := [some (.inr 0), some (.inl (nI m)), some (.inl (nI i)), some (.inl (nI k)), some (.inl (nI (4 * m + (P.2.2 m i).2.1))), some (.inl (bo ||| ((rA M1 m).1 ((if p = 0 then (P.2.2 m i).2.2.1 else (P.2.2 m i).2.2.2.1))))), some (.inl (an_rc (rA M m).2.1 an_W)), some (.inl (nI (p + 1))), none, none, some (.inl (bI (E.2.2 k p)))]) rfl ?_
            refine fm_drop 10 (ls1 := [some (.inr 0), some (.inl (nI m)), some (.inl (nI i)), some (.inl (nI k)), some (.inl (nI (4 * m + (P.2.2 m i).2.1))), some (.inl (bo ||| ((rA M1 m).1 ((if p = 0 then (P.2.2 m i).2.2.1 else (P.2.2 m i).2.2.2.1))))), some (.inl (an_rc (rA M m).2.1 an_W)), some (.inl (nI (p + 1))), none, none, none]) rfl ?_
            exact ih (by omega) _ _ (by rw [hbo, hc.1, an_rn1_m]; exact an_rb_s (by omega)) (rS_r1 (y := (P.2.2 m i).2.2.1) (z := (P.2.2 m i).2.2.2.1) hc hv200 c200)
          refine fm_iload (pq := 187) hX d_R_calls_185 rfl rfl ?_
          refine fm_b1_eq (tgt := 198) (pq := 190) hX d_R_calls_187 rfl rfl (fun h187 => ?_) (fun h187 => ?_)
          · show fm_G SR Y_R_calls X M (fm_vr (fun M' => rS m M M' (an_rn E (P.2.2 m i).2.1 (P.2.2 m i).2.2.1 (P.2.2 m i).2.2.2.1 (P.2.2 m i).2.2.2.2.toNatClampNeg (rA M m)))) 198 [some (.inr 0), some (.inl (nI m)), some (.inl (nI i)), some (.inl (nI k)), some (.inl (nI (4 * m + (P.2.2 m i).2.1))), some (.inl bo), some (.inl (an_rc (rA M m).2.1 an_W)), some (.inl (nI p)), some (.inl ((rA M1 m).1 ((if p = 0 then (P.2.2 m i).2.2.1 else (P.2.2 m i).2.2.2.1)))), some (.inl (an_rc (rA M1 m).2.1 ((rA M1 m).1 ((if p = 0 then (P.2.2 m i).2.2.1 else (P.2.2 m i).2.2.2.1))))), some (.inl (bI (E.2.2 k p)))] [.inl (nI 2), .inl (an_rc (rA M1 m).2.1 ((rA M1 m).1 ((if p = 0 then (P.2.2 m i).2.2.1 else (P.2.2 m i).2.2.2.1)))), .inl (nI m), .inr 0] M1
            refine fm_iload (pq := 200) hX d_R_calls_198 rfl rfl ?_
            first | exact L200 _ (if_pos h187).symm | exact L200 _ (if_neg (by rw [h187]; decide)).symm
          · show fm_G SR Y_R_calls X M (fm_vr (fun M' => rS m M M' (an_rn E (P.2.2 m i).2.1 (P.2.2 m i).2.2.1 (P.2.2 m i).2.2.2.1 (P.2.2 m i).2.2.2.2.toNatClampNeg (rA M m)))) 190 [some (.inr 0), some (.inl (nI m)), some (.inl (nI i)), some (.inl (nI k)), some (.inl (nI (4 * m + (P.2.2 m i).2.1))), some (.inl bo), some (.inl (an_rc (rA M m).2.1 an_W)), some (.inl (nI p)), some (.inl ((rA M1 m).1 ((if p = 0 then (P.2.2 m i).2.2.1 else (P.2.2 m i).2.2.2.1)))), some (.inl (an_rc (rA M1 m).2.1 ((rA M1 m).1 ((if p = 0 then (P.2.2 m i).2.2.1 else (P.2.2 m i).2.2.2.1))))), some (.inl (bI (E.2.2 k p)))] [.inl (nI 2), .inl (an_rc (rA M1 m).2.1 ((rA M1 m).1 ((if p = 0 then (P.2.2 m i).2.2.1 else (P.2.2 m i).2.2.2.1)))), .inl (nI m), .inr 0] M1
            refine fm_iload (pq := 192) hX d_R_calls_190 rfl rfl ?_
            refine fm_ldc (pq := 194) (v := an_W) hX d_R_calls_192 kR_92 rfl ?_
            refine fm_ior (pq := 195) (v := (an_rc (rA M1 m).2.1 ((rA M1 m).1 ((if p = 0 then (P.2.2 m i).2.2.1 else (P.2.2 m i).2.2.2.1)))) ||| an_W) hX d_R_calls_194 rfl rfl ?_
            refine fm_goto (tgt := 200) hX d_R_calls_195 rfl ?_
            first | exact L200 _ (if_pos h187).symm | exact L200 _ (if_neg (by rw [h187]; decide)).symm
        refine fm_aload_n (pq := 139) hX d_R_calls_138 rfl rfl rfl ?_
        refine fm_iload_n (pq := 140) hX d_R_calls_139 rfl rfl rfl ?_
        refine fm_iload_n (pq := 141) hX d_R_calls_140 rfl rfl rfl ?_
        refine fm_iload (pq := 143) hX d_R_calls_141 rfl rfl ?_
        refine fm_callV_i (as := [.inl (nI m), .inl (nI k), .inl (nI p)]) (st := []) (pq := 146) hX rfl rfl cR_105 rfl im_R_stateOf se_R_stateOf (k_R_stateOf (m := m) (by omega) M1 hP1 hw hE1 (k := k) (p := p) (by omega) (by omega)) rfl rfl (Nat.le_of_ble_eq_true rfl) (Nat.le_of_ble_eq_true rfl) d_R_calls_143 rfl ?_
        refine fm_iconst (pq := 147) (v := nI 2) hX d_R_calls_146 (by decide) rfl ?_
        refine fm_n_eq (tgt := 173) (pq := 150) hX d_R_calls_147 rfl rfl (by omega) (by omega) (fun h147 => ?_) (fun h147 => ?_)
        · show fm_G SR Y_R_calls X M (fm_vr (fun M' => rS m M M' (an_rn E (P.2.2 m i).2.1 (P.2.2 m i).2.2.1 (P.2.2 m i).2.2.2.1 (P.2.2 m i).2.2.2.2.toNatClampNeg (rA M m)))) 173 [some (.inr 0), some (.inl (nI m)), some (.inl (nI i)), some (.inl (nI k)), some (.inl (nI (4 * m + (P.2.2 m i).2.1))), some (.inl bo), some (.inl (an_rc (rA M m).2.1 an_W)), some (.inl (nI p)), some (.inl ((rA M1 m).1 ((if p = 0 then (P.2.2 m i).2.2.1 else (P.2.2 m i).2.2.2.1)))), some (.inl (an_rc (rA M1 m).2.1 ((rA M1 m).1 ((if p = 0 then (P.2.2 m i).2.2.1 else (P.2.2 m i).2.2.2.1))))), none] [] M1
          refine fm_iconst (pq := 174) (v := nI 1) hX d_R_calls_173 (by decide) rfl ?_
          refine fm_goto (tgt := 178) hX d_R_calls_174 rfl ?_
          first | exact L178 _ (by rw [rE_k2 hE1 hk (by omega) h147]; rfl) | exact L178 _ (by rw [rE_x hE1 hk (by omega) h147]; first | exact fm_b1 h170 | exact fm_b0 (fun z => z h170))
        · show fm_G SR Y_R_calls X M (fm_vr (fun M' => rS m M M' (an_rn E (P.2.2 m i).2.1 (P.2.2 m i).2.2.1 (P.2.2 m i).2.2.2.1 (P.2.2 m i).2.2.2.2.toNatClampNeg (rA M m)))) 150 [some (.inr 0), some (.inl (nI m)), some (.inl (nI i)), some (.inl (nI k)), some (.inl (nI (4 * m + (P.2.2 m i).2.1))), some (.inl bo), some (.inl (an_rc (rA M m).2.1 an_W)), some (.inl (nI p)), some (.inl ((rA M1 m).1 ((if p = 0 then (P.2.2 m i).2.2.1 else (P.2.2 m i).2.2.2.1)))), some (.inl (an_rc (rA M1 m).2.1 ((rA M1 m).1 ((if p = 0 then (P.2.2 m i).2.2.1 else (P.2.2 m i).2.2.2.1))))), none] [] M1
          refine fm_aload_n (pq := 151) hX d_R_calls_150 rfl rfl rfl ?_
          refine fm_iload_n (pq := 152) hX d_R_calls_151 rfl rfl rfl ?_
          refine fm_iconst (pq := 153) (v := nI 1) hX d_R_calls_152 (by decide) rfl ?_
          refine fm_bipush (pq := 155) (v := nI 24) hX d_R_calls_153 (by decide) rfl ?_
          refine fm_iload (pq := 157) hX d_R_calls_155 rfl rfl ?_
          refine fm_iadd (pq := 158) (v := nI (24 + p)) hX d_R_calls_157 (nI_add _ _) rfl ?_
          refine fm_ishl (pq := 159) (v := an_1 (24 + p)) hX d_R_calls_158 rfl rfl ?_
          refine fm_callV_i (as := [.inl (nI k), .inl (an_1 (24 + p))]) (st := []) (pq := 162) hX rfl rfl cR_93 rfl im_R_reached se_R_reached (k_R_reached (m := k) (by omega) M1 (an_1 (24 + p))) rfl rfl (Nat.le_of_ble_eq_true rfl) (Nat.le_of_ble_eq_true rfl) d_R_calls_159 rfl ?_
          refine fm_aload_n (pq := 163) hX d_R_calls_162 rfl rfl rfl ?_
          refine fm_iload_n (pq := 164) hX d_R_calls_163 rfl rfl rfl ?_
          refine fm_ldc (pq := 166) (v := an_W) hX d_R_calls_164 kR_92 rfl ?_
          refine fm_callV_i (as := [.inl (nI k), .inl an_W]) (st := [.inl (an_rc (rA M1 k).2.1 (an_1 (24 + p)))]) (pq := 169) hX rfl rfl cR_93 rfl im_R_reached se_R_reached (k_R_reached (m := k) (by omega) M1 an_W) rfl rfl (Nat.le_of_ble_eq_true rfl) (Nat.le_of_ble_eq_true rfl) d_R_calls_166 rfl ?_
          refine fm_iand (pq := 170) (v := (an_rc (rA M1 k).2.1 (an_1 (24 + p))) &&& (an_rc (rA M1 k).2.1 an_W)) hX d_R_calls_169 rfl rfl ?_
          refine fm_if_eq (tgt := 177) (pq := 173) hX d_R_calls_170 rfl rfl (fun h170 => ?_) (fun h170 => ?_)
          · show fm_G SR Y_R_calls X M (fm_vr (fun M' => rS m M M' (an_rn E (P.2.2 m i).2.1 (P.2.2 m i).2.2.1 (P.2.2 m i).2.2.2.1 (P.2.2 m i).2.2.2.2.toNatClampNeg (rA M m)))) 177 [some (.inr 0), some (.inl (nI m)), some (.inl (nI i)), some (.inl (nI k)), some (.inl (nI (4 * m + (P.2.2 m i).2.1))), some (.inl bo), some (.inl (an_rc (rA M m).2.1 an_W)), some (.inl (nI p)), some (.inl ((rA M1 m).1 ((if p = 0 then (P.2.2 m i).2.2.1 else (P.2.2 m i).2.2.2.1)))), some (.inl (an_rc (rA M1 m).2.1 ((rA M1 m).1 ((if p = 0 then (P.2.2 m i).2.2.1 else (P.2.2 m i).2.2.2.1))))), none] [] M1
            refine fm_iconst (pq := 178) (v := nI 0) hX d_R_calls_177 (by decide) rfl ?_
            first | exact L178 _ (by rw [rE_k2 hE1 hk (by omega) h147]; rfl) | exact L178 _ (by rw [rE_x hE1 hk (by omega) h147]; first | exact fm_b1 h170 | exact fm_b0 (fun z => z h170))
          · show fm_G SR Y_R_calls X M (fm_vr (fun M' => rS m M M' (an_rn E (P.2.2 m i).2.1 (P.2.2 m i).2.2.1 (P.2.2 m i).2.2.2.1 (P.2.2 m i).2.2.2.2.toNatClampNeg (rA M m)))) 173 [some (.inr 0), some (.inl (nI m)), some (.inl (nI i)), some (.inl (nI k)), some (.inl (nI (4 * m + (P.2.2 m i).2.1))), some (.inl bo), some (.inl (an_rc (rA M m).2.1 an_W)), some (.inl (nI p)), some (.inl ((rA M1 m).1 ((if p = 0 then (P.2.2 m i).2.2.1 else (P.2.2 m i).2.2.2.1)))), some (.inl (an_rc (rA M1 m).2.1 ((rA M1 m).1 ((if p = 0 then (P.2.2 m i).2.2.1 else (P.2.2 m i).2.2.2.1))))), none] [] M1
            refine fm_iconst (pq := 174) (v := nI 1) hX d_R_calls_173 (by decide) rfl ?_
            refine fm_goto (tgt := 178) hX d_R_calls_174 rfl ?_
            first | exact L178 _ (by rw [rE_k2 hE1 hk (by omega) h147]; rfl) | exact L178 _ (by rw [rE_x hE1 hk (by omega) h147]; first | exact fm_b1 h170 | exact fm_b0 (fun z => z h170))
      refine fm_iload (pq := 97) hX d_R_calls_95 rfl rfl ?_
      refine fm_z_ne (tgt := 114) (pq := 100) hX d_R_calls_97 rfl rfl (by omega) (fun h97 => ?_) (fun h97 => ?_)
      · show fm_G SR Y_R_calls X M (fm_vr (fun M' => rS m M M' (an_rn E (P.2.2 m i).2.1 (P.2.2 m i).2.2.1 (P.2.2 m i).2.2.2.1 (P.2.2 m i).2.2.2.2.toNatClampNeg (rA M m)))) 114 [some (.inr 0), some (.inl (nI m)), some (.inl (nI i)), some (.inl (nI k)), some (.inl (nI (4 * m + (P.2.2 m i).2.1))), some (.inl bo), some (.inl (an_rc (rA M m).2.1 an_W)), some (.inl (nI p)), none, none, none] [.inl (nI (4 * m)), .inr 8] M1
        refine fm_aload_n (pq := 115) hX d_R_calls_114 rfl rfl rfl ?_
        refine fm_getr (pq := 118) (q := 6) hX fR_25 rfl rfl d_R_calls_115 rfl ?_
        refine fm_bipush (pq := 120) (v := nI 24) hX d_R_calls_118 (by decide) rfl ?_
        refine fm_iload_n (pq := 121) hX d_R_calls_120 rfl rfl rfl ?_
        refine fm_imul (pq := 122) (v := nI (24 * m)) hX d_R_calls_121 (pk_mul _ _) rfl ?_
        refine fm_iload_n (pq := 123) hX d_R_calls_122 rfl rfl rfl ?_
        refine fm_iadd (pq := 124) (v := nI (24 * m + i)) hX d_R_calls_123 (nI_add _ _) rfl ?_
        refine fm_iald (pq := 125) (v := nI ((P.2.2 m i).2.2.2.1)) hX rfl rfl rfl (by omega) (by decide) ((hP1 m (by omega)).2.2 i (by omega)).2.2.2.1 d_R_calls_124 rfl ?_
        first | exact L125 _ (by rw [if_pos h97]) | exact L125 _ (by rw [if_neg h97])
      · show fm_G SR Y_R_calls X M (fm_vr (fun M' => rS m M M' (an_rn E (P.2.2 m i).2.1 (P.2.2 m i).2.2.1 (P.2.2 m i).2.2.2.1 (P.2.2 m i).2.2.2.2.toNatClampNeg (rA M m)))) 100 [some (.inr 0), some (.inl (nI m)), some (.inl (nI i)), some (.inl (nI k)), some (.inl (nI (4 * m + (P.2.2 m i).2.1))), some (.inl bo), some (.inl (an_rc (rA M m).2.1 an_W)), some (.inl (nI p)), none, none, none] [.inl (nI (4 * m)), .inr 8] M1
        refine fm_aload_n (pq := 101) hX d_R_calls_100 rfl rfl rfl ?_
        refine fm_getr (pq := 104) (q := 5) hX fR_22 rfl rfl d_R_calls_101 rfl ?_
        refine fm_bipush (pq := 106) (v := nI 24) hX d_R_calls_104 (by decide) rfl ?_
        refine fm_iload_n (pq := 107) hX d_R_calls_106 rfl rfl rfl ?_
        refine fm_imul (pq := 108) (v := nI (24 * m)) hX d_R_calls_107 (pk_mul _ _) rfl ?_
        refine fm_iload_n (pq := 109) hX d_R_calls_108 rfl rfl rfl ?_
        refine fm_iadd (pq := 110) (v := nI (24 * m + i)) hX d_R_calls_109 (nI_add _ _) rfl ?_
        refine fm_iald (pq := 111) (v := nI ((P.2.2 m i).2.2.1)) hX rfl rfl rfl (by omega) (by decide) ((hP1 m (by omega)).2.2 i (by omega)).2.2.1 d_R_calls_110 rfl ?_
        refine fm_goto (tgt := 125) hX d_R_calls_111 rfl ?_
        first | exact L125 _ (by rw [if_pos h97]) | exact L125 _ (by rw [if_neg h97])
  show fm_G SR Y_R_calls X M (fm_vr (fun M' => rS m M M' (an_rn E (P.2.2 m i).2.1 (P.2.2 m i).2.2.1 (P.2.2 m i).2.2.2.1 (P.2.2 m i).2.2.2.2.toNatClampNeg (rA M m)))) 0 [some (.inr 0), some (.inl (nI m)), some (.inl (nI i)), none, none, none, none, none, none, none, none] [] M
  refine fm_aload_n (pq := 1) hX d_R_calls_0 rfl rfl rfl ?_
  refine fm_getr (pq := 4) (q := 7) hX fR_28 rfl rfl d_R_calls_1 rfl ?_
  refine fm_bipush (pq := 6) (v := nI 24) hX d_R_calls_4 (by decide) rfl ?_
  refine fm_iload_n (pq := 7) hX d_R_calls_6 rfl rfl rfl ?_
  refine fm_imul (pq := 8) (v := nI (24 * m)) hX d_R_calls_7 (pk_mul _ _) rfl ?_
  refine fm_iload_n (pq := 9) hX d_R_calls_8 rfl rfl rfl ?_
  refine fm_iadd (pq := 10) (v := nI (24 * m + i)) hX d_R_calls_9 (nI_add _ _) rfl ?_
  refine fm_iald (pq := 11) (v := nI k) hX rfl rfl rfl (by omega) (by decide) (((hP m (by omega)).2.2 i (by omega)).2.2.2.2.trans hn) d_R_calls_10 rfl ?_
  refine fm_istore_n (pq := 12) (ls1 := [some (.inr 0), some (.inl (nI m)), some (.inl (nI i)), some (.inl (nI k)), none, none, none, none, none, none, none]) hX d_R_calls_11 rfl (by decide) rfl rfl ?_
  refine fm_iconst (pq := 13) (v := nI 4) hX d_R_calls_12 (by decide) rfl ?_
  refine fm_iload_n (pq := 14) hX d_R_calls_13 rfl rfl rfl ?_
  refine fm_imul (pq := 15) (v := nI (4 * m)) hX d_R_calls_14 (pk_mul _ _) rfl ?_
  refine fm_aload_n (pq := 16) hX d_R_calls_15 rfl rfl rfl ?_
  refine fm_getr (pq := 19) (q := 4) hX fR_19 rfl rfl d_R_calls_16 rfl ?_
  refine fm_bipush (pq := 21) (v := nI 24) hX d_R_calls_19 (by decide) rfl ?_
  refine fm_iload_n (pq := 22) hX d_R_calls_21 rfl rfl rfl ?_
  refine fm_imul (pq := 23) (v := nI (24 * m)) hX d_R_calls_22 (pk_mul _ _) rfl ?_
  refine fm_iload_n (pq := 24) hX d_R_calls_23 rfl rfl rfl ?_
  refine fm_iadd (pq := 25) (v := nI (24 * m + i)) hX d_R_calls_24 (nI_add _ _) rfl ?_
  refine fm_iald (pq := 26) (v := nI ((P.2.2 m i).2.1)) hX rfl rfl rfl (by omega) (by decide) ((hP m (by omega)).2.2 i (by omega)).2.1 d_R_calls_25 rfl ?_
  refine fm_iadd (pq := 27) (v := nI (4 * m + ((P.2.2 m i).2.1))) hX d_R_calls_26 (nI_add _ _) rfl ?_
  refine fm_istore (pq := 29) (ls1 := [some (.inr 0), some (.inl (nI m)), some (.inl (nI i)), some (.inl (nI k)), some (.inl (nI (4 * m + ((P.2.2 m i).2.1)))), none, none, none, none, none, none]) hX d_R_calls_27 (by decide) rfl rfl ?_
  refine fm_iconst (pq := 30) (v := nI 0) hX d_R_calls_29 (by decide) rfl ?_
  refine fm_istore (pq := 32) (ls1 := [some (.inr 0), some (.inl (nI m)), some (.inl (nI i)), some (.inl (nI k)), some (.inl (nI (4 * m + ((P.2.2 m i).2.1)))), some (.inl (nI 0)), none, none, none, none, none]) hX d_R_calls_30 (by decide) rfl rfl ?_
  refine fm_aload_n (pq := 33) hX d_R_calls_32 rfl rfl rfl ?_
  refine fm_iload_n (pq := 34) hX d_R_calls_33 rfl rfl rfl ?_
  refine fm_ldc (pq := 36) (v := an_W) hX d_R_calls_34 kR_92 rfl ?_
  refine fm_callV_i (as := [.inl (nI m), .inl an_W]) (st := []) (pq := 39) hX rfl rfl cR_93 rfl im_R_reached se_R_reached (k_R_reached (m := m) (by omega) M an_W) rfl rfl (Nat.le_of_ble_eq_true rfl) (Nat.le_of_ble_eq_true rfl) d_R_calls_36 rfl ?_
  refine fm_istore (pq := 41) (ls1 := [some (.inr 0), some (.inl (nI m)), some (.inl (nI i)), some (.inl (nI k)), some (.inl (nI (4 * m + ((P.2.2 m i).2.1)))), some (.inl (nI 0)), some (.inl (an_rc (rA M m).2.1 an_W)), none, none, none, none]) hX d_R_calls_39 (by decide) rfl rfl ?_
  refine fm_aload_n (pq := 42) hX d_R_calls_41 rfl rfl rfl ?_
  refine fm_iload_n (pq := 43) hX d_R_calls_42 rfl rfl rfl ?_
  refine fm_iload (pq := 45) hX d_R_calls_43 rfl rfl ?_
  refine fm_iconst (pq := 46) (v := nI 2) hX d_R_calls_45 (by decide) rfl ?_
  refine fm_ldc (pq := 48) (v := an_W) hX d_R_calls_46 kR_92 rfl ?_
  refine fm_callV_r (as := [.inl (nI m), .inl (an_rc (rA M m).2.1 an_W), .inl (nI 2), .inl an_W]) (st := []) (pq := 51) hX rfl rfl cR_97 rfl im_R_holds se_R_holds (k_R_holds (m := m) (by omega) M (an_rc (rA M m).2.1 an_W) (f := 2) (by omega) an_W) rfl rfl (Nat.le_of_ble_eq_true rfl) (Nat.le_of_ble_eq_true rfl) d_R_calls_48 rfl (fun M48 c48 => ?_)
  have hP48 := rS_P c48 hP
  refine fm_aload_n (pq := 52) hX d_R_calls_51 rfl rfl rfl ?_
  refine fm_getr (pq := 55) (q := 8) hX fR_31 rfl rfl d_R_calls_52 rfl ?_
  refine fm_iload (pq := 57) hX d_R_calls_55 rfl rfl ?_
  refine fm_aload_n (pq := 58) hX d_R_calls_57 rfl rfl rfl ?_
  refine fm_getr (pq := 61) (q := 8) hX fR_31 rfl rfl d_R_calls_58 rfl ?_
  refine fm_iload (pq := 63) hX d_R_calls_61 rfl rfl ?_
  refine fm_iald (pq := 64) (v := (rA M48 m).1 ((P.2.2 m i).2.1)) hX rfl rfl rfl (by omega) (by decide) (rA_m (by omega)).symm d_R_calls_63 rfl ?_
  refine fm_aload_n (pq := 65) hX d_R_calls_64 rfl rfl rfl ?_
  refine fm_iload_n (pq := 66) hX d_R_calls_65 rfl rfl rfl ?_
  refine fm_ldc (pq := 68) (v := an_W) hX d_R_calls_66 kR_92 rfl ?_
  refine fm_iconst (pq := 69) (v := nI 0) hX d_R_calls_68 (by decide) rfl ?_
  refine fm_callV_i (as := [.inl (nI m), .inl an_W, .inl (nI 0)]) (st := [.inl ((rA M48 m).1 ((P.2.2 m i).2.1)), .inl (nI (4 * m + ((P.2.2 m i).2.1))), .inr 8]) (pq := 72) hX rfl rfl cR_101 rfl im_R_held se_R_held (k_R_held (m := m) (by omega) M48 an_W (f := 0) (by omega)) rfl rfl (Nat.le_of_ble_eq_true rfl) (Nat.le_of_ble_eq_true rfl) d_R_calls_69 rfl ?_
  refine fm_ior (pq := 73) (v := ((rA M48 m).1 ((P.2.2 m i).2.1)) ||| (an_hb (fun a => (rA M48 m).2.1 a 0) an_W 27)) hX d_R_calls_72 rfl rfl ?_
  refine fm_iast (pq := 74) hX rfl rfl rfl (by omega) (by decide) d_R_calls_73 rfl ?_
  generalize hM73 : fm_up M48 8 (4 * m + ((P.2.2 m i).2.1)) (((rA M48 m).1 ((P.2.2 m i).2.1)) ||| (an_hb (fun a => (rA M48 m).2.1 a 0) an_W 27)) = M73
  have c73 : rS m M48 M73 (an_m (rA M48 m) (P.2.2 m i).2.1 (an_hb (fun a => (rA M48 m).2.1 a 0) an_W 27)) := by rw [← hM73]; exact rS_m2 w2 M48 _
  have c0 := rS_c0 c48 c73
  have hP73 := rS_P c0 hP
  refine fm_iconst (pq := 75) (v := nI 0) hX d_R_calls_74 (by decide) rfl ?_
  refine fm_istore (pq := 77) (ls1 := [some (.inr 0), some (.inl (nI m)), some (.inl (nI i)), some (.inl (nI k)), some (.inl (nI (4 * m + ((P.2.2 m i).2.1)))), some (.inl (nI 0)), some (.inl (an_rc (rA M m).2.1 an_W)), some (.inl (nI 0)), none, none, none]) hX d_R_calls_75 (by decide) rfl rfl ?_
  exact L77 0 (by omega) _ M73 rfl c0
abbrev Y_R_adds : fm_Y := ("EscapeMillModel", b_R_adds, 6, none, 3)
set_option maxRecDepth 100000 in
set_option maxHeartbeats 4000000 in
theorem k_R_adds {P : pr_T} {m : Nat} (hm : m < 5) (M : fm_M) (hP : rP M P) (hw : pr_wf P) {i : Nat} (hi : i < P.1 m) {E : an_E} (hE : rE P m E M) : fm_ct SR y_R_adds b_R_adds 6 none 3 [.inr 0, .inl (nI m), .inl (nI i)] M (fm_vr (fun M' => rS m M M' (an_st (fun x y z n => an_rn E x y z n) i (P.2.2 m i) (rA M m)))) := by
  refine fm_of (ls := [some (.inr 0), some (.inl (nI m)), some (.inl (nI i)), none, none, none]) (by decide) wsA_good (Nat.le_of_ble_eq_true rfl) rfl (fun X hX => ?_)
  obtain ⟨wl, wi, wI⟩ := hw m hm
  obtain ⟨w1, w2, w3, w4, w5, w6⟩ := wI i hi
  clear w6
  show fm_G SR Y_R_adds X M (fm_vr (fun M' => rS m M M' (an_st (fun x y z n => an_rn E x y z n) i (P.2.2 m i) (rA M m)))) 0 [some (.inr 0), some (.inl (nI m)), some (.inl (nI i)), none, none, none] [] M
  refine fm_bipush (pq := 2) (v := nI 24) hX d_R_adds_0 (by decide) rfl ?_
  refine fm_iload_n (pq := 3) hX d_R_adds_2 rfl rfl rfl ?_
  refine fm_imul (pq := 4) (v := nI (24 * m)) hX d_R_adds_3 (pk_mul _ _) rfl ?_
  refine fm_iload_n (pq := 5) hX d_R_adds_4 rfl rfl rfl ?_
  refine fm_iadd (pq := 6) (v := nI (24 * m + i)) hX d_R_adds_5 (nI_add _ _) rfl ?_
  refine fm_istore_n (pq := 7) (ls1 := [some (.inr 0), some (.inl (nI m)), some (.inl (nI i)), some (.inl (nI (24 * m + i))), none, none]) hX d_R_adds_6 rfl (by decide) rfl rfl ?_
  refine fm_iconst (pq := 8) (v := nI 4) hX d_R_adds_7 (by decide) rfl ?_
  refine fm_iload_n (pq := 9) hX d_R_adds_8 rfl rfl rfl ?_
  refine fm_imul (pq := 10) (v := nI (4 * m)) hX d_R_adds_9 (pk_mul _ _) rfl ?_
  refine fm_aload_n (pq := 11) hX d_R_adds_10 rfl rfl rfl ?_
  refine fm_getr (pq := 14) (q := 4) hX fR_19 rfl rfl d_R_adds_11 rfl ?_
  refine fm_iload_n (pq := 15) hX d_R_adds_14 rfl rfl rfl ?_
  refine fm_iald (pq := 16) (v := nI ((P.2.2 m i).2.1)) hX rfl rfl rfl (by omega) (by decide) ((hP m (by omega)).2.2 i (by omega)).2.1 d_R_adds_15 rfl ?_
  refine fm_iadd (pq := 17) (v := nI (4 * m + ((P.2.2 m i).2.1))) hX d_R_adds_16 (nI_add _ _) rfl ?_
  refine fm_istore (pq := 19) (ls1 := [some (.inr 0), some (.inl (nI m)), some (.inl (nI i)), some (.inl (nI (24 * m + i))), some (.inl (nI (4 * m + ((P.2.2 m i).2.1)))), none]) hX d_R_adds_17 (by decide) rfl rfl ?_
  refine fm_iconst (pq := 20) (v := nI 4) hX d_R_adds_19 (by decide) rfl ?_
  refine fm_iload_n (pq := 21) hX d_R_adds_20 rfl rfl rfl ?_
  refine fm_imul (pq := 22) (v := nI (4 * m)) hX d_R_adds_21 (pk_mul _ _) rfl ?_
  refine fm_aload_n (pq := 23) hX d_R_adds_22 rfl rfl rfl ?_
  refine fm_getr (pq := 26) (q := 5) hX fR_22 rfl rfl d_R_adds_23 rfl ?_
  refine fm_iload_n (pq := 27) hX d_R_adds_26 rfl rfl rfl ?_
  refine fm_iald (pq := 28) (v := nI ((P.2.2 m i).2.2.1)) hX rfl rfl rfl (by omega) (by decide) ((hP m (by omega)).2.2 i (by omega)).2.2.1 d_R_adds_27 rfl ?_
  refine fm_iadd (pq := 29) (v := nI (4 * m + ((P.2.2 m i).2.2.1))) hX d_R_adds_28 (nI_add _ _) rfl ?_
  refine fm_istore (pq := 31) (ls1 := [some (.inr 0), some (.inl (nI m)), some (.inl (nI i)), some (.inl (nI (24 * m + i))), some (.inl (nI (4 * m + ((P.2.2 m i).2.1)))), some (.inl (nI (4 * m + ((P.2.2 m i).2.2.1))))]) hX d_R_adds_29 (by decide) rfl rfl ?_
  refine fm_aload_n (pq := 32) hX d_R_adds_31 rfl rfl rfl ?_
  refine fm_getr (pq := 35) (q := 3) hX fR_16 rfl rfl d_R_adds_32 rfl ?_
  refine fm_iload_n (pq := 36) hX d_R_adds_35 rfl rfl rfl ?_
  refine fm_iald (pq := 37) (v := nI ((P.2.2 m i).1)) hX rfl rfl rfl (by omega) (by decide) ((hP m (by omega)).2.2 i (by omega)).1 d_R_adds_36 rfl ?_
  rcases (by omega : ((P.2.2 m i).1 = 0) ∨ ((P.2.2 m i).1 = 1) ∨ ((P.2.2 m i).1 = 2 ∨ (P.2.2 m i).1 = 5 ∨ (P.2.2 m i).1 = 6 ∨ (P.2.2 m i).1 = 7 ∨ (P.2.2 m i).1 = 8 ∨ (P.2.2 m i).1 = 9 ∨ (P.2.2 m i).1 = 10 ∨ (P.2.2 m i).1 = 11 ∨ (P.2.2 m i).1 = 14 ∨ (P.2.2 m i).1 = 15 ∨ (P.2.2 m i).1 = 18) ∨ ((P.2.2 m i).1 = 3) ∨ ((P.2.2 m i).1 = 4) ∨ ((P.2.2 m i).1 = 12) ∨ ((P.2.2 m i).1 = 13) ∨ ((P.2.2 m i).1 = 16) ∨ ((P.2.2 m i).1 = 17)) with h37 | h37 | h37 | h37 | h37 | h37 | h37 | h37 | h37
  · refine fm_table (tgt := 124) (off := 87) hX d_R_adds_37 (by decide) (by rw [h37]; decide) (by decide) ?_
    refine fm_aload_n (pq := 125) hX d_R_adds_124 rfl rfl rfl ?_
    refine fm_getr (pq := 128) (q := 8) hX fR_31 rfl rfl d_R_adds_125 rfl ?_
    refine fm_iload (pq := 130) hX d_R_adds_128 rfl rfl ?_
    refine fm_aload_n (pq := 131) hX d_R_adds_130 rfl rfl rfl ?_
    refine fm_getr (pq := 134) (q := 8) hX fR_31 rfl rfl d_R_adds_131 rfl ?_
    refine fm_iload (pq := 136) hX d_R_adds_134 rfl rfl ?_
    refine fm_iald (pq := 137) (v := (rA M m).1 ((P.2.2 m i).2.1)) hX rfl rfl rfl (by omega) (by decide) (rA_m (by omega)).symm d_R_adds_136 rfl ?_
    refine fm_iconst (pq := 138) (v := nI 1) hX d_R_adds_137 (by decide) rfl ?_
    refine fm_iload_n (pq := 139) hX d_R_adds_138 rfl rfl rfl ?_
    refine fm_ishl (pq := 140) (v := an_1 i) hX d_R_adds_139 rfl rfl ?_
    refine fm_ior (pq := 141) (v := ((rA M m).1 ((P.2.2 m i).2.1)) ||| (an_1 i)) hX d_R_adds_140 rfl rfl ?_
    refine fm_iast (pq := 142) hX rfl rfl rfl (by omega) (by decide) d_R_adds_141 rfl ?_
    refine fm_goto (tgt := 310) hX d_R_adds_142 rfl ?_
    refine fm_vret hX rfl d_R_adds_310 ?_
    exact ⟨rfl, rS_eq (rS_m2 w2 M _) (by first | (simp [an_st, h37]; done) | (rw [show an_W = an_1 26 from rfl, an_hb_1 _ (by omega)]; simp [an_st, h37]))⟩
  · refine fm_table (tgt := 145) (off := 108) hX d_R_adds_37 (by decide) (by rw [h37]; decide) (by decide) ?_
    refine fm_aload_n (pq := 146) hX d_R_adds_145 rfl rfl rfl ?_
    refine fm_getr (pq := 149) (q := 8) hX fR_31 rfl rfl d_R_adds_146 rfl ?_
    refine fm_iload (pq := 151) hX d_R_adds_149 rfl rfl ?_
    refine fm_aload_n (pq := 152) hX d_R_adds_151 rfl rfl rfl ?_
    refine fm_getr (pq := 155) (q := 8) hX fR_31 rfl rfl d_R_adds_152 rfl ?_
    refine fm_iload (pq := 157) hX d_R_adds_155 rfl rfl ?_
    refine fm_iald (pq := 158) (v := (rA M m).1 ((P.2.2 m i).2.1)) hX rfl rfl rfl (by omega) (by decide) (rA_m (by omega)).symm d_R_adds_157 rfl ?_
    refine fm_aload_n (pq := 159) hX d_R_adds_158 rfl rfl rfl ?_
    refine fm_getr (pq := 162) (q := 8) hX fR_31 rfl rfl d_R_adds_159 rfl ?_
    refine fm_iload (pq := 164) hX d_R_adds_162 rfl rfl ?_
    refine fm_iald (pq := 165) (v := (rA M m).1 ((P.2.2 m i).2.2.1)) hX rfl rfl rfl (by omega) (by decide) (rA_m (by omega)).symm d_R_adds_164 rfl ?_
    refine fm_ior (pq := 166) (v := ((rA M m).1 ((P.2.2 m i).2.1)) ||| ((rA M m).1 ((P.2.2 m i).2.2.1))) hX d_R_adds_165 rfl rfl ?_
    refine fm_iast (pq := 167) hX rfl rfl rfl (by omega) (by decide) d_R_adds_166 rfl ?_
    refine fm_goto (tgt := 310) hX d_R_adds_167 rfl ?_
    refine fm_vret hX rfl d_R_adds_310 ?_
    exact ⟨rfl, rS_eq (rS_m2 w2 M _) (by first | (simp [an_st, h37]; done) | (rw [show an_W = an_1 26 from rfl, an_hb_1 _ (by omega)]; simp [an_st, h37]))⟩
  · refine fm_table (tgt := 310) (off := 273) hX d_R_adds_37 (by decide) (by rcases h37 with e | e | e | e | e | e | e | e | e | e | e <;> rw [e] <;> decide) (by decide) ?_
    refine fm_vret hX rfl d_R_adds_310 ?_
    exact ⟨rfl, rS_eq (rS_rf m M) (by rcases h37 with e | e | e | e | e | e | e | e | e | e | e <;> simp [an_st, e])⟩
  · refine fm_table (tgt := 170) (off := 133) hX d_R_adds_37 (by decide) (by rw [h37]; decide) (by decide) ?_
    refine fm_aload_n (pq := 171) hX d_R_adds_170 rfl rfl rfl ?_
    refine fm_getr (pq := 174) (q := 8) hX fR_31 rfl rfl d_R_adds_171 rfl ?_
    refine fm_iload (pq := 176) hX d_R_adds_174 rfl rfl ?_
    refine fm_aload_n (pq := 177) hX d_R_adds_176 rfl rfl rfl ?_
    refine fm_getr (pq := 180) (q := 8) hX fR_31 rfl rfl d_R_adds_177 rfl ?_
    refine fm_iload (pq := 182) hX d_R_adds_180 rfl rfl ?_
    refine fm_iald (pq := 183) (v := (rA M m).1 ((P.2.2 m i).2.1)) hX rfl rfl rfl (by omega) (by decide) (rA_m (by omega)).symm d_R_adds_182 rfl ?_
    refine fm_aload_n (pq := 184) hX d_R_adds_183 rfl rfl rfl ?_
    refine fm_iload_n (pq := 185) hX d_R_adds_184 rfl rfl rfl ?_
    refine fm_aload_n (pq := 186) hX d_R_adds_185 rfl rfl rfl ?_
    refine fm_getr (pq := 189) (q := 8) hX fR_31 rfl rfl d_R_adds_186 rfl ?_
    refine fm_iload (pq := 191) hX d_R_adds_189 rfl rfl ?_
    refine fm_iald (pq := 192) (v := (rA M m).1 ((P.2.2 m i).2.2.1)) hX rfl rfl rfl (by omega) (by decide) (rA_m (by omega)).symm d_R_adds_191 rfl ?_
    refine fm_aload_n (pq := 193) hX d_R_adds_192 rfl rfl rfl ?_
    refine fm_getr (pq := 196) (q := 6) hX fR_25 rfl rfl d_R_adds_193 rfl ?_
    refine fm_iload_n (pq := 197) hX d_R_adds_196 rfl rfl rfl ?_
    refine fm_iald (pq := 198) (v := nI ((P.2.2 m i).2.2.2.1)) hX rfl rfl rfl (by omega) (by decide) ((hP m (by omega)).2.2 i (by omega)).2.2.2.1 d_R_adds_197 rfl ?_
    refine fm_callV_i (as := [.inl (nI m), .inl ((rA M m).1 ((P.2.2 m i).2.2.1)), .inl (nI ((P.2.2 m i).2.2.2.1))]) (st := [.inl ((rA M m).1 ((P.2.2 m i).2.1)), .inl (nI (4 * m + ((P.2.2 m i).2.1))), .inr 8]) (pq := 201) hX rfl rfl cR_101 rfl im_R_held se_R_held (k_R_held (m := m) (by omega) M ((rA M m).1 ((P.2.2 m i).2.2.1)) (f := (P.2.2 m i).2.2.2.1) (by omega)) rfl rfl (Nat.le_of_ble_eq_true rfl) (Nat.le_of_ble_eq_true rfl) d_R_adds_198 rfl ?_
    refine fm_ior (pq := 202) (v := ((rA M m).1 ((P.2.2 m i).2.1)) ||| (an_hb (fun a => (rA M m).2.1 a ((P.2.2 m i).2.2.2.1)) ((rA M m).1 ((P.2.2 m i).2.2.1)) 27)) hX d_R_adds_201 rfl rfl ?_
    refine fm_iast (pq := 203) hX rfl rfl rfl (by omega) (by decide) d_R_adds_202 rfl ?_
    refine fm_goto (tgt := 310) hX d_R_adds_203 rfl ?_
    refine fm_vret hX rfl d_R_adds_310 ?_
    exact ⟨rfl, rS_eq (rS_m2 w2 M _) (by first | (simp [an_st, h37]; done) | (rw [show an_W = an_1 26 from rfl, an_hb_1 _ (by omega)]; simp [an_st, h37]))⟩
  · refine fm_table (tgt := 206) (off := 169) hX d_R_adds_37 (by decide) (by rw [h37]; decide) (by decide) ?_
    refine fm_aload_n (pq := 207) hX d_R_adds_206 rfl rfl rfl ?_
    refine fm_iload_n (pq := 208) hX d_R_adds_207 rfl rfl rfl ?_
    refine fm_aload_n (pq := 209) hX d_R_adds_208 rfl rfl rfl ?_
    refine fm_getr (pq := 212) (q := 8) hX fR_31 rfl rfl d_R_adds_209 rfl ?_
    refine fm_iload (pq := 214) hX d_R_adds_212 rfl rfl ?_
    refine fm_iald (pq := 215) (v := (rA M m).1 ((P.2.2 m i).2.1)) hX rfl rfl rfl (by omega) (by decide) (rA_m (by omega)).symm d_R_adds_214 rfl ?_
    refine fm_aload_n (pq := 216) hX d_R_adds_215 rfl rfl rfl ?_
    refine fm_getr (pq := 219) (q := 6) hX fR_25 rfl rfl d_R_adds_216 rfl ?_
    refine fm_iload_n (pq := 220) hX d_R_adds_219 rfl rfl rfl ?_
    refine fm_iald (pq := 221) (v := nI ((P.2.2 m i).2.2.2.1)) hX rfl rfl rfl (by omega) (by decide) ((hP m (by omega)).2.2 i (by omega)).2.2.2.1 d_R_adds_220 rfl ?_
    refine fm_aload_n (pq := 222) hX d_R_adds_221 rfl rfl rfl ?_
    refine fm_getr (pq := 225) (q := 8) hX fR_31 rfl rfl d_R_adds_222 rfl ?_
    refine fm_iload (pq := 227) hX d_R_adds_225 rfl rfl ?_
    refine fm_iald (pq := 228) (v := (rA M m).1 ((P.2.2 m i).2.2.1)) hX rfl rfl rfl (by omega) (by decide) (rA_m (by omega)).symm d_R_adds_227 rfl ?_
    refine fm_callV_r (as := [.inl (nI m), .inl ((rA M m).1 ((P.2.2 m i).2.1)), .inl (nI ((P.2.2 m i).2.2.2.1)), .inl ((rA M m).1 ((P.2.2 m i).2.2.1))]) (st := []) (pq := 231) hX rfl rfl cR_97 rfl im_R_holds se_R_holds (k_R_holds (m := m) (by omega) M ((rA M m).1 ((P.2.2 m i).2.1)) (f := (P.2.2 m i).2.2.2.1) (by omega) ((rA M m).1 ((P.2.2 m i).2.2.1))) rfl rfl (Nat.le_of_ble_eq_true rfl) (Nat.le_of_ble_eq_true rfl) d_R_adds_228 rfl (fun M228 c228 => ?_)
    have hP228 := rS_P c228 hP
    refine fm_goto (tgt := 310) hX d_R_adds_231 rfl ?_
    refine fm_vret hX rfl d_R_adds_310 ?_
    exact ⟨rfl, rS_eq c228 (by rw [rHs_z (by omega)]; simp [an_st, h37])⟩
  · refine fm_table (tgt := 234) (off := 197) hX d_R_adds_37 (by decide) (by rw [h37]; decide) (by decide) ?_
    refine fm_aload_n (pq := 235) hX d_R_adds_234 rfl rfl rfl ?_
    refine fm_iload_n (pq := 236) hX d_R_adds_235 rfl rfl rfl ?_
    refine fm_ldc (pq := 238) (v := an_W) hX d_R_adds_236 kR_92 rfl ?_
    refine fm_iconst (pq := 239) (v := nI 2) hX d_R_adds_238 (by decide) rfl ?_
    refine fm_aload_n (pq := 240) hX d_R_adds_239 rfl rfl rfl ?_
    refine fm_getr (pq := 243) (q := 8) hX fR_31 rfl rfl d_R_adds_240 rfl ?_
    refine fm_iload (pq := 245) hX d_R_adds_243 rfl rfl ?_
    refine fm_iald (pq := 246) (v := (rA M m).1 ((P.2.2 m i).2.1)) hX rfl rfl rfl (by omega) (by decide) (rA_m (by omega)).symm d_R_adds_245 rfl ?_
    refine fm_callV_r (as := [.inl (nI m), .inl an_W, .inl (nI 2), .inl ((rA M m).1 ((P.2.2 m i).2.1))]) (st := []) (pq := 249) hX rfl rfl cR_97 rfl im_R_holds se_R_holds (k_R_holds (m := m) (by omega) M an_W (f := 2) (by omega) ((rA M m).1 ((P.2.2 m i).2.1))) rfl rfl (Nat.le_of_ble_eq_true rfl) (Nat.le_of_ble_eq_true rfl) d_R_adds_246 rfl (fun M246 c246 => ?_)
    have hP246 := rS_P c246 hP
    refine fm_goto (tgt := 310) hX d_R_adds_249 rfl ?_
    refine fm_vret hX rfl d_R_adds_310 ?_
    exact ⟨rfl, rS_eq c246 (by rw [rHs_2]; simp [an_st, h37])⟩
  · refine fm_table (tgt := 252) (off := 215) hX d_R_adds_37 (by decide) (by rw [h37]; decide) (by decide) ?_
    refine fm_aload_n (pq := 253) hX d_R_adds_252 rfl rfl rfl ?_
    refine fm_getr (pq := 256) (q := 8) hX fR_31 rfl rfl d_R_adds_253 rfl ?_
    refine fm_iload (pq := 258) hX d_R_adds_256 rfl rfl ?_
    refine fm_aload_n (pq := 259) hX d_R_adds_258 rfl rfl rfl ?_
    refine fm_getr (pq := 262) (q := 8) hX fR_31 rfl rfl d_R_adds_259 rfl ?_
    refine fm_iload (pq := 264) hX d_R_adds_262 rfl rfl ?_
    refine fm_iald (pq := 265) (v := (rA M m).1 ((P.2.2 m i).2.1)) hX rfl rfl rfl (by omega) (by decide) (rA_m (by omega)).symm d_R_adds_264 rfl ?_
    refine fm_aload_n (pq := 266) hX d_R_adds_265 rfl rfl rfl ?_
    refine fm_iload_n (pq := 267) hX d_R_adds_266 rfl rfl rfl ?_
    refine fm_ldc (pq := 269) (v := an_W) hX d_R_adds_267 kR_92 rfl ?_
    refine fm_iconst (pq := 270) (v := nI 0) hX d_R_adds_269 (by decide) rfl ?_
    refine fm_callV_i (as := [.inl (nI m), .inl an_W, .inl (nI 0)]) (st := [.inl ((rA M m).1 ((P.2.2 m i).2.1)), .inl (nI (4 * m + ((P.2.2 m i).2.1))), .inr 8]) (pq := 273) hX rfl rfl cR_101 rfl im_R_held se_R_held (k_R_held (m := m) (by omega) M an_W (f := 0) (by omega)) rfl rfl (Nat.le_of_ble_eq_true rfl) (Nat.le_of_ble_eq_true rfl) d_R_adds_270 rfl ?_
    refine fm_ior (pq := 274) (v := ((rA M m).1 ((P.2.2 m i).2.1)) ||| (an_hb (fun a => (rA M m).2.1 a 0) an_W 27)) hX d_R_adds_273 rfl rfl ?_
    refine fm_iast (pq := 275) hX rfl rfl rfl (by omega) (by decide) d_R_adds_274 rfl ?_
    refine fm_goto (tgt := 310) hX d_R_adds_275 rfl ?_
    refine fm_vret hX rfl d_R_adds_310 ?_
    exact ⟨rfl, rS_eq (rS_m2 w2 M _) (by first | (simp [an_st, h37]; done) | (rw [show an_W = an_1 26 from rfl, an_hb_1 _ (by omega)]; simp [an_st, h37]))⟩
  · refine fm_table (tgt := 301) (off := 264) hX d_R_adds_37 (by decide) (by rw [h37]; decide) (by decide) ?_
    refine fm_aload_n (pq := 302) hX d_R_adds_301 rfl rfl rfl ?_
    refine fm_iload_n (pq := 303) hX d_R_adds_302 rfl rfl rfl ?_
    refine fm_iload_n (pq := 304) hX d_R_adds_303 rfl rfl rfl ?_
    refine fm_callV_r (as := [.inl (nI m), .inl (nI i)]) (st := []) (pq := 307) hX rfl rfl cR_108 rfl im_R_calls se_R_calls (k_R_calls hm M hP hw (i := i) (by omega) h37 hE) rfl rfl (Nat.le_of_ble_eq_true rfl) (Nat.le_of_ble_eq_true rfl) d_R_adds_304 rfl (fun M304 c304 => ?_)
    have hP304 := rS_P c304 hP
    refine fm_goto (tgt := 310) hX d_R_adds_307 rfl ?_
    refine fm_vret hX rfl d_R_adds_310 ?_
    exact ⟨rfl, rS_eq c304 (by simp [an_st, h37])⟩
  · refine fm_table (tgt := 278) (off := 241) hX d_R_adds_37 (by decide) (by rw [h37]; decide) (by decide) ?_
    refine fm_aload_n (pq := 279) hX d_R_adds_278 rfl rfl rfl ?_
    refine fm_getr (pq := 282) (q := 10) hX fR_37 rfl rfl d_R_adds_279 rfl ?_
    refine fm_iload_n (pq := 283) hX d_R_adds_282 rfl rfl rfl ?_
    refine fm_aload_n (pq := 284) hX d_R_adds_283 rfl rfl rfl ?_
    refine fm_getr (pq := 287) (q := 10) hX fR_37 rfl rfl d_R_adds_284 rfl ?_
    refine fm_iload_n (pq := 288) hX d_R_adds_287 rfl rfl rfl ?_
    refine fm_iald (pq := 289) (v := (rA M m).2.2) hX rfl rfl rfl (by omega) (by decide) rfl d_R_adds_288 rfl ?_
    refine fm_aload_n (pq := 290) hX d_R_adds_289 rfl rfl rfl ?_
    refine fm_getr (pq := 293) (q := 8) hX fR_31 rfl rfl d_R_adds_290 rfl ?_
    refine fm_iload (pq := 295) hX d_R_adds_293 rfl rfl ?_
    refine fm_iald (pq := 296) (v := (rA M m).1 ((P.2.2 m i).2.1)) hX rfl rfl rfl (by omega) (by decide) (rA_m (by omega)).symm d_R_adds_295 rfl ?_
    refine fm_ior (pq := 297) (v := ((rA M m).2.2) ||| ((rA M m).1 ((P.2.2 m i).2.1))) hX d_R_adds_296 rfl rfl ?_
    refine fm_iast (pq := 298) hX rfl rfl rfl (by omega) (by decide) d_R_adds_297 rfl ?_
    refine fm_goto (tgt := 310) hX d_R_adds_298 rfl ?_
    refine fm_vret hX rfl d_R_adds_310 ?_
    exact ⟨rfl, rS_eq (rS_g2 M _) (by simp [an_st, h37])⟩
