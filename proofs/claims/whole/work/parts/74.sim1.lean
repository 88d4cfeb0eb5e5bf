/-! THE TWO MACHINES: what single changes keep -/
theorem cm_emp_n {M : fm_M} {c a j : Nat} (h : ¬ (((a = 5 ∨ a = 6) ∧ c * 2 ≤ j ∧ j < c * 2 + 2) ∨ (a = 7 ∧ j = c))) : cm_emp M c a j = M a j := by
  unfold cm_emp
  simp only [cm_e]
  rw [fm_up_n (by omega), fm_up_n (by omega), fm_up_n (by omega), fm_up_n (by omega), fm_up_n (by omega)]
theorem cm_emp_5 {M : fm_M} {c z : Nat} (h : z < 2) : cm_emp M c 5 (c * 2 + z) = nI 0 := by
  unfold cm_emp
  simp only [cm_e]
  rw [fm_up_n (by omega), fm_up_n (by omega)]
  rcases (by omega : z = 0 ∨ z = 1) with e | e <;> subst e
  · rw [fm_up_n (by omega), fm_up_n (by omega), fm_up_s]
  · rw [fm_up_s]
theorem cm_emp_6 {M : fm_M} {c z : Nat} (h : z < 2) : cm_emp M c 6 (c * 2 + z) = nI 0 := by
  unfold cm_emp
  simp only [cm_e]
  rw [fm_up_n (by omega)]
  rcases (by omega : z = 0 ∨ z = 1) with e | e <;> subst e
  · rw [fm_up_n (by omega), fm_up_n (by omega), fm_up_s]
  · rw [fm_up_s]
theorem cm_emp_7 {M : fm_M} {c : Nat} : cm_emp M c 7 c = nI 0 := by
  unfold cm_emp
  rw [fm_up_s]
theorem sR_cg2 {ap : sAp} {md md' : Nat} {Mc Mr Mc' Mr' : fm_M} {f q v : Nat} {K K' : Nat → Nat → Prop} (h : sR ap md Mc Mr f q v K) (hv : v < 4) (hm : md ≤ md') (h1 : ∀ a j, (a = 12 ∧ j = f * 4 + v) ∨ ((a = 5 ∨ a = 6) ∧ 802 + 8 * f + 2 * v ≤ j ∧ j < 804 + 8 * f + 2 * v) ∨ (a = 7 ∧ j = 401 + 4 * f + v) → Mc' a j = Mc a j) (h2 : ∀ a j, (a = 16 ∧ j = 4 * f + v) ∨ (a = 18 ∧ 20 * f + 5 * v ≤ j ∧ j < 20 * f + 5 * v + 5) → Mr' a j = Mr a j) (hk : ∀ k, ap q v k → K q k → K' q k) : sR ap md' Mc' Mr' f q v K' := by
  have e1 : Mc' 12 (f * 4 + v) = Mc 12 (f * 4 + v) := h1 _ _ (Or.inl ⟨rfl, rfl⟩)
  have e2 : Mr' 16 (4 * f + v) = Mr 16 (4 * f + v) := h2 _ _ (Or.inl ⟨rfl, rfl⟩)
  refine ⟨fun n => ?_, fun k a => ?_⟩
  · rw [e1, e2]
    exact sV_m (h.1 n) hm
  · rw [e1, e2]
    obtain ⟨g1, g2⟩ := h.2 k a
    refine ⟨g1, ?_⟩
    rcases g2 with ⟨g3, g4⟩ | ⟨g3, g4⟩
    · exact Or.inl ⟨g3, hk k a g4⟩
    · exact Or.inr ⟨g3, sC_cg g4 hm (fun e j q => h1 e j (by omega)) (fun j q1 q2 => h2 18 j (by omega))⟩
/-- a frame of which only references and objects' parts change -/
theorem sF_r {ap : sAp} {md md' : Nat} {Mc Mr Mc' Mr' : fm_M} {f : Nat} {K K' : Nat → Nat → Prop} (h : sF ap md Mc Mr f K) (h1 : ∀ a j, ((9 ≤ a ∧ a ≤ 11) ∨ a = 13) → Mc' a j = Mc a j) (h2 : ∀ a j, ((13 ≤ a ∧ a ≤ 15) ∨ a = 17) → Mr' a j = Mr a j) (hR : ∀ q v, q < 5 → Mc 9 f = nI q → v < 4 → sR ap md Mc Mr f q v K → sR ap md' Mc' Mr' f q v K') : sF ap md' Mc' Mr' f K' := by
  obtain ⟨q, t, g1, g2, g3, g4, g5, g6, g7, g8, g9, g10⟩ := h
  refine ⟨q, t, g1, g2, by rw [h1 9 _ (by omega)]; exact g3, by rw [h2 13 _ (by omega)]; exact g4, by rw [h1 10 _ (by omega), h2 14 _ (by omega)]; exact g5, by rw [h1 11 _ (by omega)]; exact g6, by rw [h2 15 _ (by omega)]; exact g7, fun v hv => by rw [h1 13 _ (by omega), h2 17 _ (by omega)]; exact g8 v hv, fun v hv => hR q v g1 g3 hv (g9 v hv), by rw [h1 9 _ (by omega)]; exact g10⟩
section SUP
variable {P : pr_T} {ap : sAp} {r md sh dn : Nat} {Mc Mr : fm_M} {K : Nat → Nat → Prop}
theorem sS_int (h : sS P ap r md sh dn Mc Mr K) (h0 : 0 < r) {x : Nat} (hx : x < 4) (v : Int32) : sS P ap r md sh dn (fm_up Mc 13 ((r - 1) * 4 + x) v) (fm_up Mr 17 (4 * (r - 1) + x) v) K := by
  obtain ⟨g1, g2, g3, g4, g5⟩ := h
  refine ⟨sNm_cg g1 (fun j => fm_up_a (by decide)) (fun j => fm_up_a (by decide)), sKp_cg g2 (fun j => fm_up_a (by decide)) (fun j => fm_up_a (by decide)), sGl_cg g3 (Nat.le_refl _) (fun j => fm_up_a (by decide)) (fun j => fm_up_a (by decide)), sOb_cg g4 (by have := g1.1; omega) (fun a j q => fm_up_a (by omega)) (fun j => fm_up_a (by decide)), ?_⟩
  refine sFs_t g5 (Nat.le_refl _) (fun f a j hf q => fm_up_n (by unfold sFc at q; omega)) (fun f a j hf q => fm_up_n (by unfold sFd at q; omega)) (fun _ hF => ?_)
  obtain ⟨q, t, a1, a2, a3, a4, a5, a6, a7, a8, a9, a10⟩ := hF
  refine ⟨q, t, a1, a2, by rw [fm_up_a (by decide)]; exact a3, by rw [fm_up_a (by decide)]; exact a4, by rw [fm_up_a (by decide), fm_up_a (by decide)]; exact a5, by rw [fm_up_a (by decide)]; exact a6, by rw [fm_up_a (by decide)]; exact a7, fun u hu => ?_, fun u hu => sR_cg2 (a9 u hu) hu (Nat.le_refl _) (fun a j q => fm_up_a (by omega)) (fun a j q => fm_up_a (by omega)) (fun _ _ z => z), by rw [fm_up_a (by decide)]; exact a10⟩
  by_cases e : u = x
  · subst e
    rw [fm_up_s, fm_up_s]
  · rw [fm_up_b (by omega), fm_up_b (by omega)]
    exact a8 u hu
theorem sS_ref (h : sS P ap r md sh dn Mc Mr K) (h0 : 0 < r) {x : Nat} (hx : x < 4) {a b : Int32} (hv : sV md a b) (hn : ∀ q, q < 5 → Mc 9 (r - 1) = nI q → ∀ k, ¬ ap q x k) : sS P ap r md sh dn (fm_up Mc 12 ((r - 1) * 4 + x) a) (fm_up Mr 16 (4 * (r - 1) + x) b) K := by
  obtain ⟨g1, g2, g3, g4, g5⟩ := h
  refine ⟨sNm_cg g1 (fun j => fm_up_a (by decide)) (fun j => fm_up_a (by decide)), sKp_cg g2 (fun j => fm_up_a (by decide)) (fun j => fm_up_a (by decide)), sGl_cg g3 (Nat.le_refl _) (fun j => fm_up_a (by decide)) (fun j => fm_up_a (by decide)), sOb_cg g4 (by have := g1.1; omega) (fun a j q => fm_up_a (by omega)) (fun j => fm_up_a (by decide)), ?_⟩
  refine sFs_t g5 (Nat.le_refl _) (fun f a j hf q => fm_up_n (by unfold sFc at q; omega)) (fun f a j hf q => fm_up_n (by unfold sFd at q; omega)) (fun _ hF => ?_)
  refine sF_r hF (fun a j q => fm_up_a (by omega)) (fun a j q => fm_up_a (by omega)) (fun q u hq e9 hu hR => ?_)
  by_cases e : u = x
  · subst e
    refine ⟨fun _ => ?_, fun k z => absurd z (hn q hq e9 k)⟩
    rw [fm_up_s, fm_up_s]
    exact hv
  · exact sR_cg2 hR hu (Nat.le_refl _) (fun a j q => fm_up_n (by omega)) (fun a j q => fm_up_n (by omega)) (fun _ _ z => z)
theorem sS_pl (h : sS P ap r md sh dn Mc Mr K) (h0 : 0 < r) (w : Int32) : sS P ap r md sh dn (fm_up Mc 10 (r - 1) w) (fm_up Mr 14 (r - 1) w) K := by
  obtain ⟨g1, g2, g3, g4, g5⟩ := h
  refine ⟨sNm_cg g1 (fun j => fm_up_a (by decide)) (fun j => fm_up_a (by decide)), sKp_cg g2 (fun j => fm_up_a (by decide)) (fun j => fm_up_a (by decide)), sGl_cg g3 (Nat.le_refl _) (fun j => fm_up_a (by decide)) (fun j => fm_up_a (by decide)), sOb_cg g4 (by have := g1.1; omega) (fun a j q => fm_up_a (by omega)) (fun j => fm_up_a (by decide)), ?_⟩
  refine sFs_t g5 (Nat.le_refl _) (fun f a j hf q => fm_up_n (by unfold sFc at q; omega)) (fun f a j hf q => fm_up_n (by unfold sFd at q; omega)) (fun _ hF => ?_)
  obtain ⟨q, t, a1, a2, a3, a4, a5, a6, a7, a8, a9, a10⟩ := hF
  refine ⟨q, t, a1, a2, by rw [fm_up_a (by decide)]; exact a3, by rw [fm_up_a (by decide)]; exact a4, by rw [fm_up_s, fm_up_s], by rw [fm_up_a (by decide)]; exact a6, by rw [fm_up_a (by decide)]; exact a7, fun u hu => by rw [fm_up_a (by decide), fm_up_a (by decide)]; exact a8 u hu, fun u hu => sR_cg2 (a9 u hu) hu (Nat.le_refl _) (fun a j q => fm_up_a (by omega)) (fun a j q => fm_up_a (by omega)) (fun _ _ z => z), by rw [fm_up_a (by decide)]; exact a10⟩
/-- numbers alone change -/
theorem sS_nm {r' md' sh' dn' : Nat} (h : sS P ap r md sh dn Mc Mr K) {Mc' Mr' : fm_M} (h1 : ∀ a j, a ≠ 4 → Mc' a j = Mc a j) (h2 : ∀ a j, a ≠ 0 → Mr' a j = Mr a j) (hr : r' = r) (hm : md' = md) (hn : sNm r md sh dn Mc Mr → sNm r md sh' dn' Mc' Mr') : sS P ap r' md' sh' dn' Mc' Mr' K := by
  subst hr
  subst hm
  obtain ⟨g1, g2, g3, g4, g5⟩ := h
  exact ⟨hn g1, sKp_cg g2 (fun j => h1 _ _ (by decide)) (fun j => h2 _ _ (by decide)), sGl_cg g3 (Nat.le_refl _) (fun j => h1 _ _ (by decide)) (fun j => h2 _ _ (by decide)), sOb_cg g4 (by have := g1.1; omega) (fun a j q => h1 _ _ (by omega)) (fun j => h2 _ _ (by decide)), sFs_cg g5 g1.1.1 (Nat.le_refl _) (fun a j q => h1 _ _ (by omega)) (fun a j q1 q2 => h2 _ _ (by omega))⟩
theorem sS_fail (h : sS P ap r md sh dn Mc Mr K) (v : Int32) : sS P ap r md sh dn (fm_up Mc 4 11 v) (fm_up Mr 0 24 v) K := by
  refine sS_nm h (fun a j q => fm_up_a q) (fun a j q => fm_up_a q) rfl rfl (fun g => ?_)
  obtain ⟨g0, ⟨a1, b1⟩, ⟨a2, b2⟩, ⟨a3, b3⟩, ⟨a4, b4⟩, g5, g6⟩ := g
  refine ⟨g0, ⟨?_, ?_⟩, ⟨?_, ?_⟩, ⟨?_, ?_⟩, ⟨?_, ?_⟩, ?_, ?_⟩
  · rw [fm_up_b (by decide)]; exact a1
  · rw [fm_up_b (by decide)]; exact b1
  · rw [fm_up_b (by decide)]; exact a2
  · rw [fm_up_b (by decide)]; exact b2
  · rw [fm_up_b (by decide)]; exact a3
  · rw [fm_up_b (by decide)]; exact b3
  · rw [fm_up_b (by decide)]; exact a4
  · rw [fm_up_b (by decide)]; exact b4
  · rw [fm_up_s, fm_up_s]
  · rw [fm_up_b (by decide), fm_up_b (by decide)]; exact g6
theorem sS_lock (h : sS P ap r md sh dn Mc Mr K) (v : Int32) : sS P ap r md sh dn (fm_up Mc 4 15 v) (fm_up Mr 0 27 v) K := by
  refine sS_nm h (fun a j q => fm_up_a q) (fun a j q => fm_up_a q) rfl rfl (fun g => ?_)
  obtain ⟨g0, ⟨a1, b1⟩, ⟨a2, b2⟩, ⟨a3, b3⟩, ⟨a4, b4⟩, g5, g6⟩ := g
  refine ⟨g0, ⟨?_, ?_⟩, ⟨?_, ?_⟩, ⟨?_, ?_⟩, ⟨?_, ?_⟩, ?_, ?_⟩
  · rw [fm_up_b (by decide)]; exact a1
  · rw [fm_up_b (by decide)]; exact b1
  · rw [fm_up_b (by decide)]; exact a2
  · rw [fm_up_b (by decide)]; exact b2
  · rw [fm_up_b (by decide)]; exact a3
  · rw [fm_up_b (by decide)]; exact b3
  · rw [fm_up_b (by decide)]; exact a4
  · rw [fm_up_b (by decide)]; exact b4
  · rw [fm_up_b (by decide), fm_up_b (by decide)]; exact g5
  · rw [fm_up_s, fm_up_s]
theorem sS_done (h : sS P ap r md sh dn Mc Mr K) (hd : dn < 400) : sS P ap r md sh (dn + 1) (fm_up Mc 4 13 (nI (dn + 1))) (fm_up Mr 0 26 (nI (dn + 1))) K := by
  refine sS_nm h (fun a j q => fm_up_a q) (fun a j q => fm_up_a q) rfl rfl (fun g => ?_)
  obtain ⟨g0, ⟨a1, b1⟩, ⟨a2, b2⟩, ⟨a3, b3⟩, ⟨a4, b4⟩, g5, g6⟩ := g
  refine ⟨by omega, ⟨?_, ?_⟩, ⟨?_, ?_⟩, ⟨?_, ?_⟩, ⟨?_, ?_⟩, ?_, ?_⟩
  · rw [fm_up_b (by decide)]; exact a1
  · rw [fm_up_b (by decide)]; exact b1
  · rw [fm_up_b (by decide)]; exact a2
  · rw [fm_up_b (by decide)]; exact b2
  · rw [fm_up_b (by decide)]; exact a3
  · rw [fm_up_b (by decide)]; exact b3
  · rw [fm_up_s]
  · rw [fm_up_s]
  · rw [fm_up_b (by decide), fm_up_b (by decide)]; exact g5
  · rw [fm_up_b (by decide), fm_up_b (by decide)]; exact g6
theorem sS_show (h : sS P ap r md sh dn Mc Mr K) (hd : sh < dn) (v : Int32) : sS P ap r md (sh + 1) dn (cm_show Mc sh v) (rm_show Mr sh v) K := by
  have h1 : sS P ap r md sh dn (if sh < 32 then fm_up Mc 14 sh v else Mc) (if sh < 32 then fm_up Mr 21 sh v else Mr) K := by
    by_cases z : sh < 32
    · rw [if_pos z, if_pos z]
      obtain ⟨g1, g2, g3, g4, g5⟩ := h
      refine ⟨sNm_cg g1 (fun j => fm_up_a (by decide)) (fun j => fm_up_a (by decide)), fun j hj => ?_, sGl_cg g3 (Nat.le_refl _) (fun j => fm_up_a (by decide)) (fun j => fm_up_a (by decide)), sOb_cg g4 (by have := g1.1; omega) (fun a j q => fm_up_a (by omega)) (fun j => fm_up_a (by decide)), sFs_cg g5 g1.1.1 (Nat.le_refl _) (fun a j q => fm_up_a (by omega)) (fun a j q1 q2 => fm_up_a (by omega))⟩
      by_cases e : j = sh
      · rw [e, fm_up_s, fm_up_s]
      · rw [fm_up_b e, fm_up_b e]; exact g2 j hj
    · rw [if_neg z, if_neg z]; exact h
  unfold cm_show rm_show
  refine sS_nm h1 (fun a j q => fm_up_a q) (fun a j q => fm_up_a q) rfl rfl (fun g => ?_)
  obtain ⟨g0, ⟨a1, b1⟩, ⟨a2, b2⟩, ⟨a3, b3⟩, ⟨a4, b4⟩, g5, g6⟩ := g
  refine ⟨by omega, ⟨?_, ?_⟩, ⟨?_, ?_⟩, ⟨?_, ?_⟩, ⟨?_, ?_⟩, ?_, ?_⟩
  · rw [fm_up_b (by decide)]; exact a1
  · rw [fm_up_b (by decide)]; exact b1
  · rw [fm_up_b (by decide)]; exact a2
  · rw [fm_up_b (by decide)]; exact b2
  · rw [fm_up_s]
  · rw [fm_up_s]
  · rw [fm_up_b (by decide)]; exact a4
  · rw [fm_up_b (by decide)]; exact b4
  · rw [fm_up_b (by decide), fm_up_b (by decide)]; exact g5
  · rw [fm_up_b (by decide), fm_up_b (by decide)]; exact g6
theorem sS_glob (h : sS P ap r md sh dn Mc Mr K) {g : Nat} {a b : Int32} (hv : sV md a b) : sS P ap r md sh dn (fm_up Mc 8 g a) (fm_up Mr 20 g b) K := by
  obtain ⟨g1, g2, g3, g4, g5⟩ := h
  refine ⟨sNm_cg g1 (fun j => fm_up_a (by decide)) (fun j => fm_up_a (by decide)), sKp_cg g2 (fun j => fm_up_a (by decide)) (fun j => fm_up_a (by decide)), fun j hj => ?_, sOb_cg g4 (by have := g1.1; omega) (fun a j q => fm_up_a (by omega)) (fun j => fm_up_a (by decide)), sFs_cg g5 g1.1.1 (Nat.le_refl _) (fun a j q => fm_up_a (by omega)) (fun a j q1 q2 => fm_up_a (by omega))⟩
  by_cases e : j = g
  · rw [e, fm_up_s, fm_up_s]; exact hv
  · rw [fm_up_b e, fm_up_b e]; exact g3 j hj
/-- a new object -/
theorem sS_obj (h : sS P ap r md sh dn Mc Mr K) (hd : md < dn) : sS P ap r (md + 1) sh dn (cm_emp (fm_up Mc 4 14 (nI (md + 1))) (md + 1)) (fm_fz (fm_up Mr 0 22 (nI (md + 1))) 19 (5 * (md + 1)) 5 (nI 0)) K := by
  obtain ⟨g1, g2, g3, g4, g5⟩ := h
  obtain ⟨g0, ⟨a1, b1⟩, ⟨a2, b2⟩, ⟨a3, b3⟩, ⟨a4, b4⟩, g6, g7⟩ := g1
  have ec : ∀ a j, a ≠ 4 → ¬ (((a = 5 ∨ a = 6) ∧ (md + 1) * 2 ≤ j ∧ j < (md + 1) * 2 + 2) ∨ (a = 7 ∧ j = md + 1)) → cm_emp (fm_up Mc 4 14 (nI (md + 1))) (md + 1) a j = Mc a j := fun a j q1 q2 => by rw [cm_emp_n q2, fm_up_a q1]
  have er : ∀ a j, a ≠ 0 → ¬ (a = 19 ∧ 5 * (md + 1) ≤ j ∧ j < 5 * (md + 1) + 5) → fm_fz (fm_up Mr 0 22 (nI (md + 1))) 19 (5 * (md + 1)) 5 (nI 0) a j = Mr a j := fun a j q1 q2 => by rw [fm_fz_o q2, fm_up_a q1]
  refine ⟨⟨by omega, ⟨?_, ?_⟩, ⟨?_, ?_⟩, ⟨?_, ?_⟩, ⟨?_, ?_⟩, ?_, ?_⟩, sKp_cg g2 (fun j => ec _ _ (by decide) (by omega)) (fun j => er _ _ (by decide) (by omega)), sGl_cg g3 (by omega) (fun j => ec _ _ (by decide) (by omega)) (fun j => er _ _ (by decide) (by omega)), fun c q1 q2 => ?_, sFs_cg g5 (by omega) (by omega) (fun a j q => ec _ _ (by omega) (by omega)) (fun a j q1 q2 => er _ _ (by omega) (by omega))⟩
  · rw [cm_emp_n (by omega), fm_up_b (by decide)]; exact a1
  · rw [fm_fz_o (by omega), fm_up_b (by decide)]; exact b1
  · rw [cm_emp_n (by omega), fm_up_s]
  · rw [fm_fz_o (by omega), fm_up_s]
  · rw [cm_emp_n (by omega), fm_up_b (by decide)]; exact a3
  · rw [fm_fz_o (by omega), fm_up_b (by decide)]; exact b3
  · rw [cm_emp_n (by omega), fm_up_b (by decide)]; exact a4
  · rw [fm_fz_o (by omega), fm_up_b (by decide)]; exact b4
  · rw [cm_emp_n (by omega), fm_up_b (by decide), fm_fz_o (by omega), fm_up_b (by decide)]; exact g6
  · rw [cm_emp_n (by omega), fm_up_b (by decide), fm_fz_o (by omega), fm_up_b (by decide)]; exact g7
  · by_cases e : c = md + 1
    · subst e
      refine ⟨fun z hz => ?_, fun z hz => ?_, ?_⟩
      · rw [cm_emp_5 hz, fm_fz_i (by omega)]; exact sV_0
      · rw [cm_emp_6 hz, fm_fz_i (by omega)]
      · rw [cm_emp_7, fm_fz_i (by omega)]
    · exact sC_cg (g4 c q1 (by omega)) (by omega) (fun a j q => ec _ _ (by omega) (by omega)) (fun j q1 q2 => er _ _ (by omega) (by omega))
/-- parts, made anew -/
theorem sS_par (h : sS P ap r md sh dn Mc Mr K) (h0 : 0 < r) {x k0 : Nat} (hx : x < 4) {K' : Nat → Nat → Prop} (ha : ∀ q, q < 5 → Mc 9 (r - 1) = nI q → ap q x k0 ∧ ∀ v k, v ≠ x → ap q v k → K q k → K' q k) :
    sS P ap r md sh dn (fm_up (cm_emp Mc (401 + (r - 1) * 4 + x)) 12 ((r - 1) * 4 + x) (nI (401 + (r - 1) * 4 + x))) (rm_newP Mr r x) K' := by
  obtain ⟨g1, g2, g3, g4, g5⟩ := h
  unfold rm_newP
  have ec : ∀ a j, ¬ (((a = 5 ∨ a = 6) ∧ (401 + (r - 1) * 4 + x) * 2 ≤ j ∧ j < (401 + (r - 1) * 4 + x) * 2 + 2) ∨ (a = 7 ∧ j = 401 + (r - 1) * 4 + x)) → ¬ (a = 12 ∧ j = (r - 1) * 4 + x) → fm_up (cm_emp Mc (401 + (r - 1) * 4 + x)) 12 ((r - 1) * 4 + x) (nI (401 + (r - 1) * 4 + x)) a j = Mc a j := fun a j q1 q2 => by rw [fm_up_n q2, cm_emp_n q1]
  have er : ∀ a j, ¬ (a = 18 ∧ 5 * (4 * (r - 1) + x) ≤ j ∧ j < 5 * (4 * (r - 1) + x) + 5) → fm_fz Mr 18 (5 * (4 * (r - 1) + x)) 5 (nI 0) a j = Mr a j := fun a j q => fm_fz_o q
  refine ⟨sNm_cg g1 (fun j => ec _ _ (by omega) (by omega)) (fun j => er _ _ (by omega)), sKp_cg g2 (fun j => ec _ _ (by omega) (by omega)) (fun j => er _ _ (by omega)), sGl_cg g3 (Nat.le_refl _) (fun j => ec _ _ (by omega) (by omega)) (fun j => er _ _ (by omega)), sOb_cg g4 (by have := g1.1; omega) (fun a j q => ec _ _ (by omega) (by omega)) (fun j => er _ _ (by omega)), ?_⟩
  refine sFs_t g5 (Nat.le_refl _) (fun f a j hf q => ec _ _ (by unfold sFc at q; omega) (by unfold sFc at q; omega)) (fun f a j hf q => er _ _ (by unfold sFd at q; omega)) (fun _ hF => ?_)
  refine sF_r hF (fun a j q => ec _ _ (by omega) (by omega)) (fun a j q => er _ _ (by omega)) (fun q u hq e9 hu hR => ?_)
  obtain ⟨ha1, ha2⟩ := ha q hq e9
  by_cases e : u = x
  · subst e
    refine ⟨fun z => absurd ha1 (z k0), fun k z => ⟨?_, Or.inr ⟨fm_up_s, ?_⟩⟩⟩
    · rw [er _ _ (by omega)]
      exact (hR.2 k z).1
    · refine ⟨fun z hz => ?_, fun z hz => ?_, ?_⟩
      · rw [fm_up_a (by decide), cm_emp_5 hz, fm_fz_i (by omega)]; exact sV_0
      · rw [fm_up_a (by decide), cm_emp_6 hz, fm_fz_i (by omega)]
      · rw [fm_up_a (by decide), cm_emp_7, fm_fz_i (by omega)]
  · exact sR_cg2 hR hu (Nat.le_refl _) (fun a j q => ec _ _ (by omega) (by omega)) (fun a j q => er _ _ (by omega)) (fun k z => ha2 u k e z)
/-- what is known of the places of those that aren't made -/
theorem sS_K {K' : Nat → Nat → Prop} (h : sS P ap r md sh dn Mc Mr K) (hk : 0 < r → ∀ q v k, q < 5 → Mc 9 (r - 1) = nI q → ap q v k → K q k → K' q k) : sS P ap r md sh dn Mc Mr K' := by
  obtain ⟨g1, g2, g3, g4, g5⟩ := h
  exact ⟨g1, g2, g3, g4, g5.1, fun z => sF_cg (g5.2 z) (Nat.le_refl _) (fun _ _ _ => rfl) (fun _ _ _ => rfl) (hk z)⟩
end SUP
