/-! THE TWO MACHINES: cells, frames -/
theorem cm_z_at {M : fm_M} {b a j : Nat} : ∀ v, cm_z M b v a j = if (a = 12 ∨ a = 13) ∧ b ≤ j ∧ j < b + v then nI 0 else M a j := by
  intro v
  induction v with
  | zero => rw [if_neg (by omega)]; rfl
  | succ v ih =>
    simp only [cm_z]
    by_cases e : (a = 12 ∨ a = 13) ∧ j = b + v
    · rw [if_pos (by omega)]
      obtain ⟨e1, e2⟩ := e
      subst e2
      rcases e1 with e | e <;> subst e
      · rw [fm_up_a (by decide), fm_up_s]
      · rw [fm_up_s]
    · rw [fm_up_n (by omega), fm_up_n (by omega), ih]
      by_cases z : (a = 12 ∨ a = 13) ∧ b ≤ j ∧ j < b + v
      · rw [if_pos z, if_pos (by omega)]
      · rw [if_neg z, if_neg (by omega)]
theorem rm_z_at {M : fm_M} {b a j : Nat} : ∀ v, rm_z M b v a j = if (a = 16 ∨ a = 17) ∧ b ≤ j ∧ j < b + v then nI 0 else M a j := by
  intro v
  induction v with
  | zero => rw [if_neg (by omega)]; rfl
  | succ v ih =>
    simp only [rm_z]
    by_cases e : (a = 16 ∨ a = 17) ∧ j = b + v
    · rw [if_pos (by omega)]
      obtain ⟨e1, e2⟩ := e
      subst e2
      rcases e1 with e | e <;> subst e
      · rw [fm_up_a (by decide), fm_up_s]
      · rw [fm_up_s]
    · rw [fm_up_n (by omega), fm_up_n (by omega), ih]
      by_cases z : (a = 16 ∨ a = 17) ∧ b ≤ j ∧ j < b + v
      · rw [if_pos z, if_pos (by omega)]
      · rw [if_neg z, if_neg (by omega)]
section CEN
variable {M : fm_M} {r m t a j k0 : Nat} {x y : Int32}
theorem cm_enter_n (h : ¬ (((9 ≤ a ∧ a ≤ 11) ∧ j = r) ∨ (a = 4 ∧ j = 9) ∨ ((a = 12 ∨ a = 13) ∧ r * 4 ≤ j ∧ j < r * 4 + 4))) : cm_enter M r m t x y a j = M a j := by
  unfold cm_enter
  rw [fm_up_n (by omega), fm_up_n (by omega), cm_z_at, if_neg (by omega), fm_up_n (by omega), fm_up_n (by omega), fm_up_n (by omega), fm_up_n (by omega)]
theorem cm_enter_9 : cm_enter M r m t x y 9 r = nI m := by
  unfold cm_enter
  rw [fm_up_a (by decide), fm_up_a (by decide), cm_z_at, if_neg (by omega), fm_up_a (by decide), fm_up_a (by decide), fm_up_a (by decide), fm_up_s]
theorem cm_enter_10 : cm_enter M r m t x y 10 r = nI 0 := by
  unfold cm_enter
  rw [fm_up_a (by decide), fm_up_a (by decide), cm_z_at, if_neg (by omega), fm_up_a (by decide), fm_up_a (by decide), fm_up_s]
theorem cm_enter_11 : cm_enter M r m t x y 11 r = nI t := by
  unfold cm_enter
  rw [fm_up_a (by decide), fm_up_a (by decide), cm_z_at, if_neg (by omega), fm_up_a (by decide), fm_up_s]
theorem cm_enter_4 : cm_enter M r m t x y 4 9 = nI (r + 1) := by
  unfold cm_enter
  rw [fm_up_a (by decide), fm_up_a (by decide), cm_z_at, if_neg (by omega), fm_up_s]
theorem cm_enter_13 {v : Nat} (h : v < 4) : cm_enter M r m t x y 13 (r * 4 + v) = nI 0 := by
  unfold cm_enter
  rw [fm_up_a (by decide), fm_up_a (by decide), cm_z_at, if_pos (by omega)]
theorem cm_enter_12 {v : Nat} (h : v < 4) : cm_enter M r m t x y 12 (r * 4 + v) = if v = 0 then x else if v = 1 then y else nI 0 := by
  unfold cm_enter
  by_cases e1 : v = 1
  · subst e1; rw [fm_up_s]; rfl
  · rw [fm_up_b (by omega)]
    by_cases e0 : v = 0
    · subst e0; exact (fm_up_s : fm_up _ 12 (r * 4) x 12 (r * 4) = x)
    · rw [fm_up_b (by omega), cm_z_at, if_pos (by omega), if_neg e0, if_neg e1]
theorem rm_enter_n (h : ¬ (((13 ≤ a ∧ a ≤ 15) ∧ j = r) ∨ (a = 0 ∧ j = 14) ∨ ((a = 16 ∨ a = 17) ∧ 4 * r ≤ j ∧ j < 4 * r + 4) ∨ (a = 18 ∧ 20 * r ≤ j ∧ j < 20 * r + 20))) : rm_enter M k0 r m t x y a j = M a j := by
  unfold rm_enter
  rw [fm_up_n (by omega), fm_fz_o (by omega), fm_up_n (by omega), fm_up_n (by omega), rm_z_at, if_neg (by omega), fm_up_n (by omega), fm_up_n (by omega), fm_up_n (by omega)]
theorem rm_enter_13 : rm_enter M k0 r m t x y 13 r = nI m := by
  unfold rm_enter
  rw [fm_up_a (by decide), fm_fz_o (by omega), fm_up_a (by decide), fm_up_a (by decide), rm_z_at, if_neg (by omega), fm_up_a (by decide), fm_up_a (by decide), fm_up_s]
theorem rm_enter_14 : rm_enter M k0 r m t x y 14 r = nI 0 := by
  unfold rm_enter
  rw [fm_up_a (by decide), fm_fz_o (by omega), fm_up_a (by decide), fm_up_a (by decide), rm_z_at, if_neg (by omega), fm_up_a (by decide), fm_up_s]
theorem rm_enter_15 : rm_enter M k0 r m t x y 15 r = nI t := by
  unfold rm_enter
  rw [fm_up_a (by decide), fm_fz_o (by omega), fm_up_a (by decide), fm_up_a (by decide), rm_z_at, if_neg (by omega), fm_up_s]
theorem rm_enter_0 : rm_enter M k0 r m t x y 0 14 = nI (r + 1) := by
  unfold rm_enter
  rw [fm_up_s]
theorem rm_enter_17 {v : Nat} (h : v < 4) : rm_enter M k0 r m t x y 17 (4 * r + v) = nI 0 := by
  unfold rm_enter
  rw [fm_up_a (by decide), fm_fz_o (by omega), fm_up_a (by decide), fm_up_a (by decide), rm_z_at, if_pos (by omega)]
theorem rm_enter_16 {v : Nat} (h : v < 4) : rm_enter M k0 r m t x y 16 (4 * r + v) = if v = 0 then (if 0 < k0 then x else nI 0) else if v = 1 then (if 1 < k0 then y else nI 0) else nI 0 := by
  unfold rm_enter
  rw [fm_up_a (by decide), fm_fz_o (by omega)]
  by_cases e1 : v = 1
  · subst e1; rw [fm_up_s]; rfl
  · rw [fm_up_b (by omega)]
    by_cases e0 : v = 0
    · subst e0; rw [Nat.add_zero, fm_up_s]; rfl
    · rw [fm_up_b (by omega), rm_z_at, if_pos (by omega), if_neg e0, if_neg e1]
end CEN
theorem sV_z {md : Nat} (h4 : md ≤ 400) {x : Int32} (h : sV md x (nI 0)) : x = nI 0 := by
  obtain ⟨c, h1, h2, h3⟩ := h
  rw [(nI_eq (by omega) (by omega)).mp h3]
  exact h2
/-- an object or parts -/
def sCell (ap : sAp) (r md : Nat) (Mc : fm_M) (c a b : Nat) : Prop := (a = 19 ∧ b = 5 * c ∧ 0 < c ∧ c ≤ md) ∨ (∃ v q k, v < 4 ∧ q < 5 ∧ Mc 9 (r - 1) = nI q ∧ ap q v k ∧ a = 18 ∧ b = 5 * (4 * (r - 1) + v) ∧ c = 401 + (r - 1) * 4 + v ∧ Mc 12 ((r - 1) * 4 + v) = nI c)
section SCL
variable {P : pr_T} {ap : sAp} {r md sh dn : Nat} {Mc Mr : fm_M} {K : Nat → Nat → Prop} {c a b : Nat}
theorem sCell_get (h : sS P ap r md sh dn Mc Mr K) (h0 : 0 < r) (hc : sCell ap r md Mc c a b) : sC md Mc Mr c a b := by
  rcases hc with ⟨rfl, rfl, h1, h2⟩ | ⟨v, q, k, hv, hq, e9, ha, rfl, rfl, rfl, e12⟩
  · exact h.2.2.2.1 c h1 h2
  · have hr := h.1.1.1
    obtain ⟨q', t, g1, g2, g3, g4, g5, g6, g7, g8, g9, g10⟩ := h.2.2.2.2.2 h0
    have eq : q' = q := (nI_eq (by omega) (by omega)).mp (g3.symm.trans e9)
    subst eq
    rcases ((g9 v hv).2 k ha).2 with ⟨z, _⟩ | ⟨_, z⟩
    · rw [e12, nI_eq (by omega) (by omega)] at z
      omega
    · exact z
theorem sS_cell (h : sS P ap r md sh dn Mc Mr K) (h0 : 0 < r) (hc : sCell ap r md Mc c a b) {Mc' Mr' : fm_M} (h1 : ∀ e j, ¬ (((e = 5 ∨ e = 6) ∧ c * 2 ≤ j ∧ j < c * 2 + 2) ∨ (e = 7 ∧ j = c)) → Mc' e j = Mc e j) (h2 : ∀ e j, ¬ (e = a ∧ b ≤ j ∧ j < b + 5) → Mr' e j = Mr e j) (hC : sC md Mc' Mr' c a b) : sS P ap r md sh dn Mc' Mr' K := by
  obtain ⟨g1, g2, g3, g4, g5⟩ := h
  have g8 := g1.1
  rcases hc with ⟨rfl, rfl, c1, c2⟩ | ⟨v, q, k, hv, hq, e9, ha, rfl, rfl, rfl, e12⟩
  · refine ⟨sNm_cg g1 (fun j => h1 _ _ (by omega)) (fun j => h2 _ _ (by omega)), sKp_cg g2 (fun j => h1 _ _ (by omega)) (fun j => h2 _ _ (by omega)), sGl_cg g3 (Nat.le_refl _) (fun j => h1 _ _ (by omega)) (fun j => h2 _ _ (by omega)), fun c' q1 q2 => ?_, sFs_cg g5 g1.1.1 (Nat.le_refl _) (fun a j q => h1 _ _ (by omega)) (fun a j q1 q2 => h2 _ _ (by omega))⟩
    by_cases e : c' = c
    · subst e; exact hC
    · exact sC_cg (g4 c' q1 q2) (Nat.le_refl _) (fun a j q => h1 _ _ (by omega)) (fun j q1 q2 => h2 _ _ (by omega))
  · refine ⟨sNm_cg g1 (fun j => h1 _ _ (by omega)) (fun j => h2 _ _ (by omega)), sKp_cg g2 (fun j => h1 _ _ (by omega)) (fun j => h2 _ _ (by omega)), sGl_cg g3 (Nat.le_refl _) (fun j => h1 _ _ (by omega)) (fun j => h2 _ _ (by omega)), sOb_cg g4 (by omega) (fun a j q => h1 _ _ (by omega)) (fun j => h2 _ _ (by omega)), ?_⟩
    refine sFs_t g5 (Nat.le_refl _) (fun f a j hf q => h1 _ _ (by unfold sFc at q; omega)) (fun f a j hf q => h2 _ _ (by unfold sFd at q; omega)) (fun _ hF => ?_)
    refine sF_r hF (fun a j q => h1 _ _ (by omega)) (fun a j q => h2 _ _ (by omega)) (fun q' u hq' e9' hu hR => ?_)
    have eq : q' = q := (nI_eq (by omega) (by omega)).mp (e9'.symm.trans e9)
    subst eq
    by_cases e : u = v
    · subst e
      refine ⟨fun z => absurd ha (z k), fun k' z => ⟨?_, Or.inr ⟨?_, hC⟩⟩⟩
      · rw [h2 _ _ (by omega)]; exact (hR.2 k' z).1
      · rw [h1 _ _ (by omega)]; exact e12
    · exact sR_cg2 hR hu (Nat.le_refl _) (fun a j q => h1 _ _ (by omega)) (fun a j q => h2 _ _ (by omega)) (fun _ _ z => z)
theorem sCell_b (hc : sCell ap r md Mc c a b) : a ≠ 16 ∧ a ≠ 17 ∧ a ≠ 0 ∧ c ≠ 0 := by
  rcases hc with ⟨rfl, rfl, c1, c2⟩ | ⟨v, q, k, hv, hq, e9, ha, rfl, rfl, rfl, e12⟩ <;> omega
theorem sS_setr (h : sS P ap r md sh dn Mc Mr K) (h0 : 0 < r) (hc : sCell ap r md Mc c a b) {z : Nat} (hz : z < 2) {u w : Int32} (hv : sV md u w) : sS P ap r md sh dn (fm_up Mc 5 (c * 2 + z) u) (fm_up Mr a (b + z) w) K := by
  have g := sCell_get h h0 hc
  refine sS_cell h h0 hc (fun e j q => fm_up_n (by omega)) (fun e j q => fm_up_n (by omega)) ⟨fun y hy => ?_, fun y hy => ?_, ?_⟩
  · by_cases e : y = z
    · subst e; rw [fm_up_s, fm_up_s]; exact hv
    · rw [fm_up_n (by omega), fm_up_n (by omega)]; exact g.1 y hy
  · rw [fm_up_n (by omega), fm_up_n (by omega)]; exact g.2.1 y hy
  · rw [fm_up_n (by omega), fm_up_n (by omega)]; exact g.2.2
theorem sS_seti (h : sS P ap r md sh dn Mc Mr K) (h0 : 0 < r) (hc : sCell ap r md Mc c a b) {z : Nat} (hz : z < 2) (u : Int32) : sS P ap r md sh dn (fm_up Mc 6 (c * 2 + z) u) (fm_up Mr a (b + z + 2) u) K := by
  have g := sCell_get h h0 hc
  refine sS_cell h h0 hc (fun e j q => fm_up_n (by omega)) (fun e j q => fm_up_n (by omega)) ⟨fun y hy => ?_, fun y hy => ?_, ?_⟩
  · rw [fm_up_n (by omega), fm_up_n (by omega)]; exact g.1 y hy
  · by_cases e : y = z
    · subst e; rw [fm_up_s, fm_up_s]
    · rw [fm_up_n (by omega), fm_up_n (by omega)]; exact g.2.1 y hy
  · rw [fm_up_n (by omega), fm_up_n (by omega)]; exact g.2.2
theorem sS_setn (h : sS P ap r md sh dn Mc Mr K) (h0 : 0 < r) (hc : sCell ap r md Mc c a b) (u : Int32) : sS P ap r md sh dn (fm_up Mc 7 c u) (fm_up Mr a (b + 4) u) K := by
  have g := sCell_get h h0 hc
  refine sS_cell h h0 hc (fun e j q => fm_up_n (by omega)) (fun e j q => fm_up_n (by omega)) ⟨fun y hy => ?_, fun y hy => ?_, ?_⟩
  · rw [fm_up_n (by omega), fm_up_n (by omega)]; exact g.1 y hy
  · rw [fm_up_n (by omega), fm_up_n (by omega)]; exact g.2.1 y hy
  · rw [fm_up_s, fm_up_s]
end SCL
section SEN
variable {P : pr_T} {ap : sAp} {r md sh dn : Nat} {Mc Mr : fm_M} {K : Nat → Nat → Prop}
theorem sS_enter (hw : pr_wf P) (h : sS P ap r md sh dn Mc Mr (sPl P Mc (r - 1))) (h8 : r < 8) {m t : Nat} (hm : m < 5) (ht : t < 4) (hap : 0 < r → ∀ q, q < 5 → Mc 9 (r - 1) = nI q → ∀ k, ¬ ap q t k) {x y X Y : Int32} (hx : sV md x (if 0 < P.2.1 m then X else nI 0)) (hy : sV md y (if 1 < P.2.1 m then Y else nI 0)) (hp : ∀ v k, ap m v k → P.2.1 m ≤ v) :
    sS P ap (r + 1) md sh dn (cm_enter Mc r m t x y) (rm_enter Mr (P.2.1 m) r m t X Y) (sPl P (cm_enter Mc r m t x y) (r + 1 - 1)) := by
  obtain ⟨g1, g2, g3, g4, g5⟩ := h
  have wm := (hw m hm).1
  obtain ⟨g0, ⟨a1, b1⟩, ⟨a2, b2⟩, ⟨a3, b3⟩, ⟨a4, b4⟩, g6, g7⟩ := g1
  rw [Nat.add_sub_cancel]
  refine ⟨⟨by omega, ⟨cm_enter_4, rm_enter_0⟩, ⟨?_, ?_⟩, ⟨?_, ?_⟩, ⟨?_, ?_⟩, ?_, ?_⟩, sKp_cg g2 (fun j => cm_enter_n (by omega)) (fun j => rm_enter_n (by omega)), sGl_cg g3 (Nat.le_refl _) (fun j => cm_enter_n (by omega)) (fun j => rm_enter_n (by omega)), sOb_cg g4 (by omega) (fun a j q => cm_enter_n (by omega)) (fun j => rm_enter_n (by omega)), fun f hf => ?_, fun _ => ?_⟩
  · rw [cm_enter_n (by omega)]; exact a2
  · rw [rm_enter_n (by omega)]; exact b2
  · rw [cm_enter_n (by omega)]; exact a3
  · rw [rm_enter_n (by omega)]; exact b3
  · rw [cm_enter_n (by omega)]; exact a4
  · rw [rm_enter_n (by omega)]; exact b4
  · rw [cm_enter_n (by omega), rm_enter_n (by omega)]; exact g6
  · rw [cm_enter_n (by omega), rm_enter_n (by omega)]; exact g7
  · have hF : sF ap md Mc Mr f (sPl P Mc f) := by
      by_cases e : f + 1 = r
      · have := g5.2 (by omega)
        rw [show r - 1 = f by omega] at this
        exact this
      · exact g5.1 f (by omega)
    exact sF_cg hF (Nat.le_refl _) (fun a j q => cm_enter_n (by unfold sFc at q; omega)) (fun a j q => rm_enter_n (by unfold sFd at q; omega)) (fun q v k _ _ _ z => sPl_cg z (cm_enter_n (by omega)))
  · rw [Nat.add_sub_cancel]
    refine ⟨m, t, hm, ht, cm_enter_9, rm_enter_13, cm_enter_10.trans rm_enter_14.symm, cm_enter_11, rm_enter_15, fun v hv => (cm_enter_13 hv).trans (rm_enter_17 hv).symm, fun v hv => ⟨fun _ => ?_, fun k ha => ?_⟩, fun hr q hq e9 k z => ?_⟩
    · rw [cm_enter_12 hv, rm_enter_16 hv]
      by_cases e0 : v = 0
      · rw [if_pos e0, if_pos e0]; exact hx
      · rw [if_neg e0, if_neg e0]
        by_cases e1 : v = 1
        · rw [if_pos e1, if_pos e1]; exact hy
        · rw [if_neg e1, if_neg e1]; exact sV_0
    · have hpv := hp v k ha
      rw [cm_enter_12 hv, rm_enter_16 hv]
      have e0 : (if v = 0 then (if 0 < P.2.1 m then X else nI 0) else if v = 1 then (if 1 < P.2.1 m then Y else nI 0) else nI 0) = nI 0 := by
        by_cases e0 : v = 0
        · rw [if_pos e0, if_neg (by omega)]
        · rw [if_neg e0]
          by_cases e1 : v = 1
          · rw [if_pos e1, if_neg (by omega)]
          · rw [if_neg e1]
      have e2 : (if v = 0 then x else if v = 1 then y else nI 0) = nI 0 := by
        by_cases e0 : v = 0
        · rw [if_pos e0]
          rw [if_neg (by omega)] at hx
          exact sV_z (by omega) hx
        · rw [if_neg e0]
          by_cases e1 : v = 1
          · rw [if_pos e1]
            rw [if_neg (by omega)] at hy
            exact sV_z (by omega) hy
          · rw [if_neg e1]
      refine ⟨e0, Or.inl ⟨e2, fun i ei hi => ?_⟩⟩
      rw [cm_enter_10, nI_eq (by omega) (by omega)] at ei
      subst ei
      by_cases z : (0 : Nat) = k
      · exact Or.inl z
      · exact Or.inr (dm_R_0 (by omega) z)
    · rw [cm_enter_n (by omega)] at e9
      exact hap hr q hq e9 k z
theorem sS_drop (h : sS P ap r md sh dn Mc Mr K) (h0 : 0 < r) : sS P ap (r - 1) md sh dn (fm_up Mc 4 9 (nI (r - 1))) (fm_up Mr 0 14 (nI (r - 1))) (sPl P (fm_up Mc 4 9 (nI (r - 1))) (r - 1 - 1)) := by
  obtain ⟨g1, g2, g3, g4, g5⟩ := h
  obtain ⟨g0, ⟨a1, b1⟩, ⟨a2, b2⟩, ⟨a3, b3⟩, ⟨a4, b4⟩, g6, g7⟩ := g1
  have hF : ∀ f, f + 1 < r → sF ap md (fm_up Mc 4 9 (nI (r - 1))) (fm_up Mr 0 14 (nI (r - 1))) f (sPl P (fm_up Mc 4 9 (nI (r - 1))) f) := fun f hf => sF_cg (g5.1 f hf) (Nat.le_refl _) (fun a j q => fm_up_a (by unfold sFc at q; omega)) (fun a j q => fm_up_a (by unfold sFd at q; omega)) (fun q v k _ _ _ z => sPl_cg z (fm_up_a (by decide)))
  refine ⟨⟨by omega, ⟨fm_up_s, fm_up_s⟩, ⟨?_, ?_⟩, ⟨?_, ?_⟩, ⟨?_, ?_⟩, ?_, ?_⟩, sKp_cg g2 (fun j => fm_up_a (by decide)) (fun j => fm_up_a (by decide)), sGl_cg g3 (Nat.le_refl _) (fun j => fm_up_a (by decide)) (fun j => fm_up_a (by decide)), sOb_cg g4 (by omega) (fun a j q => fm_up_a (by omega)) (fun j => fm_up_a (by decide)), fun f hf => hF f (by omega), fun z => hF _ (by omega)⟩
  · rw [fm_up_b (by decide)]; exact a2
  · rw [fm_up_b (by decide)]; exact b2
  · rw [fm_up_b (by decide)]; exact a3
  · rw [fm_up_b (by decide)]; exact b3
  · rw [fm_up_b (by decide)]; exact a4
  · rw [fm_up_b (by decide)]; exact b4
  · rw [fm_up_b (by decide), fm_up_b (by decide)]; exact g6
  · rw [fm_up_b (by decide), fm_up_b (by decide)]; exact g7
theorem sS_leave (h : sS P ap r md sh dn Mc Mr K) (h0 : 0 < r) {t : Nat} (ht : t < 4) (et : Mc 11 (r - 1) = nI t) {u w : Int32} (hv : sV md u w) : sS P ap (r - 1) md sh dn (cm_leave Mc r t u) (rm_leave Mr r t w) (sPl P (cm_leave Mc r t u) (r - 1 - 1)) := by
  have d := sS_drop h h0
  unfold cm_leave rm_leave
  by_cases e : r = 1
  · rw [if_pos e, if_pos e]
    exact d
  · rw [if_neg e, if_neg e]
    have z := sS_ref d (by omega) ht hv (fun q hq e9 k => by
      obtain ⟨q', t', f1, f2, f3, f4, f5, f6, f7, f8, f9, f10⟩ := h.2.2.2.2.2 h0
      have : t' = t := (nI_eq (by omega) (by omega)).mp (f6.symm.trans et)
      subst this
      rw [fm_up_a (by decide)] at e9
      exact f10 (by omega) q hq e9 k)
    exact sS_K z (fun _ q v k _ _ _ y => sPl_cg y (fm_up_a (by decide)))
theorem sS_begin (hw : pr_wf P) (hk : sKp Mc Mr) (hp : ∀ v k, ap 0 v k → P.2.1 0 ≤ v) : sS P ap 1 0 0 0 (cm_begin Mc) (rm_begin P Mr) (sPl P (cm_begin Mc) (1 - 1)) := by
  have h : sS P ap 0 0 0 0 (fm_up (fm_up (fm_up (fm_up (fm_up (fm_up (fm_fill Mc 8 4 (nI 0)) 4 11 (nI 0)) 4 12 (nI 0)) 4 13 (nI 0)) 4 14 (nI 0)) 4 15 (nI 0)) 4 9 (nI 0)) (rm_zero Mr) (sPl P (fm_up (fm_up (fm_up (fm_up (fm_up (fm_up (fm_fill Mc 8 4 (nI 0)) 4 11 (nI 0)) 4 12 (nI 0)) 4 13 (nI 0)) 4 14 (nI 0)) 4 15 (nI 0)) 4 9 (nI 0)) (0 - 1)) := by
    unfold rm_zero
    refine ⟨⟨by omega, ⟨?_, ?_⟩, ⟨?_, ?_⟩, ⟨?_, ?_⟩, ⟨?_, ?_⟩, ?_, ?_⟩, fun j hj => ?_, fun g hg => ?_, fun c h1 h2 => absurd h1 (by omega), fun f hf => absurd hf (by omega), fun z => absurd z (by omega)⟩
    · rw [fm_up_s]
    · rw [fm_fz_o (by omega)]; simp [fm_up]
    · simp [fm_up]
    · rw [fm_fz_o (by omega)]; simp [fm_up]
    · simp [fm_up]
    · rw [fm_fz_o (by omega)]; simp [fm_up]
    · simp [fm_up]
    · rw [fm_fz_o (by omega)]; simp [fm_up]
    · rw [fm_fz_o (by omega)]; simp [fm_up]
    · rw [fm_fz_o (by omega)]; simp [fm_up]
    · rw [fm_up_a (by decide), fm_up_a (by decide), fm_up_a (by decide), fm_up_a (by decide), fm_up_a (by decide), fm_up_a (by decide), fm_fill_o (by decide), fm_fz_o (by omega), fm_up_a (by decide), fm_up_a (by decide), fm_up_a (by decide), fm_up_a (by decide), fm_up_a (by decide), fm_up_a (by decide)]
      exact hk j hj
    · rw [fm_up_a (by decide), fm_up_a (by decide), fm_up_a (by decide), fm_up_a (by decide), fm_up_a (by decide), fm_up_a (by decide), fm_fill_i hg, fm_fz_i (by omega)]
      exact sV_0
  exact sS_enter hw h (by omega) (m := 0) (t := 0) (by omega) (by omega) (fun z => absurd z (by omega)) (by split <;> exact sV_0) (by split <;> exact sV_0) hp
end SEN
