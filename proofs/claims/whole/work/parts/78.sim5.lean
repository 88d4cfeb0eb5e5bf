/-! THE TWO MACHINES: turn after turn -/
section STU
variable {P : pr_T} {ap : sAp} {Fc : Nat → Nat → Int32} {Fr : Nat → Nat → Nat}
theorem sTurn (H : sH P ap Fc Fr) {r md sh dn : Nat} {Mc Mr : fm_M} (h : sS P ap r md sh dn Mc Mr (sPl P Mc (r - 1))) (h0 : 0 < r) :
    ∃ r' md' sh' dn', sS P ap r' md' sh' dn' (cm_turn P Fc Mc) (rm_turn P Fr Mr) (sPl P (cm_turn P Fc Mc) (r' - 1)) ∧ ((dn' = dn + 1 ∧ r' ≤ r + 1) ∨ (dn' = dn ∧ r' = r - 1) ∨ (dn' = dn ∧ r' = r ∧ cm_turn P Fc Mc 4 11 ≠ 0)) := by
  have hn := h.1.1
  obtain ⟨q, t, g1, g2, g3, g4, g5, g6, g7, g8, g9, g10⟩ := h.2.2.2.2.2 h0
  obtain ⟨-, ⟨a1, b1⟩, ⟨a2, b2⟩, ⟨a3, b3⟩, ⟨a4, b4⟩, -, -⟩ := h.1
  have wq := (H.1 q g1).1
  rw [cm_turn_at a1 (by omega) g3 g1, rm_turn_at b1 (by omega) g4 g1]
  unfold cm_tr rm_tr
  rw [← g5]
  by_cases hp : 0 ≤ Mc 10 (r - 1) ∧ Mc 10 (r - 1) < nI (P.1 q)
  · rw [if_pos hp, if_pos hp]
    obtain ⟨i, hi, ei⟩ := cm_ix wq hp
    rw [ei, a4, b4, cm_n_nI (by omega), cm_n_nI (by omega)]
    by_cases hd : dn < 400
    · rw [if_pos hd, if_neg (by omega)]
      unfold cm_do rm_dor
      rw [a4, b4, a2, b2, a3, b3, g6, g7, cm_n_nI (by omega), cm_n_nI (by omega), cm_n_nI (by omega), cm_n_nI (by omega)]
      have h1 : sS P ap r md sh (dn + 1) (fm_up (fm_up Mc 4 13 (nI (dn + 1))) 10 (r - 1) (nI (i + 1))) (fm_up (fm_up Mr 0 26 (nI (dn + 1))) 14 (r - 1) (nI (i + 1))) (sK0 P i) := by
        refine sS_pl (sS_done (sS_K h (fun _ q' v k hq' e9 a z => ?_)) hd) h0 _
        have : q' = q := (nI_eq (by omega) (by omega)).mp (e9.symm.trans g3)
        subst this
        exact z i ei hi
      have X : sIx P ap Fc Fr r md sh (dn + 1) (fm_up (fm_up Mc 4 13 (nI (dn + 1))) 10 (r - 1) (nI (i + 1))) (fm_up (fm_up Mr 0 26 (nI (dn + 1))) 14 (r - 1) (nI (i + 1))) q i t :=
        ⟨H, h1, h0, g1, by rw [fm_up_a (by decide), fm_up_a (by decide)]; exact g3, hi, fm_up_s, by omega, by omega, g2, by rw [fm_up_a (by decide), fm_up_a (by decide)]; exact g6⟩
      have ec : (if (P.2.2 q i).1 = 3 ∨ (P.2.2 q i).1 = 5 then cm_n (Mc 12 ((r - 1) * 4 + (P.2.2 q i).2.2.1)) else cm_n (Mc 12 ((r - 1) * 4 + (P.2.2 q i).2.1))) = cm_n (fm_up (fm_up Mc 4 13 (nI (dn + 1))) 10 (r - 1) (nI (i + 1)) 12 ((r - 1) * 4 + rm_RR (P.2.2 q i))) := by
        rw [fm_up_a (by decide), fm_up_a (by decide)]
        unfold rm_RR
        split <;> rfl
      have eo : cm_n (Mr 16 (4 * (r - 1) + rm_RR (P.2.2 q i))) = cm_n (fm_up (fm_up Mr 0 26 (nI (dn + 1))) 14 (r - 1) (nI (i + 1)) 16 (4 * (r - 1) + rm_RR (P.2.2 q i))) := by
        rw [fm_up_a (by decide), fm_up_a (by decide)]
      obtain ⟨r', md', sh', q1, q2⟩ := sInstr X ec eo
      exact ⟨r', md', sh', dn + 1, q2, Or.inl ⟨rfl, q1⟩⟩
    · rw [if_neg hd, if_pos (by omega)]
      refine ⟨r, md, sh, dn, sS_K (sS_fail h _) (fun _ q' v k _ _ _ z => sPl_cg z (fm_up_a (by decide))), Or.inr (Or.inr ⟨rfl, rfl, ?_⟩)⟩
      rw [fm_up_s]
      decide
  · rw [if_neg hp, if_neg hp, g6, g7, cm_n_nI (by omega)]
    exact ⟨r - 1, md, sh, dn, sS_leave h h0 g2 g6 sV_0, Or.inr (Or.inl ⟨rfl, rfl⟩)⟩
theorem sIt (H : sH P ap Fc Fr) {Mc Mr : fm_M} (hk : sKp Mc Mr) : ∀ t, (∀ u, u < t → cm_live (cm_it P Fc u (cm_begin Mc))) →
    ∃ r md sh dn, sS P ap r md sh dn (cm_it P Fc t (cm_begin Mc)) (rm_it P Fr t (rm_begin P Mr)) (sPl P (cm_it P Fc t (cm_begin Mc)) (r - 1)) ∧ t + r ≤ 2 * dn + 1 + (if cm_it P Fc t (cm_begin Mc) 4 11 = 0 then 0 else 1) := by
  intro t
  induction t with
  | zero =>
    intro _
    exact ⟨1, 0, 0, 0, sS_begin H.1 hk (fun v k a => (H.2.1 0 v k a).1), by omega⟩
  | succ t ih =>
    intro hl
    obtain ⟨r, md, sh, dn, g1, g2⟩ := ih (fun u hu => hl u (by omega))
    obtain ⟨l1, l2⟩ := hl t (by omega)
    rw [if_pos l2] at g2
    have hn := g1.1.1
    have h0 : 0 < r := by
      rw [g1.1.2.1.1, ← nI_0, nI_ltI (by omega) (by omega)] at l1
      exact l1
    obtain ⟨r', md', sh', dn', q1, q2⟩ := sTurn H g1 h0
    refine ⟨r', md', sh', dn', q1, ?_⟩
    show t + 1 + r' ≤ 2 * dn' + 1 + (if cm_turn P Fc (cm_it P Fc t (cm_begin Mc)) 4 11 = 0 then 0 else 1)
    rcases q2 with q2 | q2 | q2
    · omega
    · omega
    · rw [if_neg q2.2.2]
      omega
theorem sLive {r md sh dn : Nat} {Mc Mr : fm_M} {K : Nat → Nat → Prop} (h : sS P ap r md sh dn Mc Mr K) : cm_live Mc ↔ rm_live Mr := by
  unfold cm_live rm_live
  rw [h.1.2.1.1, h.1.2.1.2, h.1.2.2.2.2.2.1]
theorem sLv (H : sH P ap Fc Fr) {Mc Mr : fm_M} (hk : sKp Mc Mr) : ∀ t, (∀ u, u < t → rm_live (rm_it P Fr u (rm_begin P Mr))) → ∀ u, u < t → cm_live (cm_it P Fc u (cm_begin Mc)) := by
  intro t
  induction t with
  | zero => intro _ u hu; exact absurd hu (by omega)
  | succ t ih =>
    intro hl u hu
    have h1 := ih (fun u hu => hl u (by omega))
    by_cases e : u = t
    · subst e
      obtain ⟨r, md, sh, dn, g1, g2⟩ := sIt H hk u h1
      exact (sLive g1).mpr (hl u (by omega))
    · exact h1 u (by omega)
theorem sLv' (H : sH P ap Fc Fr) {Mc Mr : fm_M} (hk : sKp Mc Mr) (t : Nat) (h : ∀ u, u < t → cm_live (cm_it P Fc u (cm_begin Mc))) : ∀ u, u < t → rm_live (rm_it P Fr u (rm_begin P Mr)) := by
  intro u hu
  obtain ⟨r, md, sh, dn, g1, g2⟩ := sIt H hk u (fun w hw => h w (by omega))
  exact (sLive g1).mp (h u hu)
theorem sBnd (H : sH P ap Fc Fr) {Mc Mr : fm_M} (hk : sKp Mc Mr) (t : Nat) (h : ∀ u, u < t → cm_live (cm_it P Fc u (cm_begin Mc))) : t < 802 := by
  cases t with
  | zero => omega
  | succ s =>
    obtain ⟨r, md, sh, dn, g1, g2⟩ := sIt H hk s (fun w hw => h w (by omega))
    obtain ⟨l1, l2⟩ := h s (by omega)
    rw [if_pos l2] at g2
    have hn := g1.1.1
    have h0 : 0 < r := by
      rw [g1.1.2.1.1, ← nI_0, nI_ltI (by omega) (by omega)] at l1
      exact l1
    omega
theorem sS_cV {r md sh dn : Nat} {Mc Mr : fm_M} {K : Nat → Nat → Prop} (h : sS P ap r md sh dn Mc Mr K) : cV Mc := by
  have hn := h.1.1
  obtain ⟨-, ⟨a1, b1⟩, ⟨a2, b2⟩, ⟨a3, b3⟩, ⟨a4, b4⟩, -, -⟩ := h.1
  refine ⟨r, md, sh, dn, a1, by omega, a4, by omega, a2, by omega, a3, by omega, fun h0 => ?_⟩
  obtain ⟨q, t, g1, g2, g3, g4, g5, g6, g7, g8, g9, g10⟩ := h.2.2.2.2.2 h0
  refine ⟨⟨q, g1, g3⟩, ⟨t, g2, g6⟩, fun v => cm_n (Mc 12 ((r - 1) * 4 + v)), fun v hv => ?_⟩
  have : ∃ c, c < 433 ∧ Mc 12 ((r - 1) * 4 + v) = nI c := by
    by_cases a : ∃ k, ap q v k
    · obtain ⟨k, a⟩ := a
      rcases ((g9 v hv).2 k a).2 with ⟨z, _⟩ | ⟨z, _⟩
      · exact ⟨0, by omega, z⟩
      · exact ⟨_, by omega, z⟩
    · obtain ⟨c, c1, c2, c3⟩ := (g9 v hv).1 (fun k z => a ⟨k, z⟩)
      exact ⟨c, by omega, c2⟩
  obtain ⟨c, c1, c2⟩ := this
  show Mc 12 ((r - 1) * 4 + v) = nI (cm_n (Mc 12 ((r - 1) * 4 + v))) ∧ cm_n (Mc 12 ((r - 1) * 4 + v)) < 433
  rw [c2, cm_n_nI (by omega)]
  exact ⟨rfl, c1⟩
theorem sS_rV {r md sh dn : Nat} {Mc Mr : fm_M} {K : Nat → Nat → Prop} (h : sS P ap r md sh dn Mc Mr K) : rV Mr := by
  have hn := h.1.1
  obtain ⟨-, ⟨a1, b1⟩, ⟨a2, b2⟩, ⟨a3, b3⟩, ⟨a4, b4⟩, -, -⟩ := h.1
  refine ⟨r, md, sh, dn, b1, by omega, b4, by omega, b2, by omega, b3, by omega, fun h0 => ?_⟩
  obtain ⟨q, t, g1, g2, g3, g4, g5, g6, g7, g8, g9, g10⟩ := h.2.2.2.2.2 h0
  refine ⟨⟨q, g1, g4⟩, ⟨t, g2, g7⟩, fun v => cm_n (Mr 16 (4 * (r - 1) + v)), fun v hv => ?_⟩
  have : ∃ c, c ≤ 400 ∧ Mr 16 (4 * (r - 1) + v) = nI c := by
    by_cases a : ∃ k, ap q v k
    · obtain ⟨k, a⟩ := a
      exact ⟨0, by omega, ((g9 v hv).2 k a).1⟩
    · obtain ⟨c, c1, c2, c3⟩ := (g9 v hv).1 (fun k z => a ⟨k, z⟩)
      exact ⟨c, by omega, c3⟩
  obtain ⟨c, c1, c2⟩ := this
  show Mr 16 (4 * (r - 1) + v) = nI (cm_n (Mr 16 (4 * (r - 1) + v))) ∧ cm_n (Mr 16 (4 * (r - 1) + v)) ≤ 400
  rw [c2, cm_n_nI (by omega)]
  exact ⟨rfl, c1⟩
/-- a run of both: they end at the same turn, and stand at the same -/
theorem sRun (H : sH P ap Fc Fr) {Mc Mr : fm_M} (hk : sKp Mc Mr) {T U : Nat} (h1 : ∀ u, u < T → cm_live (cm_it P Fc u (cm_begin Mc))) (h2 : T = 802 ∨ ¬ cm_live (cm_it P Fc T (cm_begin Mc))) (h3 : ∀ u, u < U → rm_live (rm_it P Fr u (rm_begin P Mr))) (h4 : ¬ rm_live (rm_it P Fr U (rm_begin P Mr))) :
    ∃ r md sh dn, sS P ap r md sh dn (cm_it P Fc T (cm_begin Mc)) (rm_it P Fr U (rm_begin P Mr)) (sPl P (cm_it P Fc T (cm_begin Mc)) (r - 1)) := by
  have hT := sBnd H hk T h1
  have h2' := h2.resolve_left (by omega)
  have c3 := sLv H hk U h3
  have e : T = U := by
    rcases Nat.lt_trichotomy T U with z | z | z
    · exact absurd (c3 T z) h2'
    · exact z
    · exact absurd (sLv' H hk T h1 U z) h4
  subst e
  obtain ⟨r, md, sh, dn, g1, _⟩ := sIt H hk T h1
  exact ⟨r, md, sh, dn, g1⟩
end STU
