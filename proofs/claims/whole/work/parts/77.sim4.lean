/-! THE TWO MACHINES: any instruction -/
section SI2
variable {P : pr_T} {ap : sAp} {Fc : Nat → Nat → Int32} {Fr : Nat → Nat → Nat} {r md sh dn : Nat} {Mc Mr : fm_M} {q i t : Nat}
theorem sF2 (H : sH P ap Fc Fr) (hq : q < 5) (hi : i < P.1 q) (h : ¬ ((P.2.2 q i).1 = 10 ∨ (P.2.2 q i).1 = 11)) : Fr q i < 2 := by
  have w := H.2.2 q i hq hi
  have w1 := w.1
  by_cases z : Fr q i = 2
  · exact absurd (w.2.2.2 z) h
  · omega
theorem sRR (I : an_I) (h : (3 ≤ I.1 ∧ I.1 ≤ 6) ∨ I.1 = 10 ∨ I.1 = 11) (v : Nat) : fa_wk I v ↔ v = rm_RR I := by
  unfold rm_RR
  by_cases e : I.1 = 3 ∨ I.1 = 5
  · rw [if_pos e]
    constructor
    · rintro (z | z | z)
      · exact z.2.symm
      · omega
      · omega
    · intro z
      exact Or.inl ⟨e, z.symm⟩
  · rw [if_neg e]
    constructor
    · rintro (z | z | z)
      · omega
      · exact z.2.symm
      · omega
    · intro z
      exact Or.inr (Or.inl ⟨by omega, z.symm⟩)
/-- the cell of a field or lock instruction -/
theorem sBase (X : sIx P ap Fc Fr r md sh dn Mc Mr q i t) (ho : (3 ≤ (P.2.2 q i).1 ∧ (P.2.2 q i).1 ≤ 6) ∨ (P.2.2 q i).1 = 10 ∨ (P.2.2 q i).1 = 11) {c ob : Nat} (ec : c = cm_n (Mc 12 ((r - 1) * 4 + rm_RR (P.2.2 q i)))) (eo : ob = cm_n (Mr 16 (4 * (r - 1) + rm_RR (P.2.2 q i)))) :
    (Fr q i = 1 → sCell ap r md Mc c 18 (5 * (4 * (r - 1) + rm_RR (P.2.2 q i)))) ∧ (Fr q i ≠ 1 → c = ob ∧ (c ≠ 0 → sCell ap r md Mc c 19 (5 * ob))) := by
  obtain ⟨H, h, h0, hq, e9, hi, e10, hmd, hsh, ht, et⟩ := X
  have hR := rm_RR_4 ((H.1 q hq).2.2 i hi).2.1 ((H.1 q hq).2.2 i hi).2.2.1
  have hn := h.1.1
  have F := H.2.2 q i hq hi
  constructor
  · intro f1
    obtain ⟨v, k, a, z⟩ := F.2.2.1.mp f1
    have hv : v = rm_RR (P.2.2 q i) := by
      rcases z with z | z
      · have y := (H.2.1 q v k a).2.1.2.1
        rw [← z] at y
        exfalso
        clear ec eo hR
        omega
      · exact (sRR _ ho v).mp z
    have m := sMad H h h0 hq hi e9 (by omega) a ((sRR _ ho v).mpr hv)
    rw [← hv] at ec ⊢
    have ec2 : c = 401 + (r - 1) * 4 + v := by rw [ec, m, cm_n_nI (by omega)]
    exact Or.inr ⟨v, q, k, by omega, hq, e9, a, rfl, rfl, ec2, by rw [ec2]; exact m⟩
  · intro f1
    obtain ⟨c0, c1, c2, c3⟩ := sVar h h0 hq e9 hR (fun k a => f1 (F.2.2.1.mpr ⟨_, k, a, Or.inr ((sRR _ ho _).mpr rfl)⟩))
    rw [c2, cm_n_nI (by omega)] at ec
    rw [c3, cm_n_nI (by omega)] at eo
    subst ec
    subst eo
    exact ⟨rfl, fun z => Or.inl ⟨rfl, rfl, by omega, c1⟩⟩
theorem sInstr (X : sIx P ap Fc Fr r md sh dn Mc Mr q i t) {c ob : Nat} (ec : c = cm_n (Mc 12 ((r - 1) * 4 + rm_RR (P.2.2 q i)))) (eo : ob = cm_n (Mr 16 (4 * (r - 1) + rm_RR (P.2.2 q i)))) :
    sRes P ap r dn (cm_per P Mc r md sh t (P.2.2 q i).2.2.2.2.toNatClampNeg c (P.2.2 q i) (Fc q i)) (rm_do P Mr r sh t md (P.2.2 q i).2.2.2.2.toNatClampNeg ob (P.2.2 q i) (Fr q i)) := by
  have X0 := X
  obtain ⟨H, h, h0, hq, e9, hi, e10, hmd, hsh, ht, et⟩ := X
  obtain ⟨w1, w2, w3, w4, w5, w6⟩ := (H.1 q hq).2.2 i hi
  have F := H.2.2 q i hq hi
  have F1 := F.1
  have hn := h.1.1
  have hs := h.2.2.1
  have hn24 := (H.1 q hq).1
  have x9 : ∀ q', q' < 5 → Mc 9 (r - 1) = nI q' → q' = q := fun q' hq' e => (nI_eq (by omega) (by omega)).mp (e.symm.trans e9)
  by_cases o0 : (P.2.2 q i).1 = 0
  · rw [cm_per_0 o0]
    by_cases f1 : Fr q i = 1
    · rw [if_pos (by rw [F.2.1, f1]), rm_do_n1 o0 f1]
      obtain ⟨v, k, a, z⟩ := F.2.2.1.mp f1
      have ek : i = k := by
        rcases z with z | z
        · exact z
        · exfalso
          rcases z with z | z | z <;> omega
      subst ek
      have ev : (P.2.2 q i).2.1 = v := (H.2.1 q v i a).2.1.2.2.1
      refine ⟨r, md, sh, by omega, sS_par h h0 w2 (k0 := i) (fun q' hq' e => ?_)⟩
      have := x9 q' hq' e
      subst this
      refine ⟨by rw [ev]; exact a, fun v' k' nv a' z' => sPl_1 hn24 hi (fun ek => nv ?_) z' (by omega) (by omega) ?_⟩
      · subst ek
        rw [← (H.2.1 q' v' k' a').2.1.2.2.1]
      · rw [fm_up_a (by decide), cm_emp_n (by omega)]
        exact e10
    · rw [if_neg (by rw [F.2.1, nI_eq (by omega) (by omega)]; exact f1), rm_do_n0 o0 f1]
      unfold rm_newO
      have nx : ∀ k, ¬ ap q (P.2.2 q i).2.1 k := fun k a => f1 (F.2.2.1.mpr ⟨_, k, a, Or.inl ((H.2.1 q _ k a).2.1.2.2.2 i hi ⟨by omega, rfl⟩)⟩)
      refine sRes_1 H hq hi (sS_ref (sS_obj h hmd) h0 w2 ⟨md + 1, Nat.le_refl _, rfl, rfl⟩ (fun q' hq' e => ?_)) ?_ ?_ (fun v k a e => f1 (F.2.2.1.mpr ⟨v, k, a, Or.inl e.symm⟩)) (by omega) (by omega)
      · rw [cm_emp_n (by omega), fm_up_a (by decide)] at e
        rw [x9 q' hq' e]
        exact nx
      · rw [fm_up_a (by decide), cm_emp_n (by omega), fm_up_a (by decide)]; exact e9
      · rw [fm_up_a (by decide), cm_emp_n (by omega), fm_up_a (by decide)]; exact e10
  have no := sNo_op (Fc := Fc) (Fr := Fr) H (i := i) (q := q) o0
  by_cases oc : (P.2.2 q i).1 = 16
  · obtain ⟨k, hk, en⟩ := w6 oc
    rw [cm_per_16 oc, rm_do_c oc, en, nI_clamp (by omega)]
    have nx := sNa_d H hi (q := q) (i := i) (Or.inr (Or.inr oc))
    have efk : fa_k P (P.2.2 q i) = P.2.1 k := by
      unfold fa_k
      rw [if_pos oc, en, nI_clamp (by omega)]
    unfold cm_call rm_call
    by_cases z : P.1 k = 0 ∨ r = 8
    · rw [if_pos (by omega), if_pos z]
      exact sRes_1 H hq hi (sS_fail h _) (by rw [fm_up_a (by decide)]; exact e9) (by rw [fm_up_a (by decide)]; exact e10) no (by omega) (by omega)
    · rw [if_neg (by omega), if_neg z]
      have h2 := sS_f1 H hq hi h e9 e10 no (by omega) (by omega)
      refine ⟨r + 1, md, sh, Nat.le_refl _, sS_enter H.1 h2 (by omega) hk w2 (fun _ q' hq' e => by rw [x9 q' hq' e]; exact nx) ?_ ?_ (fun v k' a => (H.2.1 k v k' a).1)⟩
      · by_cases y : 0 < P.2.1 k
        · rw [if_pos (by omega), if_pos y]
          exact sVar h h0 hq e9 w3 (sNa_h H hi (Or.inr (Or.inr ⟨oc, Or.inl ⟨by omega, rfl⟩⟩)))
        · rw [if_neg (by omega), if_neg y]; exact sV_0
      · by_cases y : 1 < P.2.1 k
        · rw [if_pos (by omega), if_pos y]
          exact sVar h h0 hq e9 w4 (sNa_h H hi (Or.inr (Or.inr ⟨oc, Or.inr ⟨by omega, rfl⟩⟩)))
        · rw [if_neg (by omega), if_neg y]; exact sV_0
  clear w6
  by_cases ow : 3 ≤ (P.2.2 q i).1 ∧ (P.2.2 q i).1 ≤ 6
  · have ow4 : (P.2.2 q i).1 = 3 ∨ (P.2.2 q i).1 = 4 ∨ (P.2.2 q i).1 = 5 ∨ (P.2.2 q i).1 = 6 := by omega
    rw [cm_per_w ow4]
    have B := sBase X0 (Or.inl ow) ec eo
    by_cases f1 : Fr q i = 1
    · rw [rm_do_f1 (Or.inl ow) f1]
      exact sFld X0 (B.1 f1) ow4
    · rw [rm_do_f0 (Or.inl ow) f1]
      obtain ⟨b1, b2⟩ := B.2 f1
      by_cases z : ob = 0
      · rw [if_pos z]
        unfold cm_wof
        rw [if_pos (b1.trans z)]
        exact sRes_1 H hq hi (sS_fail h _) (by rw [fm_up_a (by decide)]; exact e9) (by rw [fm_up_a (by decide)]; exact e10) no (by omega) (by omega)
      · rw [if_neg z]
        exact sFld X0 (b2 (fun y => z (b1.symm.trans y))) ow4
  by_cases ol : (P.2.2 q i).1 = 10 ∨ (P.2.2 q i).1 = 11
  · rw [cm_per_l ol]
    have B := sBase X0 (Or.inr ol) ec eo
    by_cases f2 : Fr q i = 2
    · rw [if_pos (by rw [F.2.1, f2]), rm_do_0 (by omega) (by omega)]
      exact sRes_1 H hq hi h e9 e10 no (by omega) (by omega)
    · rw [if_neg (by rw [F.2.1, nI_eq (by omega) (by omega)]; exact f2)]
      by_cases f1 : Fr q i = 1
      · rw [rm_do_f1 (by omega) f1]
        exact sLck X0 (B.1 f1) ol
      · rw [rm_do_f0 (by omega) f1]
        obtain ⟨b1, b2⟩ := B.2 f1
        by_cases z : ob = 0
        · rw [if_pos z]
          unfold cm_cnt
          rw [if_pos (b1.trans z)]
          exact sRes_1 H hq hi (sS_fail h _) (by rw [fm_up_a (by decide)]; exact e9) (by rw [fm_up_a (by decide)]; exact e10) no (by omega) (by omega)
        · rw [if_neg z]
          exact sLck X0 (b2 (fun y => z (b1.symm.trans y))) ol
  have f2 := sF2 H hq hi ol
  by_cases o9 : (P.2.2 q i).1 = 9
  · rw [cm_per_m (by omega), cm_move_9 o9]
    by_cases f1 : Fr q i = 1
    · rw [rm_do_s1 o9 f1]
      have key : decide (Mc 12 ((r - 1) * 4 + (P.2.2 q i).2.2.1) = Mc 12 ((r - 1) * 4 + (P.2.2 q i).2.2.2.1)) = decide ((P.2.2 q i).2.2.1 = (P.2.2 q i).2.2.2.1) := by
        by_cases e : (P.2.2 q i).2.2.1 = (P.2.2 q i).2.2.2.1
        · rw [decide_eq_true e, decide_eq_true (by rw [e])]
        · rw [decide_eq_false e]
          apply decide_eq_false
          have val : ∀ v, v < 4 → ((P.2.2 q i).2.2.1 = v ∨ (P.2.2 q i).2.2.2.1 = v) → ((∃ k, ap q v k) → Mc 12 ((r - 1) * 4 + v) = nI (401 + (r - 1) * 4 + v)) ∧ ((∀ k, ¬ ap q v k) → ∃ c, c ≤ 400 ∧ Mc 12 ((r - 1) * 4 + v) = nI c) := fun v hv hw => ⟨fun ⟨k, a⟩ => sMad H h h0 hq hi e9 hv a (Or.inr (Or.inr ⟨o9, hw⟩)), fun n => by
            obtain ⟨c0, c1, c2, c3⟩ := sVar h h0 hq e9 hv n
            exact ⟨c0, by omega, c2⟩⟩
          have vy := val _ w3 (Or.inl rfl)
          have vz := val _ w4 (Or.inr rfl)
          obtain ⟨v, k, a, z⟩ := F.2.2.1.mp f1
          have hv : (P.2.2 q i).2.2.1 = v ∨ (P.2.2 q i).2.2.2.1 = v := by
            rcases z with z | z
            · exact absurd z.symm (no v k a)
            · rcases z with z | z | z
              · omega
              · omega
              · exact z.2
          intro g
          rcases hv with hv | hv
          · have gy := vy.1 ⟨k, by rw [hv]; exact a⟩
            by_cases az : ∃ k, ap q (P.2.2 q i).2.2.2.1 k
            · rw [gy, vz.1 az, nI_eq (by omega) (by omega)] at g
              omega
            · obtain ⟨c0, c1, c2⟩ := vz.2 (fun k a => az ⟨k, a⟩)
              rw [gy, c2, nI_eq (by omega) (by omega)] at g
              omega
          · have gz := vz.1 ⟨k, by rw [hv]; exact a⟩
            by_cases ay : ∃ k, ap q (P.2.2 q i).2.2.1 k
            · rw [gz, vy.1 ay, nI_eq (by omega) (by omega)] at g
              omega
            · obtain ⟨c0, c1, c2⟩ := vy.2 (fun k a => ay ⟨k, a⟩)
              rw [gz, c2, nI_eq (by omega) (by omega)] at g
              omega
      rw [key]
      exact sRes_1 H hq hi (sS_int h h0 w2 _) (by rw [fm_up_a (by decide)]; exact e9) (by rw [fm_up_a (by decide)]; exact e10) no (by omega) (by omega)
    · rw [rm_do_s0 o9 f1]
      obtain ⟨c0, c1, c2, c3⟩ := sVar h h0 hq e9 w3 (fun k a => f1 (F.2.2.1.mpr ⟨_, k, a, Or.inr (Or.inr (Or.inr ⟨o9, Or.inl rfl⟩))⟩))
      obtain ⟨d0, d1, d2, d3⟩ := sVar h h0 hq e9 w4 (fun k a => f1 (F.2.2.1.mpr ⟨_, k, a, Or.inr (Or.inr (Or.inr ⟨o9, Or.inr rfl⟩))⟩))
      rw [c2, c3, d2, d3]
      exact sRes_1 H hq hi (sS_int h h0 w2 _) (by rw [fm_up_a (by decide)]; exact e9) (by rw [fm_up_a (by decide)]; exact e10) no (by omega) (by omega)
  have rd := rm_do_m (P := P) (M := Mr) (r := r) (sh := sh) (t := t) (md := md) (k := (P.2.2 q i).2.2.2.2.toNatClampNeg) (ob := ob) (f := Fr q i) (I := P.2.2 q i) (by omega) f2
  rw [rd]
  by_cases o14 : (P.2.2 q i).1 = 14
  · rw [cm_per_14 o14, rm_move_14 o14]
    exact ⟨r, md, sh, by omega, sS_f2 hq hi (sS_pl h h0 _) (by rw [fm_up_a (by decide)]; exact e9) fm_up_s no (Or.inl o14)⟩
  by_cases o15 : (P.2.2 q i).1 = 15
  · rw [cm_per_15 o15, rm_move_15 o15, sInt h h0 w2]
    by_cases z : Mr 17 (4 * (r - 1) + (P.2.2 q i).2.1) = 0
    · rw [if_pos z, if_pos z]
      exact ⟨r, md, sh, by omega, sS_f2 hq hi (sS_pl h h0 _) (by rw [fm_up_a (by decide)]; exact e9) fm_up_s no (Or.inr o15)⟩
    · rw [if_neg z, if_neg z, fm_up_id]
      exact sRes_1 H hq hi h e9 e10 no (by omega) (by omega)
  by_cases o17 : (P.2.2 q i).1 = 17
  · rw [cm_per_17 o17, rm_move_17 o17]
    exact ⟨r - 1, md, sh, by omega, sS_leave h h0 ht et (sVar h h0 hq e9 w2 (sNa_h H hi (Or.inr (Or.inl ⟨Or.inr o17, rfl⟩))))⟩
  rw [cm_per_m (by omega)]
  by_cases o1 : (P.2.2 q i).1 = 1
  · rw [cm_move_1 o1, rm_move_1 o1]
    exact sRes_1 H hq hi (sS_ref h h0 w2 (sVar h h0 hq e9 w3 (sNa_h H hi (Or.inl ⟨Or.inl o1, rfl⟩))) (fun q' hq' e => by rw [x9 q' hq' e]; exact sNa_d H hi (by omega))) (by rw [fm_up_a (by decide)]; exact e9) (by rw [fm_up_a (by decide)]; exact e10) no (by omega) (by omega)
  by_cases o2 : (P.2.2 q i).1 = 2
  · rw [cm_move_2 o2, rm_move_2 o2]
    exact sRes_1 H hq hi (sS_ref h h0 w2 sV_0 (fun q' hq' e => by rw [x9 q' hq' e]; exact sNa_d H hi (by omega))) (by rw [fm_up_a (by decide)]; exact e9) (by rw [fm_up_a (by decide)]; exact e10) no (by omega) (by omega)
  by_cases o7 : (P.2.2 q i).1 = 7
  · rw [cm_move_7 o7, rm_move_7 o7]
    exact sRes_1 H hq hi (sS_int h h0 w2 _) (by rw [fm_up_a (by decide)]; exact e9) (by rw [fm_up_a (by decide)]; exact e10) no (by omega) (by omega)
  by_cases o8 : (P.2.2 q i).1 = 8
  · rw [cm_move_8 o8, rm_move_8 o8, sInt h h0 w3, sInt h h0 w4]
    exact sRes_1 H hq hi (sS_int h h0 w2 _) (by rw [fm_up_a (by decide)]; exact e9) (by rw [fm_up_a (by decide)]; exact e10) no (by omega) (by omega)
  by_cases o12 : (P.2.2 q i).1 = 12
  · rw [cm_move_12 o12, rm_move_12 o12]
    exact sRes_1 H hq hi (sS_glob h (sVar h h0 hq e9 w2 (sNa_h H hi (Or.inr (Or.inl ⟨Or.inl o12, rfl⟩))))) (by rw [fm_up_a (by decide)]; exact e9) (by rw [fm_up_a (by decide)]; exact e10) no (by omega) (by omega)
  by_cases o13 : (P.2.2 q i).1 = 13
  · rw [cm_move_13 o13, rm_move_13 o13]
    exact sRes_1 H hq hi (sS_ref h h0 w2 (hs _ w3) (fun q' hq' e => by rw [x9 q' hq' e]; exact sNa_d H hi (by omega))) (by rw [fm_up_a (by decide)]; exact e9) (by rw [fm_up_a (by decide)]; exact e10) no (by omega) (by omega)
  · have o18 : (P.2.2 q i).1 = 18 := by omega
    rw [cm_move_18 o18, rm_move_s (by omega), sInt h h0 w2]
    refine sRes_1 H hq hi (sS_show h hsh _) ?_ ?_ no (by omega) (by omega)
    · unfold cm_show
      rw [fm_up_a (by decide)]
      split
      · rw [fm_up_a (by decide)]; exact e9
      · exact e9
    · unfold cm_show
      rw [fm_up_a (by decide)]
      split
      · rw [fm_up_a (by decide)]; exact e10
      · exact e10
end SI2
