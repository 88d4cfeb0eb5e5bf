/-! the class's machine leaves the mill's own fields alone -/
section CMZ
variable {P : pr_T} {M : fm_M} {a j : Nat}
theorem cm_enter_oz (h : a < 4) {r m t : Nat} {x y : Int32} : cm_enter M r m t x y a j = M a j := by
  unfold cm_enter
  rw [fm_up_a (by omega), fm_up_a (by omega), cm_z_o (by omega) (by omega), fm_up_a (by omega), fm_up_a (by omega), fm_up_a (by omega), fm_up_a (by omega)]
theorem cm_leave_oz (h : a < 4) {r t : Nat} {v : Int32} : cm_leave M r t v a j = M a j := by
  unfold cm_leave
  split
  · rw [fm_up_a (by omega)]
  · rw [fm_up_a (by omega), fm_up_a (by omega)]
theorem cm_wof_oz (h : a < 4) {r o x y z c : Nat} : cm_wof M r o x y z c a j = M a j := by
  unfold cm_wof
  split
  · rw [fm_up_a (by omega)]
  split
  · rw [fm_up_a (by omega)]
  split
  · rw [fm_up_a (by omega)]
  split
  · rw [fm_up_a (by omega)]
  · rw [fm_up_a (by omega)]
theorem cm_cnt_oz (h : a < 4) {o c : Nat} : cm_cnt M o c a j = M a j := by
  unfold cm_cnt
  split
  · rw [fm_up_a (by omega)]
  split
  · rw [fm_up_a (by omega)]
  · rw [fm_up_a (by omega), fm_up_a (by omega)]
theorem cm_call_oz (h : a < 4) {r k : Nat} {I : an_I} : cm_call P M r k I a j = M a j := by
  unfold cm_call
  split
  · rw [fm_up_a (by omega)]
  · exact cm_enter_oz h
theorem cm_show_oz (h : a < 4) {sh : Nat} {v : Int32} : cm_show M sh v a j = M a j := by
  unfold cm_show
  rw [fm_up_a (by omega)]
  split
  · rw [fm_up_a (by omega)]
  · rfl
theorem cm_move_oz (h : a < 4) {r sh : Nat} {I : an_I} : cm_move M r sh I a j = M a j := by
  unfold cm_move
  split
  · rw [fm_up_a (by omega)]
  split
  · rw [fm_up_a (by omega)]
  split
  · rw [fm_up_a (by omega)]
  split
  · rw [fm_up_a (by omega)]
  split
  · rw [fm_up_a (by omega)]
  split
  · rw [fm_up_a (by omega)]
  split
  · rw [fm_up_a (by omega)]
  split
  · exact cm_show_oz h
  · rfl
theorem cm_per_oz (h : a < 4) {r md sh t k c : Nat} {I : an_I} {ft : Int32} : cm_per P M r md sh t k c I ft a j = M a j := by
  unfold cm_per
  split
  · exact cm_wof_oz h
  split
  · split
    · rfl
    · exact cm_cnt_oz h
  split
  · exact cm_call_oz h
  split
  · exact cm_leave_oz h
  split
  · rw [fm_up_a (by omega)]
  split
  · split
    · rw [fm_up_a (by omega)]
    · rfl
  split
  · split
    · rw [fm_up_a (by omega), cm_emp_o (by omega) (by omega) (by omega)]
    · rw [fm_up_a (by omega), cm_emp_o (by omega) (by omega) (by omega), fm_up_a (by omega)]
  · exact cm_move_oz h
theorem cm_begin_oz (h : a < 4) : cm_begin M a j = M a j := by
  unfold cm_begin
  rw [cm_enter_oz h, fm_up_a (by omega), fm_up_a (by omega), fm_up_a (by omega), fm_up_a (by omega), fm_up_a (by omega), fm_up_a (by omega), fm_fill_o (by omega)]
end CMZ
theorem cm_tr_oz {P : pr_T} {F : Nat → Nat → Int32} {M : fm_M} {r m a j : Nat} (h : a < 4) : cm_tr P F M r m a j = M a j := by
  unfold cm_tr
  split
  · split
    · unfold cm_do
      rw [cm_per_oz h, fm_up_a (by omega), fm_up_a (by omega)]
    · rw [fm_up_a (by omega)]
  · exact cm_leave_oz h
theorem cm_it_oz {P : pr_T} {F : Nat → Nat → Int32} {M : fm_M} {a j : Nat} (h : a < 4) : ∀ t, cm_it P F t M a j = M a j := by
  intro t
  induction t with
  | zero => rfl
  | succ t ih => exact (cm_tr_oz h).trans ih
/-! BOTH SYSTEMS BETWEEN CALLS -/
def jI (P : pr_T) (Mc Mr : fm_M) : Prop := pr_wf P ∧ cP Mc P ∧ rP Mr P ∧ (∃ b, Mc 0 4 = bI b ∧ (b = false → cT P Mc)) ∧ (∃ b, Mr 0 8 = bI b ∧ (b = true → rT P Mr)) ∧ sKp Mc Mr ∧ (∃ sh, sh ≤ 400 ∧ Mc 4 12 = nI sh ∧ Mr 0 25 = nI sh) ∧ Mc 4 11 = Mr 0 24 ∧ Mc 4 13 = Mr 0 26 ∧ Mc 4 14 = Mr 0 22 ∧ Mc 4 15 = Mr 0 27
section JI
variable {P : pr_T} {Mc Mr Mc' Mr' : fm_M}
/-- the fates by themselves: the class's -/
theorem sH_c (hw : pr_wf P) (ml : Bool) (hc : ml = true → cT P Mc) : sH P (sAp0 P ml) (cFt ml Mc) (fun m i => cm_n (cFt ml Mc m i)) := by
  refine ⟨hw, fun m v k h => h.2, fun m i hm hi => ?_⟩
  dsimp only
  cases ml with
  | false =>
    have e : cFt false Mc m i = nI 0 := rfl
    rw [e, cm_n_nI (by omega)]
    exact ⟨by omega, rfl, ⟨fun z => absurd z (by omega), fun ⟨v, k, z, _⟩ => absurd z.1 (by decide)⟩, fun z => absurd z (by omega)⟩
  | true =>
    obtain ⟨S, hS⟩ := hc rfl
    have g := (hS m hm).2.2 i hi
    have e : cFt true Mc m i = Mc (kPf m) i := rfl
    obtain ⟨f, f1, f2⟩ := fa_is_le g
    rw [e, f2, cm_n_nI (by omega)]
    rw [f2] at g
    have a := fa_is_1 g
    refine ⟨f1, rfl, ⟨fun z => ?_, ?_⟩, fun z => fa_is_2 g (by rw [z]; rfl)⟩
    · obtain ⟨r, k, y1, y2⟩ := a.mp (by rw [z]; rfl)
      exact ⟨r, k, ⟨rfl, y1⟩, y2⟩
    · rintro ⟨r, k, y1, y2⟩
      have y := a.mpr ⟨r, k, y1.2, y2⟩
      exact (nI_eq (by omega) (by omega)).mp (y.trans (rfl : (1 : Int32) = nI 1))
theorem sH_r (hw : pr_wf P) (ml : Bool) (hQ : rQ P ml Mr 5 0) : sH P (sAp0 P ml) (fun m i => nI (rFt Mr m i)) (rFt Mr) := by
  refine ⟨hw, fun m v k h => h.2, fun m i hm hi => ?_⟩
  dsimp only
  obtain ⟨f, f1, f2, f3, f4⟩ := hQ m i hm hi (Or.inl hm)
  have e : rFt Mr m i = f := by
    unfold rFt
    rw [f2, cm_n_nI (by omega)]
  rw [e]
  cases ml with
  | false =>
    have f0 := f4 rfl
    subst f0
    exact ⟨by omega, rfl, ⟨fun z => absurd z (by omega), fun ⟨v, k, z, _⟩ => absurd z.1 (by decide)⟩, fun z => absurd z (by omega)⟩
  | true =>
    have g := f3 rfl
    have a := fa_is_1 g
    refine ⟨f1, rfl, ⟨fun z => ?_, ?_⟩, fun z => fa_is_2 g (by rw [z]; rfl)⟩
    · obtain ⟨r, k, y1, y2⟩ := a.mp (by rw [z]; rfl)
      exact ⟨r, k, ⟨rfl, y1⟩, y2⟩
    · rintro ⟨r, k, y1, y2⟩
      have y := a.mpr ⟨r, k, y1.2, y2⟩
      exact (nI_eq (by omega) (by omega)).mp (y.trans (rfl : (1 : Int32) = nI 1))
theorem cK_V (hw : pr_wf P) (ml : Bool) {M1 : fm_M} (hK : cK P ml Mc M1) : ∀ t, (∀ u, u < t → cm_live (cm_it P (cFt ml M1) u (cm_begin M1))) → cV (cm_it P (cFt ml M1) t (cm_begin M1)) := fun t h => by
  obtain ⟨r, md, sh, dn, g, _⟩ := sIt (sH_c hw ml (fun z => (hK.1 z).1)) (Mr := fun _ j => M1 14 j) (fun j _ => rfl) t h
  exact sS_cV g
theorem rK_V (hw : pr_wf P) (ml : Bool) {M1 : fm_M} (hQ : rQ P ml M1 5 0) : ∀ t, (∀ u, u < t → rm_live (rm_it P (rFt M1) u (rm_begin P M1))) → rV (rm_it P (rFt M1) t (rm_begin P M1)) ∧ t ≤ 802 := fun t h => by
  have H := sH_r hw ml hQ
  have hk : sKp (fun _ j => M1 21 j) M1 := fun j _ => rfl
  have hl := sLv H hk t h
  obtain ⟨r, md, sh, dn, g, _⟩ := sIt H hk t hl
  exact ⟨sS_rV g, Nat.le_of_lt (sBnd H hk t hl)⟩
theorem jI_run (J : jI P Mc Mr) (ml : Bool) {v w : Int32} (hc : ∃ M1, cK P ml Mc M1 ∧ ∃ T, T ≤ 802 ∧ Mc' = cm_it P (cFt ml M1) T (cm_begin M1) ∧ (∀ u, u < T → cm_live (cm_it P (cFt ml M1) u (cm_begin M1))) ∧ (T = 802 ∨ ¬ cm_live Mc') ∧ v = Mc' 4 11)
    (hr : ∃ M1, rK P Mr M1 ∧ rQ P ml M1 5 0 ∧ ∃ T, Mr' = rm_it P (rFt M1) T (rm_begin P M1) ∧ (∀ u, u < T → rm_live (rm_it P (rFt M1) u (rm_begin P M1))) ∧ ¬ rm_live Mr' ∧ w = Mr' 0 24) : v = w ∧ jI P Mc' Mr' := by
  obtain ⟨hw, jc, jr, ⟨b, jb, jt⟩, ⟨b', jb', jt'⟩, jk, ⟨sh, js, js1, js2⟩, -, -, -, -⟩ := J
  obtain ⟨M1, c1, T, c2, c3, c4, c5, c6⟩ := hc
  obtain ⟨N1, r1, r2, U, r3, r4, r5, r6⟩ := hr
  have e14 : ∀ j, M1 14 j = Mc 14 j := fun j => by
    cases ml with
    | true => exact (c1.1 rfl).2.2 14 j (Or.inl (by omega)) (by omega)
    | false => rw [c1.2 rfl]
  have e21 : ∀ j, N1 21 j = Mr 21 j := fun j => r1.2.2.2 21 j (by omega) (by omega) (by omega)
  have hk : sKp M1 N1 := fun j hj => by rw [e14, e21]; exact jk j hj
  have H := sH_of hw ml (fun z => (c1.1 z).1) r1.1 r2
  rw [c3] at c5
  rw [r3] at r5
  obtain ⟨r, md, s, dn, g⟩ := sRun H hk c4 c5 r4 r5
  rw [← c3, ← r3] at g
  have gn := g.1.1
  obtain ⟨-, ⟨a1, b1⟩, ⟨a2, b2⟩, ⟨a3, b3⟩, ⟨a4, b4⟩, a5, a6⟩ := g.1
  refine ⟨by rw [c6, r6]; exact a5, hw, ?_, ?_, ?_, ?_, g.2.1, ⟨s, by omega, a3, b3⟩, a5, a4.trans b4.symm, a2.trans b2.symm, a6⟩
  · have h1 : cP M1 P := by
      cases ml with
      | true => exact cP_cg jc (fun a j q => (c1.1 rfl).2.2 a j (Or.inr q) (by obtain ⟨n, t, h1, h2, e⟩ := q; omega))
      | false => rw [c1.2 rfl]; exact jc
    exact cP_m h1 (fun a j h => by rw [c3]; exact (cm_it_o h T).trans (cm_begin_o h))
  · exact rP_cg (rK_P r1 jr) (fun a j h1 h2 => by rw [r3]; exact (rm_it_o ⟨by omega, by omega⟩ U).trans (rm_begin_o ⟨by omega, by omega⟩))
  · have e0 : Mc' 0 4 = M1 0 4 := by rw [c3]; exact (cm_it_oz (by omega) T).trans (cm_begin_oz (by omega))
    have eT : cT P M1 → cT P Mc' := fun z => cT_cg z (fun a j h _ => by rw [c3]; exact (cm_it_o h T).trans (cm_begin_o h))
    cases ml with
    | true => exact ⟨false, by rw [e0]; exact (c1.1 rfl).2.1, fun _ => eT (c1.1 rfl).1⟩
    | false =>
      have e1 := c1.2 rfl
      refine ⟨b, by rw [e0, e1]; exact jb, fun z => eT (by rw [e1]; exact jt z)⟩
  · have e0 : ∀ a j, rMf a j → Mr' a j = N1 a j := fun a j h => by rw [r3]; exact (rm_it_o h U).trans (rm_begin_o h)
    exact ⟨true, by rw [e0 0 8 ⟨by omega, by omega⟩]; exact r1.2.1, fun _ => rT_cg (fun n hn => (hw n hn).2.1) r1.1 (fun a j h1 h2 => e0 a j ⟨by omega, by omega⟩)⟩
end JI
