/-! THE CLASS'S MACHINE: a turn, turn after turn -/
section CMO
variable {P : pr_T} {M : fm_M} {a j : Nat}
theorem cm_z_o (h : a ≠ 12) (k : a ≠ 13) {b : Nat} : ∀ v, cm_z M b v a j = M a j := by
  intro v
  induction v with
  | zero => rfl
  | succ v ih => simp only [cm_z]; rw [fm_up_a k, fm_up_a h]; exact ih
theorem cm_enter_o (h : 15 ≤ a) {r m t : Nat} {x y : Int32} : cm_enter M r m t x y a j = M a j := by
  unfold cm_enter
  rw [fm_up_a (by omega), fm_up_a (by omega), cm_z_o (by omega) (by omega), fm_up_a (by omega), fm_up_a (by omega), fm_up_a (by omega), fm_up_a (by omega)]
theorem cm_leave_o (h : 15 ≤ a) {r t : Nat} {v : Int32} : cm_leave M r t v a j = M a j := by
  unfold cm_leave
  split
  · rw [fm_up_a (by omega)]
  · rw [fm_up_a (by omega), fm_up_a (by omega)]
theorem cm_wof_o (h : 15 ≤ a) {r o x y z c : Nat} : cm_wof M r o x y z c a j = M a j := by
  unfold cm_wof
  split
  · rw [fm_up_a (by omega)]
  split
  · rw [fm_up_a (by omega)]
  split
  · rw [fm_up_a (by omega)]
  split
  · rw [fm_up_a (by omega)]
  · rw [fm_up_a (by omega)]
theorem cm_cnt_o (h : 15 ≤ a) {o c : Nat} : cm_cnt M o c a j = M a j := by
  unfold cm_cnt
  split
  · rw [fm_up_a (by omega)]
  split
  · rw [fm_up_a (by omega)]
  · rw [fm_up_a (by omega), fm_up_a (by omega)]
theorem cm_call_o (h : 15 ≤ a) {r k : Nat} {I : an_I} : cm_call P M r k I a j = M a j := by
  unfold cm_call
  split
  · rw [fm_up_a (by omega)]
  · exact cm_enter_o h
theorem cm_show_o (h : 15 ≤ a) {sh : Nat} {v : Int32} : cm_show M sh v a j = M a j := by
  unfold cm_show
  rw [fm_up_a (by omega)]
  split
  · rw [fm_up_a (by omega)]
  · rfl
theorem cm_move_o (h : 15 ≤ a) {r sh : Nat} {I : an_I} : cm_move M r sh I a j = M a j := by
  unfold cm_move
  split
  · rw [fm_up_a (by omega)]
  split
  · rw [fm_up_a (by omega)]
  split
  · rw [fm_up_a (by omega)]
  split
  · rw [fm_up_a (by omega)]
  split
  · rw [fm_up_a (by omega)]
  split
  · rw [fm_up_a (by omega)]
  split
  · rw [fm_up_a (by omega)]
  split
  · exact cm_show_o h
  · rfl
theorem cm_per_o (h : 15 ≤ a) {r md sh t k c : Nat} {I : an_I} {ft : Int32} : cm_per P M r md sh t k c I ft a j = M a j := by
  unfold cm_per
  split
  · exact cm_wof_o h
  split
  · split
    · rfl
    · exact cm_cnt_o h
  split
  · exact cm_call_o h
  split
  · exact cm_leave_o h
  split
  · rw [fm_up_a (by omega)]
  split
  · split
    · rw [fm_up_a (by omega)]
    · rfl
  split
  · split
    · rw [fm_up_a (by omega), cm_emp_o (by omega) (by omega) (by omega)]
    · rw [fm_up_a (by omega), cm_emp_o (by omega) (by omega) (by omega), fm_up_a (by omega)]
  · exact cm_move_o h
theorem cm_begin_o (h : 15 ≤ a) : cm_begin M a j = M a j := by
  unfold cm_begin
  rw [cm_enter_o h, fm_up_a (by omega), fm_up_a (by omega), fm_up_a (by omega), fm_up_a (by omega), fm_up_a (by omega), fm_up_a (by omega), fm_fill_o (by omega)]
end CMO
def cm_n (v : Int32) : Nat := v.toNatClampNeg
theorem cm_n_nI {k : Nat} (h : k < 2 ^ 31) : cm_n (nI k) = k := nI_clamp h
/-- one instruction is done -/
def cm_do (P : pr_T) (F : Nat → Nat → Int32) (M : fm_M) (r m i : Nat) : fm_M :=
  cm_per P (fm_up (fm_up M 4 13 (nI (cm_n (M 4 13) + 1))) 10 (r - 1) (nI (i + 1))) r (cm_n (M 4 14)) (cm_n (M 4 12)) (cm_n (M 11 (r - 1))) (P.2.2 m i).2.2.2.2.toNatClampNeg
    (if (P.2.2 m i).1 = 3 ∨ (P.2.2 m i).1 = 5 then cm_n (M 12 ((r - 1) * 4 + (P.2.2 m i).2.2.1)) else cm_n (M 12 ((r - 1) * 4 + (P.2.2 m i).2.1))) (P.2.2 m i) (F m i)
/-- a turn, of the method m that runs in frame r - 1 -/
def cm_tr (P : pr_T) (F : Nat → Nat → Int32) (M : fm_M) (r m : Nat) : fm_M :=
  if 0 ≤ M 10 (r - 1) ∧ M 10 (r - 1) < nI (P.1 m) then (if cm_n (M 4 13) < 400 then cm_do P F M r m (cm_n (M 10 (r - 1))) else fm_up M 4 11 (nI 4))
  else cm_leave M r (cm_n (M 11 (r - 1))) (nI 0)
def cm_turn (P : pr_T) (F : Nat → Nat → Int32) (M : fm_M) : fm_M := cm_tr P F M (cm_n (M 4 9)) (cm_n (M 9 (cm_n (M 4 9) - 1)))
def cm_it (P : pr_T) (F : Nat → Nat → Int32) : Nat → fm_M → fm_M
  | 0, M => M
  | t + 1, M => cm_turn P F (cm_it P F t M)
def cm_live (M : fm_M) : Prop := 0 < M 4 9 ∧ M 4 11 = 0
/-- the machine's numbers are such that a turn can be done -/
def cV (M : fm_M) : Prop := ∃ r md sh dn, M 4 9 = nI r ∧ r ≤ 8 ∧ M 4 13 = nI dn ∧ dn ≤ 400 ∧ M 4 14 = nI md ∧ md ≤ dn ∧ M 4 12 = nI sh ∧ sh ≤ dn ∧
  (0 < r → (∃ q, q < 5 ∧ M 9 (r - 1) = nI q) ∧ (∃ t, t < 4 ∧ M 11 (r - 1) = nI t) ∧ ∃ cs : Nat → Nat, ∀ v, v < 4 → M 12 ((r - 1) * 4 + v) = nI (cs v) ∧ cs v < 433)
theorem cm_tr_o {P : pr_T} {F : Nat → Nat → Int32} {M : fm_M} {r m a j : Nat} (h : 15 ≤ a) : cm_tr P F M r m a j = M a j := by
  unfold cm_tr
  split
  · split
    · unfold cm_do
      rw [cm_per_o h, fm_up_a (by omega), fm_up_a (by omega)]
    · rw [fm_up_a (by omega)]
  · exact cm_leave_o h
theorem cm_it_o {P : pr_T} {F : Nat → Nat → Int32} {M : fm_M} {a j : Nat} (h : 15 ≤ a) : ∀ t, cm_it P F t M a j = M a j := by
  intro t
  induction t with
  | zero => rfl
  | succ t ih => exact (cm_tr_o h).trans ih
theorem cm_turn_at {P : pr_T} {F : Nat → Nat → Int32} {M : fm_M} {r q : Nat} (hr : M 4 9 = nI r) (h8 : r ≤ 8) (hq : M 9 (r - 1) = nI q) (h5 : q < 5) : cm_turn P F M = cm_tr P F M r q := by
  unfold cm_turn
  rw [hr, cm_n_nI (by omega), hq, cm_n_nI (by omega)]
theorem cm_ix {v : Int32} {n : Nat} (hn : n ≤ 24) (h : 0 ≤ v ∧ v < nI n) : ∃ i, i < n ∧ v = nI i := by
  obtain ⟨k, hk, e⟩ := nI_of (x := v) (Int32.not_lt.mpr h.1)
  subst e
  exact ⟨k, (nI_ltI hk (by omega)).mp h.2, rfl⟩
