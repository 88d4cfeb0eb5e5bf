/-! the reference's machine: one instruction -/
abbrev rm_RR (I : an_I) : Nat := if I.1 = 3 ∨ I.1 = 5 then I.2.2.1 else I.2.1
/-- one instruction of fate f, the place being counted on already; k: the callee; ob: the object that a field or a lock is of -/
def rm_do (P : pr_T) (M : fm_M) (r sh t md k ob : Nat) (I : an_I) (f : Nat) : fm_M :=
  if I.1 = 0 then (if f = 1 then rm_newP M r I.2.1 else rm_newO M r I.2.1 md)
  else if I.1 = 9 then fm_up M 17 (4 * (r - 1) + I.2.1) (bI (if f = 1 then decide (I.2.2.1 = I.2.2.2.1) else decide (M 16 (4 * (r - 1) + I.2.2.1) = M 16 (4 * (r - 1) + I.2.2.2.1))))
  else if (3 ≤ I.1 ∧ I.1 ≤ 6) ∨ ((I.1 = 10 ∨ I.1 = 11) ∧ f < 2) then (if f = 1 then rm_fl M r 18 (5 * (4 * (r - 1) + rm_RR I)) I else if ob = 0 then fm_up M 0 24 (nI 1) else rm_fl M r 19 (5 * ob) I)
  else if I.1 = 16 then rm_call P M r k I
  else if f < 2 then rm_move M r sh t I else M
section RDO
variable {P : pr_T} {M : fm_M} {r sh t md k ob f : Nat} {I : an_I}
theorem rm_do_n1 (h : I.1 = 0) (e : f = 1) : rm_do P M r sh t md k ob I f = rm_newP M r I.2.1 := by
  unfold rm_do; rw [if_pos h, if_pos e]
theorem rm_do_n0 (h : I.1 = 0) (e : ¬ f = 1) : rm_do P M r sh t md k ob I f = rm_newO M r I.2.1 md := by
  unfold rm_do; rw [if_pos h, if_neg e]
theorem rm_do_s1 (h : I.1 = 9) (e : f = 1) : rm_do P M r sh t md k ob I f = fm_up M 17 (4 * (r - 1) + I.2.1) (bI (decide (I.2.2.1 = I.2.2.2.1))) := by
  unfold rm_do; rw [if_neg (by omega), if_pos h, if_pos e]
theorem rm_do_s0 (h : I.1 = 9) (e : ¬ f = 1) : rm_do P M r sh t md k ob I f = fm_up M 17 (4 * (r - 1) + I.2.1) (bI (decide (M 16 (4 * (r - 1) + I.2.2.1) = M 16 (4 * (r - 1) + I.2.2.2.1)))) := by
  unfold rm_do; rw [if_neg (by omega), if_pos h, if_neg e]
theorem rm_do_f1 (h : (3 ≤ I.1 ∧ I.1 ≤ 6) ∨ ((I.1 = 10 ∨ I.1 = 11) ∧ f < 2)) (e : f = 1) : rm_do P M r sh t md k ob I f = rm_fl M r 18 (5 * (4 * (r - 1) + rm_RR I)) I := by
  unfold rm_do; rw [if_neg (by omega), if_neg (by omega), if_pos h, if_pos e]
theorem rm_do_f0 (h : (3 ≤ I.1 ∧ I.1 ≤ 6) ∨ ((I.1 = 10 ∨ I.1 = 11) ∧ f < 2)) (e : ¬ f = 1) : rm_do P M r sh t md k ob I f = if ob = 0 then fm_up M 0 24 (nI 1) else rm_fl M r 19 (5 * ob) I := by
  unfold rm_do; rw [if_neg (by omega), if_neg (by omega), if_pos h, if_neg e]
theorem rm_do_c (h : I.1 = 16) : rm_do P M r sh t md k ob I f = rm_call P M r k I := by
  unfold rm_do; rw [if_neg (by omega), if_neg (by omega), if_neg (by omega), if_pos h]
theorem rm_do_m (h : ¬ I.1 = 0 ∧ ¬ I.1 = 9 ∧ ¬ ((3 ≤ I.1 ∧ I.1 ≤ 6) ∨ ((I.1 = 10 ∨ I.1 = 11) ∧ f < 2)) ∧ ¬ I.1 = 16) (e : f < 2) : rm_do P M r sh t md k ob I f = rm_move M r sh t I := by
  unfold rm_do; rw [if_neg h.1, if_neg h.2.1, if_neg h.2.2.1, if_neg h.2.2.2, if_pos e]
theorem rm_do_0 (h : ¬ I.1 = 0 ∧ ¬ I.1 = 9 ∧ ¬ ((3 ≤ I.1 ∧ I.1 ≤ 6) ∨ ((I.1 = 10 ∨ I.1 = 11) ∧ f < 2)) ∧ ¬ I.1 = 16) (e : ¬ f < 2) : rm_do P M r sh t md k ob I f = M := by
  unfold rm_do; rw [if_neg h.1, if_neg h.2.1, if_neg h.2.2.1, if_neg h.2.2.2, if_neg e]
end RDO
