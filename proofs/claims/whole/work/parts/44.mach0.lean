/-! THE CLASS'S MACHINE: what its methods do to the memory. Cell 4: running 9, failure 11, showed 12, done 13, made 14, locked 15; 5 refs, 6 ints, 7 counts, 8 globals, 9 methods, 10 places, 11 targets, 12 rs, 13 is, 14 kept -/
def cm_e (M : fm_M) (c : Nat) : Nat → fm_M
  | 0 => M
  | f + 1 => fm_up (fm_up (cm_e M c f) 5 (c * 2 + f) (nI 0)) 6 (c * 2 + f) (nI 0)
/-- a cell is emptied -/
def cm_emp (M : fm_M) (c : Nat) : fm_M := fm_up (cm_e M c 2) 7 c (nI 0)
def cm_show (M : fm_M) (sh : Nat) (v : Int32) : fm_M := fm_up (if sh < 32 then fm_up M 14 sh v else M) 4 12 (nI (sh + 1))
def cm_z (M : fm_M) (b : Nat) : Nat → fm_M
  | 0 => M
  | v + 1 => fm_up (fm_up (cm_z M b v) 12 (b + v) (nI 0)) 13 (b + v) (nI 0)
def cm_enter (M : fm_M) (r m t : Nat) (x y : Int32) : fm_M :=
  fm_up (fm_up (cm_z (fm_up (fm_up (fm_up (fm_up M 9 r (nI m)) 10 r (nI 0)) 11 r (nI t)) 4 9 (nI (r + 1))) (r * 4) 4) 12 (r * 4) x) 12 (r * 4 + 1) y
def cm_leave (M : fm_M) (r t : Nat) (v : Int32) : fm_M := if r = 1 then fm_up M 4 9 (nI (r - 1)) else fm_up (fm_up M 4 9 (nI (r - 1))) 12 ((r - 1 - 1) * 4 + t) v
def cm_wof (M : fm_M) (r o x y z c : Nat) : fm_M :=
  if c = 0 then fm_up M 4 11 (nI 1)
  else if o = 3 then fm_up M 12 ((r - 1) * 4 + x) (M 5 (c * 2 + z))
  else if o = 5 then fm_up M 13 ((r - 1) * 4 + x) (M 6 (c * 2 + z))
  else if o = 4 then fm_up M 5 (c * 2 + z) (M 12 ((r - 1) * 4 + y))
  else fm_up M 6 (c * 2 + z) (M 13 ((r - 1) * 4 + y))
def cm_cnt (M : fm_M) (o c : Nat) : fm_M :=
  if c = 0 then fm_up M 4 11 (nI 1)
  else if o = 11 ∧ M 7 c = 0 then fm_up M 4 11 (nI 2)
  else fm_up (fm_up M 7 c (M 7 c + (if o = 10 then nI 1 else -1))) 4 15 (M 4 15 + (if c < 401 then nI 1 else nI 0))
/-- instruction I calls method k -/
def cm_call (P : pr_T) (M : fm_M) (r k : Nat) (I : an_I) : fm_M :=
  if P.1 k = 0 ∨ 8 ≤ r then fm_up M 4 11 (nI 3)
  else cm_enter M r k I.2.1 (if 1 ≤ P.2.1 k then M 12 ((r - 1) * 4 + I.2.2.1) else nI 0) (if 2 ≤ P.2.1 k then M 12 ((r - 1) * 4 + I.2.2.2.1) else nI 0)
def cm_move (M : fm_M) (r sh : Nat) (I : an_I) : fm_M :=
  if I.1 = 1 then fm_up M 12 ((r - 1) * 4 + I.2.1) (M 12 ((r - 1) * 4 + I.2.2.1))
  else if I.1 = 2 then fm_up M 12 ((r - 1) * 4 + I.2.1) (nI 0)
  else if I.1 = 7 then fm_up M 13 ((r - 1) * 4 + I.2.1) I.2.2.2.2
  else if I.1 = 8 then fm_up M 13 ((r - 1) * 4 + I.2.1) (M 13 ((r - 1) * 4 + I.2.2.1) + M 13 ((r - 1) * 4 + I.2.2.2.1))
  else if I.1 = 9 then fm_up M 13 ((r - 1) * 4 + I.2.1) (bI (decide (M 12 ((r - 1) * 4 + I.2.2.1) = M 12 ((r - 1) * 4 + I.2.2.2.1))))
  else if I.1 = 12 then fm_up M 8 I.2.2.1 (M 12 ((r - 1) * 4 + I.2.1))
  else if I.1 = 13 then fm_up M 12 ((r - 1) * 4 + I.2.1) (M 8 I.2.2.1)
  else if I.1 = 18 then cm_show M sh (M 13 ((r - 1) * 4 + I.2.1))
  else M
/-- one instruction; k: the callee of a CALL; c: the cell that a field or a lock is of -/
def cm_per (P : pr_T) (M : fm_M) (r md sh t k c : Nat) (I : an_I) (ft : Int32) : fm_M :=
  if I.1 = 3 ∨ I.1 = 4 ∨ I.1 = 5 ∨ I.1 = 6 then cm_wof M r I.1 I.2.1 I.2.2.1 I.2.2.2.1 c
  else if I.1 = 10 ∨ I.1 = 11 then (if ft = nI 2 then M else cm_cnt M I.1 c)
  else if I.1 = 16 then cm_call P M r k I
  else if I.1 = 17 then cm_leave M r t (M 12 ((r - 1) * 4 + I.2.1))
  else if I.1 = 14 then fm_up M 10 (r - 1) I.2.2.2.2
  else if I.1 = 15 then (if M 13 ((r - 1) * 4 + I.2.1) = 0 then fm_up M 10 (r - 1) I.2.2.2.2 else M)
  else if I.1 = 0 then (if ft = nI 1 then fm_up (cm_emp M (401 + (r - 1) * 4 + I.2.1)) 12 ((r - 1) * 4 + I.2.1) (nI (401 + (r - 1) * 4 + I.2.1)) else fm_up (cm_emp (fm_up M 4 14 (nI (md + 1))) (md + 1)) 12 ((r - 1) * 4 + I.2.1) (nI (md + 1)))
  else cm_move M r sh I
theorem cm_e_o {M : fm_M} {c a j : Nat} (h : a ≠ 5) (k : a ≠ 6) : ∀ f, cm_e M c f a j = M a j := by
  intro f
  induction f with
  | zero => rfl
  | succ f ih => simp only [cm_e]; rw [fm_up_a k, fm_up_a h]; exact ih
theorem cm_emp_o {M : fm_M} {c a j : Nat} (h : a ≠ 5) (k : a ≠ 6) (l : a ≠ 7) : cm_emp M c a j = M a j := by
  unfold cm_emp
  rw [fm_up_a l]
  exact cm_e_o h k 2
theorem cP_m {M M' : fm_M} {P : pr_T} (h : cP M P) (k : ∀ a j, 15 ≤ a → M' a j = M a j) : cP M' P :=
  cP_cg h (fun a j q => k a j (by obtain ⟨n, t, h1, h2, e⟩ := q; omega))
