/-! THE REFERENCE'S MACHINE: what its methods do to the memory. Cell 0: running 14, made 22, failure 24, shows 25, done 26, locks 27; 13 method, 14 place, 15 goal, 16 refs, 17 ints, 18 parts, 19 objects, 20 globals, 21 shown, 22 fates -/
def rm_z (M : fm_M) (b : Nat) : Nat → fm_M
  | 0 => M
  | v + 1 => fm_up (fm_up (rm_z M b v) 16 (b + v) (nI 0)) 17 (b + v) (nI 0)
def rm_enter (M : fm_M) (k0 k m t : Nat) (x y : Int32) : fm_M :=
  fm_up (fm_fz (fm_up (fm_up (rm_z (fm_up (fm_up (fm_up M 13 k (nI m)) 14 k (nI 0)) 15 k (nI t)) (4 * k) 4) 16 (4 * k) (if 0 < k0 then x else nI 0)) 16 (4 * k + 1) (if 1 < k0 then y else nI 0)) 18 (20 * k) 20 (nI 0)) 0 14 (nI (k + 1))
def rm_leave (M : fm_M) (r t : Nat) (v : Int32) : fm_M := if r = 1 then fm_up M 0 14 (nI (r - 1)) else fm_up (fm_up M 0 14 (nI (r - 1))) 16 (4 * (r - 1 - 1) + t) v
/-- field and lock instructions on the parts of a reference (a = 18) or on an object (a = 19), which begin at b -/
def rm_fl (M : fm_M) (r a b : Nat) (I : an_I) : fm_M :=
  if I.1 = 3 then fm_up M 16 (4 * (r - 1) + I.2.1) (M a (b + I.2.2.2.1))
  else if I.1 = 5 then fm_up M 17 (4 * (r - 1) + I.2.1) (M a (b + I.2.2.2.1 + 2))
  else if I.1 = 4 then fm_up M a (b + I.2.2.2.1) (M 16 (4 * (r - 1) + I.2.2.1))
  else if I.1 = 6 then fm_up M a (b + I.2.2.2.1 + 2) (M 17 (4 * (r - 1) + I.2.2.1))
  else if I.1 = 11 ∧ M a (b + 4) = 0 then fm_up M 0 24 (nI 2)
  else fm_up (fm_up M a (b + 4) (if I.1 = 10 then M a (b + 4) + nI 1 else M a (b + 4) - nI 1)) 0 27 (M 0 27 + (if a = 18 then nI 0 else nI 1))
def rm_call (P : pr_T) (M : fm_M) (r k : Nat) (I : an_I) : fm_M :=
  if P.1 k = 0 ∨ r = 8 then fm_up M 0 24 (nI 3)
  else rm_enter M (P.2.1 k) r k I.2.1 (M 16 (4 * (r - 1) + I.2.2.1)) (M 16 (4 * (r - 1) + I.2.2.2.1))
def rm_show (M : fm_M) (sh : Nat) (v : Int32) : fm_M := fm_up (if sh < 32 then fm_up M 21 sh v else M) 0 25 (nI (sh + 1))
def rm_move (M : fm_M) (r sh t : Nat) (I : an_I) : fm_M :=
  if I.1 = 1 then fm_up M 16 (4 * (r - 1) + I.2.1) (M 16 (4 * (r - 1) + I.2.2.1))
  else if I.1 = 2 then fm_up M 16 (4 * (r - 1) + I.2.1) (nI 0)
  else if I.1 = 7 then fm_up M 17 (4 * (r - 1) + I.2.1) I.2.2.2.2
  else if I.1 = 8 then fm_up M 17 (4 * (r - 1) + I.2.1) (M 17 (4 * (r - 1) + I.2.2.1) + M 17 (4 * (r - 1) + I.2.2.2.1))
  else if I.1 = 12 then fm_up M 20 I.2.2.1 (M 16 (4 * (r - 1) + I.2.1))
  else if I.1 = 13 then fm_up M 16 (4 * (r - 1) + I.2.1) (M 20 I.2.2.1)
  else if I.1 = 14 then fm_up M 14 (r - 1) I.2.2.2.2
  else if I.1 = 15 then fm_up M 14 (r - 1) (if M 17 (4 * (r - 1) + I.2.1) = 0 then I.2.2.2.2 else M 14 (r - 1))
  else if I.1 = 17 then rm_leave M r t (M 16 (4 * (r - 1) + I.2.1))
  else rm_show M sh (M 17 (4 * (r - 1) + I.2.1))
def rm_newP (M : fm_M) (r x : Nat) : fm_M := fm_fz M 18 (5 * (4 * (r - 1) + x)) 5 (nI 0)
def rm_newO (M : fm_M) (r x md : Nat) : fm_M := fm_up (fm_fz (fm_up M 0 22 (nI (md + 1))) 19 (5 * (md + 1)) 5 (nI 0)) 16 (4 * (r - 1) + x) (nI (md + 1))
theorem rm_z_o {M : fm_M} {b a j : Nat} (h : a ≠ 16) (k : a ≠ 17) : ∀ v, rm_z M b v a j = M a j := by
  intro v
  induction v with
  | zero => rfl
  | succ v ih => simp only [rm_z]; rw [fm_up_a k, fm_up_a h]; exact ih
section RFL
variable {M : fm_M} {r a b : Nat} {I : an_I}
theorem rm_fl_3 (h : I.1 = 3) : rm_fl M r a b I = fm_up M 16 (4 * (r - 1) + I.2.1) (M a (b + I.2.2.2.1)) := if_pos h
theorem rm_fl_5 (h : I.1 = 5) : rm_fl M r a b I = fm_up M 17 (4 * (r - 1) + I.2.1) (M a (b + I.2.2.2.1 + 2)) := by
  unfold rm_fl; rw [if_neg (by omega), if_pos h]
theorem rm_fl_4 (h : I.1 = 4) : rm_fl M r a b I = fm_up M a (b + I.2.2.2.1) (M 16 (4 * (r - 1) + I.2.2.1)) := by
  unfold rm_fl; rw [if_neg (by omega), if_neg (by omega), if_pos h]
theorem rm_fl_6 (h : I.1 = 6) : rm_fl M r a b I = fm_up M a (b + I.2.2.2.1 + 2) (M 17 (4 * (r - 1) + I.2.2.1)) := by
  unfold rm_fl; rw [if_neg (by omega), if_neg (by omega), if_neg (by omega), if_pos h]
theorem rm_fl_u (h : I.1 = 11) (h0 : M a (b + 4) = 0) : rm_fl M r a b I = fm_up M 0 24 (nI 2) := by
  unfold rm_fl; rw [if_neg (by omega), if_neg (by omega), if_neg (by omega), if_neg (by omega), if_pos ⟨h, h0⟩]
theorem rm_fl_k (h : I.1 = 10) : rm_fl M r a b I = fm_up (fm_up M a (b + 4) (M a (b + 4) + nI 1)) 0 27 (M 0 27 + (if a = 18 then nI 0 else nI 1)) := by
  unfold rm_fl; rw [if_neg (by omega), if_neg (by omega), if_neg (by omega), if_neg (by omega), if_neg (fun z => by have := z.1; omega), if_pos h]
theorem rm_fl_v (h : I.1 = 11) (h0 : ¬ M a (b + 4) = 0) : rm_fl M r a b I = fm_up (fm_up M a (b + 4) (M a (b + 4) - nI 1)) 0 27 (M 0 27 + (if a = 18 then nI 0 else nI 1)) := by
  unfold rm_fl; rw [if_neg (by omega), if_neg (by omega), if_neg (by omega), if_neg (by omega), if_neg (fun z => h0 z.2), if_neg (by omega)]
end RFL
