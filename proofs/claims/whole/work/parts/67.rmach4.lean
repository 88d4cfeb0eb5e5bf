/-! THE REFERENCE'S MACHINE: a turn, turn after turn -/
def rm_dor (P : pr_T) (M : fm_M) (r m i f : Nat) : fm_M :=
  rm_do P (fm_up (fm_up M 0 26 (nI (cm_n (M 0 26) + 1))) 14 (r - 1) (nI (i + 1))) r (cm_n (M 0 25)) (cm_n (M 15 (r - 1))) (cm_n (M 0 22)) (P.2.2 m i).2.2.2.2.toNatClampNeg (cm_n (M 16 (4 * (r - 1) + rm_RR (P.2.2 m i)))) (P.2.2 m i) f
def rm_tr (P : pr_T) (F : Nat → Nat → Nat) (M : fm_M) (r m : Nat) : fm_M :=
  if 0 ≤ M 14 (r - 1) ∧ M 14 (r - 1) < nI (P.1 m) then (if cm_n (M 0 26) = 400 then fm_up M 0 24 (nI 4) else rm_dor P M r m (cm_n (M 14 (r - 1))) (F m (cm_n (M 14 (r - 1)))))
  else rm_leave M r (cm_n (M 15 (r - 1))) (nI 0)
def rm_turn (P : pr_T) (F : Nat → Nat → Nat) (M : fm_M) : fm_M := rm_tr P F M (cm_n (M 0 14)) (cm_n (M 13 (cm_n (M 0 14) - 1)))
def rm_it (P : pr_T) (F : Nat → Nat → Nat) : Nat → fm_M → fm_M
  | 0, M => M
  | t + 1, M => rm_turn P F (rm_it P F t M)
def rm_live (M : fm_M) : Prop := 0 < M 0 14 ∧ M 0 24 = 0
def rm_zero (M : fm_M) : fm_M := fm_fz (fm_up (fm_up (fm_up (fm_up (fm_up (fm_up M 0 14 (nI 0)) 0 22 (nI 0)) 0 24 (nI 0)) 0 25 (nI 0)) 0 26 (nI 0)) 0 27 (nI 0)) 20 0 4 (nI 0)
def rm_begin (P : pr_T) (M : fm_M) : fm_M := rm_enter (rm_zero M) (P.2.1 0) 0 0 0 (nI 0) (nI 0)
/-- the machine's numbers are such that a turn can be done -/
def rV (M : fm_M) : Prop := ∃ r md sh dn, M 0 14 = nI r ∧ r ≤ 8 ∧ M 0 26 = nI dn ∧ dn ≤ 400 ∧ M 0 22 = nI md ∧ md ≤ dn ∧ M 0 25 = nI sh ∧ sh ≤ dn ∧
  (0 < r → (∃ q, q < 5 ∧ M 13 (r - 1) = nI q) ∧ (∃ t, t < 4 ∧ M 15 (r - 1) = nI t) ∧ ∃ os : Nat → Nat, ∀ v, v < 4 → M 16 (4 * (r - 1) + v) = nI (os v) ∧ os v ≤ 400)
section RMO
variable {P : pr_T} {M : fm_M} {a j : Nat}
/-- what the machine leaves alone -/
def rMf (a j : Nat) : Prop := (a < 13 ∨ 22 ≤ a) ∧ (a = 0 → j < 14)
theorem rm_enter_o (h : rMf a j) {k0 k m t : Nat} {x y : Int32} : rm_enter M k0 k m t x y a j = M a j := by
  unfold rMf at h
  unfold rm_enter
  rw [fm_up_n (by omega), fm_fz_o (by omega), fm_up_n (by omega), fm_up_n (by omega), rm_z_o (by omega) (by omega), fm_up_n (by omega), fm_up_n (by omega), fm_up_n (by omega)]
theorem rm_leave_o (h : rMf a j) {r t : Nat} {v : Int32} : rm_leave M r t v a j = M a j := by
  unfold rMf at h
  unfold rm_leave
  split
  · rw [fm_up_n (by omega)]
  · rw [fm_up_n (by omega), fm_up_n (by omega)]
theorem rm_fl_o (h : rMf a j) {r c b : Nat} {I : an_I} (hc : c = 18 ∨ c = 19) : rm_fl M r c b I a j = M a j := by
  unfold rMf at h
  unfold rm_fl
  split
  · rw [fm_up_n (by omega)]
  split
  · rw [fm_up_n (by omega)]
  split
  · rw [fm_up_n (by omega)]
  split
  · rw [fm_up_n (by omega)]
  split
  · rw [fm_up_n (by omega)]
  · rw [fm_up_n (by omega), fm_up_n (by omega)]
theorem rm_call_o (h : rMf a j) {r k : Nat} {I : an_I} : rm_call P M r k I a j = M a j := by
  unfold rm_call
  split
  · unfold rMf at h
    rw [fm_up_n (by omega)]
  · exact rm_enter_o h
theorem rm_show_o (h : rMf a j) {sh : Nat} {v : Int32} : rm_show M sh v a j = M a j := by
  unfold rMf at h
  unfold rm_show
  rw [fm_up_n (by omega)]
  split
  · rw [fm_up_n (by omega)]
  · rfl
theorem rm_move_o (h : rMf a j) {r sh t : Nat} {I : an_I} : rm_move M r sh t I a j = M a j := by
  have h0 := h
  unfold rMf at h
  unfold rm_move
  split
  · rw [fm_up_n (by omega)]
  split
  · rw [fm_up_n (by omega)]
  split
  · rw [fm_up_n (by omega)]
  split
  · rw [fm_up_n (by omega)]
  split
  · rw [fm_up_n (by omega)]
  split
  · rw [fm_up_n (by omega)]
  split
  · rw [fm_up_n (by omega)]
  split
  · rw [fm_up_n (by omega)]
  split
  · exact rm_leave_o h0
  · exact rm_show_o h0
theorem rm_do_o (h : rMf a j) {r sh t md k ob f : Nat} {I : an_I} : rm_do P M r sh t md k ob I f a j = M a j := by
  have h0 := h
  unfold rMf at h
  unfold rm_do
  split
  · split
    · unfold rm_newP; rw [fm_fz_o (by omega)]
    · unfold rm_newO; rw [fm_up_n (by omega), fm_fz_o (by omega), fm_up_n (by omega)]
  split
  · rw [fm_up_n (by omega)]
  split
  · split
    · exact rm_fl_o h0 (Or.inl rfl)
    split
    · rw [fm_up_n (by omega)]
    · exact rm_fl_o h0 (Or.inr rfl)
  split
  · exact rm_call_o h0
  split
  · exact rm_move_o h0
  · rfl
theorem rm_tr_o (h : rMf a j) {F : Nat → Nat → Nat} {r m : Nat} : rm_tr P F M r m a j = M a j := by
  have h0 := h
  unfold rMf at h
  unfold rm_tr
  split
  · split
    · rw [fm_up_n (by omega)]
    · unfold rm_dor
      rw [rm_do_o h0, fm_up_n (by omega), fm_up_n (by omega)]
  · exact rm_leave_o h0
theorem rm_begin_o (h : rMf a j) : rm_begin P M a j = M a j := by
  unfold rm_begin
  rw [rm_enter_o h]
  unfold rMf at h
  unfold rm_zero
  rw [fm_fz_o (by omega), fm_up_n (by omega), fm_up_n (by omega), fm_up_n (by omega), fm_up_n (by omega), fm_up_n (by omega), fm_up_n (by omega)]
theorem rm_it_o {F : Nat → Nat → Nat} (h : rMf a j) : ∀ t, rm_it P F t M a j = M a j := by
  intro t
  induction t with
  | zero => rfl
  | succ t ih => exact (rm_tr_o h).trans ih
theorem rm_turn_at {F : Nat → Nat → Nat} {r q : Nat} (hr : M 0 14 = nI r) (h8 : r ≤ 8) (hq : M 13 (r - 1) = nI q) (h5 : q < 5) : rm_turn P F M = rm_tr P F M r q := by
  unfold rm_turn
  rw [hr, cm_n_nI (by omega), hq, cm_n_nI (by omega)]
end RMO
/-- the fates that the memory holds -/
def rFt (M : fm_M) : Nat → Nat → Nat := fun m i => cm_n (M 22 (24 * m + i))
/-- the fates of the instructions before i of m -/
def rQ (P : pr_T) (ml : Bool) (M : fm_M) (m i : Nat) : Prop := ∀ n k, n < 5 → k < P.1 n → (n < m ∨ (n = m ∧ k < i)) → ∃ f, f ≤ 2 ∧ M 22 (24 * n + k) = nI f ∧ (ml = true → fa_is P n (rEs P M n) k (nI f)) ∧ (ml = false → f = 0)
/-- what a run makes ready -/
def rK (P : pr_T) (M M1 : fm_M) : Prop := rT P M1 ∧ M1 0 8 = 1 ∧ M1 0 0 = 0 ∧ ∀ a j, ¬ (8 ≤ a ∧ a ≤ 12) → a ≠ 22 → ¬ (a = 0 ∧ (j = 0 ∨ j = 8)) → M1 a j = M a j
theorem fa_is_le {P : pr_T} {m : Nat} {es : Nat → Prop} {i : Nat} {v : Int32} (h : fa_is P m es i v) : ∃ f, f ≤ 2 ∧ v = nI f := by
  by_cases a : fa_A P m i
  · exact ⟨1, by omega, h.1 a⟩
  · by_cases b : fa_B P m es i
    · exact ⟨2, by omega, h.2.1 a b⟩
    · exact ⟨0, by omega, h.2.2 a b⟩
theorem rK_P {P : pr_T} {M M1 : fm_M} (h : rK P M M1) (k : rP M P) : rP M1 P := rP_cg k (fun a j h1 h2 => h.2.2.2 a j (by omega) (by omega) (by omega))
theorem rEs_22 {P : pr_T} {M M1 : fm_M} {m : Nat} (h : ∀ a j, 8 ≤ a → a ≤ 10 → M1 a j = M a j) : rEs P M1 m = rEs P M m := by
  unfold rEs
  rw [rA_cg (M := M) (M' := M1) (m := m) (fun a j q => h a j (by unfold rW at q; omega) (by unfold rW at q; omega))]
theorem rQ_cg {P : pr_T} {ml : Bool} {M M1 : fm_M} {m i : Nat} (h : rQ P ml M m i) (k : ∀ a j, 8 ≤ a → a ≤ 10 ∨ a = 22 → M1 a j = M a j) : rQ P ml M1 m i := by
  intro n l h1 h2 h3
  obtain ⟨f, f1, f2, f3, f4⟩ := h n l h1 h2 h3
  refine ⟨f, f1, (k 22 _ (by omega) (by omega)).trans f2, fun z => ?_, f4⟩
  rw [rEs_22 (M := M) (fun a j q1 q2 => k a j q1 (Or.inl q2))]
  exact f3 z
theorem rK_22 {P : pr_T} {M M1 : fm_M} {c : Nat} {v : Int32} (hi : ∀ n, n < 5 → P.2.1 n ≤ 2) (h : rK P M M1) : rK P M (fm_up M1 22 c v) := by
  refine ⟨rT_cg hi h.1 (fun a j h1 h2 => fm_up_a (by omega)), ?_, ?_, fun a j h1 h2 h3 => ?_⟩
  · rw [fm_up_a (by decide)]; exact h.2.1
  · rw [fm_up_a (by decide)]; exact h.2.2.1
  · rw [fm_up_a h2]; exact h.2.2.2 a j h1 h2 h3
theorem rK_12 {P : pr_T} {M M1 M2 : fm_M} (hi : ∀ n, n < 5 → P.2.1 n ≤ 2) (h : rK P M M1) (k : fr12 M1 M2) : rK P M M2 := by
  refine ⟨rT_cg hi h.1 (fun a j h1 h2 => k a j (by omega)), ?_, ?_, fun a j h1 h2 h3 => ?_⟩
  · rw [k 0 8 (by decide)]; exact h.2.1
  · rw [k 0 0 (by decide)]; exact h.2.2.1
  · rw [k a j (by omega)]; exact h.2.2.2 a j h1 h2 h3
theorem rK_0 {P : pr_T} {M M1 : fm_M} (h : rT P M1 ∧ M1 0 8 = 1 ∧ rFr (fm_up M 0 0 (nI 0)) M1) : rK P M M1 := by
  refine ⟨h.1, h.2.1, ?_, fun a j h1 h2 h3 => ?_⟩
  · rw [h.2.2 0 0 (by omega) (by omega), fm_up_s]; rfl
  · rw [h.2.2 a j (by omega) (by omega), fm_up_n (by omega)]
theorem rQ_s {P : pr_T} {ml : Bool} {M M1 : fm_M} {m i : Nat} {v : Int32} (hw : pr_wf P) (hm : m < 5) (h : rQ P ml M m i) (k : fr12 M M1) (f0 : Nat) (hf : f0 ≤ 2) (e : v = nI f0) (h1 : ml = true → fa_is P m (rEs P M m) i v) (h2 : ml = false → f0 = 0) : rQ P ml (fm_up M1 22 (24 * m + i) v) m (i + 1) := by
  intro n l n1 n2 n3
  have ee : ∀ n, rEs P (fm_up M1 22 (24 * m + i) v) n = rEs P M n := fun n => rEs_22 (fun a j q1 q2 => by rw [fm_up_a (by omega)]; exact k a j (by omega))
  rw [ee]
  have a1 := (hw n n1).1
  by_cases z : n = m ∧ l = i
  · obtain ⟨rfl, rfl⟩ := z
    exact ⟨f0, hf, by rw [fm_up_s]; exact e, fun z => e ▸ h1 z, h2⟩
  · rw [fm_up_b (by by_cases y : i < 24 <;> omega), k 22 _ (by decide)]
    exact h n l n1 n2 (by omega)
theorem rQ_n {P : pr_T} {ml : Bool} {M : fm_M} {m i : Nat} (h : rQ P ml M m i) (e : i = P.1 m) : rQ P ml M (m + 1) 0 := by
  intro n l n1 n2 n3
  refine h n l n1 n2 ?_
  by_cases z : n = m
  · right; subst z; exact ⟨rfl, by omega⟩
  · left; omega
