/-! the analysis in the class: its beginning, what it knows of the callees -/
theorem an_0or (s : Int32) : (0 ||| s) = s := an_eq (an_or_sub (an_sub_0 s) (an_sub_rf s)) (an_sub_orr _ _)
theorem an_or0 (s : Int32) : (s ||| 0) = s := an_eq (an_or_sub (an_sub_rf s) (an_sub_0 s)) (an_sub_orl _ _)
theorem cA_up {M : fm_M} {m a j : Nat} {x : Int32} (h1 : a ≠ 22 + 15 * m) (h2 : a ≠ 24 + 15 * m) (h3 : a ≠ 25 + 15 * m) (h4 : ¬ (a = 21 + 15 * m ∧ j = 4)) : cA (fm_up M a j x) m = cA M m := by
  refine Prod.ext (funext fun r => ?_) (Prod.ext (funext fun b => funext fun g => ?_) ?_)
  · show (if r < 4 then fm_up M a j x (kFm m) r else 0) = (if r < 4 then M (kFm m) r else 0)
    rw [fm_up_a (fun z => h1 z.symm)]
  · show (if b < 27 ∧ g < 2 then fm_up M a j x (kFr m g) b else 0) = (if b < 27 ∧ g < 2 then M (kFr m g) b else 0)
    by_cases z : b < 27 ∧ g < 2
    · rw [if_pos z, if_pos z, fm_up_a (fun w => by have : 24 + 15 * m + g = a := w; omega)]
    · rw [if_neg z, if_neg z]
  · exact fm_up_n (fun z => h4 ⟨z.1.symm, z.2.symm⟩)
/-- with p parameters set -/
def an_s1 (p : Nat) : an_T := (fun r => if r < p then an_1 (24 + r) else 0, fun a g => if g < 2 then (if 24 ≤ a ∧ a < 24 + p then an_1 a else 0) else 0, 0)
theorem an_s1_0 : an_s1 0 = an_z := by
  refine Prod.ext (funext fun r => (if_neg (by omega) : (if r < 0 then an_1 (24 + r) else 0) = (0 : Int32))) (Prod.ext (funext fun a => funext fun g => ?_) rfl)
  show (if g < 2 then (if 24 ≤ a ∧ a < 24 + 0 then an_1 a else 0) else 0) = (0 : Int32)
  split
  · exact if_neg (by omega)
  · rfl
theorem an_s1_s {p : Nat} (hp : p < 2) : an_h (an_m (an_s1 p) p (an_1 (24 + p))) (an_1 (24 + p)) an_al (an_1 (24 + p)) = an_s1 (p + 1) := by
  refine Prod.ext (funext fun r => ?_) (Prod.ext (funext fun a => funext fun g => ?_) rfl)
  · show (if r = p then (if r < p then an_1 (24 + r) else 0) ||| an_1 (24 + p) else (if r < p then an_1 (24 + r) else 0)) = (if r < p + 1 then an_1 (24 + r) else 0)
    by_cases z : r = p
    · subst z
      rw [if_pos rfl, if_neg (by omega), if_pos (by omega), an_0or]
    · rw [if_neg z]
      by_cases y : r < p
      · rw [if_pos y, if_pos (by omega)]
      · rw [if_neg y, if_neg (by omega)]
  · show (if a < 27 ∧ g < 2 ∧ bt (an_1 (24 + p)) a = true ∧ an_al a g = true then (if g < 2 then (if 24 ≤ a ∧ a < 24 + p then an_1 a else 0) else 0) ||| an_1 (24 + p) else (if g < 2 then (if 24 ≤ a ∧ a < 24 + p then an_1 a else 0) else 0)) = (if g < 2 then (if 24 ≤ a ∧ a < 24 + (p + 1) then an_1 a else 0) else 0)
    have hb : bt (an_1 (24 + p)) a = true ↔ a = 24 + p := by rw [an_1_bt (by omega), decide_eq_true_eq]
    by_cases hg : g < 2
    · simp only [if_pos hg]
      by_cases z : a = 24 + p
      · subst z
        rw [if_pos ⟨by omega, hg, hb.mpr rfl, rfl⟩, if_neg (by omega), if_pos (by omega), an_0or]
      · rw [if_neg (fun q => z (hb.mp q.2.2.1))]
        by_cases y : 24 ≤ a ∧ a < 24 + p
        · rw [if_pos y, if_pos (by omega)]
        · rw [if_neg y, if_neg (by omega)]
    · rw [if_neg (fun q => hg q.2.1), if_neg hg, if_neg hg]
theorem an_s1_W {k : Nat} (hk : k ≤ 2) : an_h (an_s1 k) an_W an_al an_W = an_s0 k := by
  refine Prod.ext rfl (Prod.ext (funext fun a => funext fun g => ?_) rfl)
  show (if a < 27 ∧ g < 2 ∧ bt an_W a = true ∧ an_al a g = true then (if g < 2 then (if 24 ≤ a ∧ a < 24 + k then an_1 a else 0) else 0) ||| an_W else (if g < 2 then (if 24 ≤ a ∧ a < 24 + k then an_1 a else 0) else 0)) = (if g < 2 then (if a = 26 then an_W else if 24 ≤ a ∧ a < 24 + k then an_1 a else 0) else 0)
  have hb : bt an_W a = true ↔ a = 26 := by rw [an_W_bt, decide_eq_true_eq]
  by_cases hg : g < 2
  · simp only [if_pos hg]
    by_cases z : a = 26
    · subst z
      rw [if_pos ⟨by omega, hg, hb.mpr rfl, rfl⟩, if_neg (by omega), if_pos rfl, an_0or]
    · rw [if_neg (fun q => z (hb.mp q.2.2.1)), if_neg z]
  · rw [if_neg (fun q => hg q.2.1), if_neg hg, if_neg hg]
/-- all that is known of m, gone -/
def cZ (M : fm_M) (m : Nat) : fm_M :=
  fm_up (fm_up (fm_up (fm_fill (fm_fill (fm_fill (fm_fill (fm_fill M (kFm m) 4 (nI 0)) (kFr m 0) 27 (nI 0)) (kFr m 1) 27 (nI 0)) (kFs m) 2 (nI 0)) (kFx m) 2 (nI 0)) (kF m) 4 (nI 0)) (kF m) 5 (nI 0)) (kF m) 6 (nI 0)
/-- the cells of the facts of m -/
def cFa (m a : Nat) : Prop := 21 + 15 * m ≤ a ∧ a < 28 + 15 * m
theorem cZ_o {M : fm_M} {m a j : Nat} (h : ¬ cFa m a) : cZ M m a j = M a j := by
  unfold cFa at h
  unfold cZ
  rw [fm_up_a (by show a ≠ 21 + 15 * m; omega), fm_up_a (by show a ≠ 21 + 15 * m; omega), fm_up_a (by show a ≠ 21 + 15 * m; omega), fm_fill_o (by show a ≠ 27 + 15 * m; omega), fm_fill_o (by show a ≠ 26 + 15 * m; omega), fm_fill_o (by show a ≠ 24 + 15 * m + 1; omega), fm_fill_o (by show a ≠ 24 + 15 * m + 0; omega), fm_fill_o (by show a ≠ 22 + 15 * m; omega)]
theorem cZ_A (M : fm_M) (m : Nat) : cA (cZ M m) m = an_z := by
  refine Prod.ext (funext fun r => ?_) (Prod.ext (funext fun a => funext fun g => ?_) ?_)
  · show (if r < 4 then cZ M m (kFm m) r else 0) = (0 : Int32)
    split
    · next h =>
      unfold cZ
      rw [fm_up_a (by show 22 + 15 * m ≠ 21 + 15 * m; omega), fm_up_a (by show 22 + 15 * m ≠ 21 + 15 * m; omega), fm_up_a (by show 22 + 15 * m ≠ 21 + 15 * m; omega), fm_fill_o (by show 22 + 15 * m ≠ 27 + 15 * m; omega), fm_fill_o (by show 22 + 15 * m ≠ 26 + 15 * m; omega), fm_fill_o (by show 22 + 15 * m ≠ 24 + 15 * m + 1; omega), fm_fill_o (by show 22 + 15 * m ≠ 24 + 15 * m + 0; omega), fm_fill_i h]
      rfl
    · rfl
  · show (if a < 27 ∧ g < 2 then cZ M m (kFr m g) a else 0) = (0 : Int32)
    split
    · next h =>
      unfold cZ
      rcases (by omega : g = 0 ∨ g = 1) with e | e <;> subst e
      · rw [fm_up_a (by show 24 + 15 * m + 0 ≠ 21 + 15 * m; omega), fm_up_a (by show 24 + 15 * m + 0 ≠ 21 + 15 * m; omega), fm_up_a (by show 24 + 15 * m + 0 ≠ 21 + 15 * m; omega), fm_fill_o (by show 24 + 15 * m + 0 ≠ 27 + 15 * m; omega), fm_fill_o (by show 24 + 15 * m + 0 ≠ 26 + 15 * m; omega), fm_fill_o (by show 24 + 15 * m + 0 ≠ 24 + 15 * m + 1; omega), fm_fill_i h.1]
        rfl
      · rw [fm_up_a (by show 24 + 15 * m + 1 ≠ 21 + 15 * m; omega), fm_up_a (by show 24 + 15 * m + 1 ≠ 21 + 15 * m; omega), fm_up_a (by show 24 + 15 * m + 1 ≠ 21 + 15 * m; omega), fm_fill_o (by show 24 + 15 * m + 1 ≠ 27 + 15 * m; omega), fm_fill_o (by show 24 + 15 * m + 1 ≠ 26 + 15 * m; omega), fm_fill_i h.1]
        rfl
    · rfl
  · show cZ M m (kF m) 4 = (0 : Int32)
    unfold cZ
    rw [fm_up_b (by omega), fm_up_b (by omega), fm_up_s]
    rfl
theorem cZ_s {M : fm_M} {m p : Nat} (h : p < 2) : cZ M m (kFs m) p = 0 := by
  unfold cZ
  rw [fm_up_a (by show 26 + 15 * m ≠ 21 + 15 * m; omega), fm_up_a (by show 26 + 15 * m ≠ 21 + 15 * m; omega), fm_up_a (by show 26 + 15 * m ≠ 21 + 15 * m; omega), fm_fill_o (by show 26 + 15 * m ≠ 27 + 15 * m; omega), fm_fill_i h]
  rfl
/-- what the callees' facts say of argument p of method n -/
def cE (P : pr_T) (m : Nat) (E : an_E) (M : fm_M) : Prop :=
  E.1 = P.2.1 ∧ (∀ n p, n ≤ m ∨ P.1 n = 0 → E.2.1 n p = 2 ∧ E.2.2 n p = true) ∧
  ∀ n, m < n → n < 5 → P.1 n ≠ 0 → ∀ p, p < P.2.1 n → M (kFs n) p = nI (E.2.1 n p) ∧ E.2.1 n p ≤ 2 ∧ ∃ b, M (kFx n) p = bI b ∧ E.2.2 n p = (decide (E.2.1 n p = 2) || b)
theorem cE_S {P : pr_T} {m : Nat} {E : an_E} {M M' : fm_M} {σ : an_T} (h : cE P m E M) (k : cS m M M' σ) : cE P m E M' := by
  refine ⟨h.1, h.2.1, fun n h1 h2 h3 p h4 => ?_⟩
  obtain ⟨a, b, c⟩ := h.2.2 n h1 h2 h3 p h4
  rw [← cS_o k (a := kFs n) (j := p) (by show 26 + 15 * n ≠ _; omega) (by show 26 + 15 * n ≠ _; omega) (by show 26 + 15 * n ≠ _; omega) (by show 26 + 15 * n ≠ _; omega)] at a
  rw [← cS_o k (a := kFx n) (j := p) (by show 27 + 15 * n ≠ _; omega) (by show 27 + 15 * n ≠ _; omega) (by show 27 + 15 * n ≠ _; omega) (by show 27 + 15 * n ≠ _; omega)] at c
  exact ⟨a, b, c⟩
