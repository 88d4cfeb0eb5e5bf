/-! THE REFERENCE: rows of its own -/
theorem fm_addb {a : Nat} {x : Int32} {b : Nat} : nI a + bI (bt x b) = nI (a + an_bit x b) := by
  unfold an_bit
  cases h : bt x b
  · rw [if_neg (by decide)]
    rw [bI_f, Nat.add_zero, ← nI_0, nI_add]
    rfl
  · rw [if_pos rfl, bI_t, nI_1]
/-- what the summaries say of argument p of method n -/
def rE (P : pr_T) (m : Nat) (E : an_E) (M : fm_M) : Prop :=
  E.1 = P.2.1 ∧ (∀ n p, n ≤ m ∨ P.1 n = 0 → E.2.1 n p = 2 ∧ E.2.2 n p = true) ∧
  ∀ n, m < n → n < 5 → P.1 n ≠ 0 → ∀ p, p < P.2.1 n → M 11 (2 * n + p) = nI (E.2.1 n p) ∧ E.2.1 n p ≤ 2 ∧ E.2.2 n p = (decide (E.2.1 n p = 2) || an_mx (rA M n) p)
theorem rE_S {P : pr_T} {m : Nat} {E : an_E} {M M' : fm_M} {σ : an_T} (h : rE P m E M) (k : rS m M M' σ) : rE P m E M' := by
  refine ⟨h.1, h.2.1, fun n h1 h2 h3 p h4 => ?_⟩
  rw [rS_o (by omega) k, k.2 11 _ (fun w => by rcases w with w | w | w <;> omega)]
  exact h.2.2 n h1 h2 h3 p h4
theorem rE_2 {P : pr_T} {m : Nat} {E : an_E} {M : fm_M} (h : rE P m E M) {k p : Nat} (hk : k < 5) (hp : p < P.2.1 k) : E.2.1 k p ≤ 2 := by
  by_cases q : k ≤ m ∨ P.1 k = 0
  · rw [(h.2.1 k p q).1]; omega
  · exact (h.2.2 k (by omega) hk (by omega) p hp).2.1
theorem rE_s {P : pr_T} {m : Nat} {E : an_E} {M : fm_M} (h : rE P m E M) {k p : Nat} (hk : k < 5) (hp : p < P.2.1 k) (q : ¬ (k ≤ m ∨ P.1 k = 0)) : M 11 (2 * k + p) = nI (E.2.1 k p) :=
  (h.2.2 k (by omega) hk (by omega) p hp).1
theorem rE_k2 {P : pr_T} {m : Nat} {E : an_E} {M : fm_M} (h : rE P m E M) {k p : Nat} (hk : k < 5) (hp : p < P.2.1 k) (e : E.2.1 k p = 2) : E.2.2 k p = true := by
  by_cases q : k ≤ m ∨ P.1 k = 0
  · exact (h.2.1 k p q).2
  · rw [(h.2.2 k (by omega) hk (by omega) p hp).2.2, decide_eq_true e, Bool.true_or]
theorem rE_x {P : pr_T} {m : Nat} {E : an_E} {M : fm_M} (h : rE P m E M) {k p : Nat} (hk : k < 5) (hp : p < P.2.1 k) (e : ¬ E.2.1 k p = 2) : E.2.2 k p = an_mx (rA M k) p := by
  have q : ¬ (k ≤ m ∨ P.1 k = 0) := fun q => e (h.2.1 k p q).1
  rw [(h.2.2 k (by omega) hk (by omega) p hp).2.2, decide_eq_false e, Bool.false_or]
def an_as (k : Nat) : Int32 := if k = 0 then 0 else if k = 1 then an_1 24 else an_1 24 ||| an_1 25
theorem an_as_c : (16777216 : Int32) = an_1 24 ∧ (50331648 : Int32) = an_1 24 ||| an_1 25 := by decide +kernel
theorem an_rt_t {h : Nat → Nat → Int32} {s : Int32} {o : Nat} (e : bt (an_rt h s o) o = true) : an_rt h s (o + 1) = an_rt h s o ||| h o 0 ||| h o 1 := if_pos e
theorem an_rt_f {h : Nat → Nat → Int32} {s : Int32} {o : Nat} (e : bt (an_rt h s o) o = false) : an_rt h s (o + 1) = an_rt h s o := if_neg (by rw [e]; decide)
