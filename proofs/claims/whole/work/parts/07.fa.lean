/-! FATES: what milling makes of each instruction -/
/-- instruction I sets reference r -/
abbrev fa_df (I : an_I) (r : Nat) : Prop := (I.1 ≤ 3 ∨ I.1 = 13 ∨ I.1 = 16) ∧ I.2.1 = r
/-- it works on the object in r -/
abbrev fa_wk (I : an_I) (r : Nat) : Prop := ((I.1 = 3 ∨ I.1 = 5) ∧ I.2.2.1 = r) ∨ ((I.1 = 4 ∨ I.1 = 6 ∨ I.1 = 10 ∨ I.1 = 11) ∧ I.2.1 = r) ∨ (I.1 = 9 ∧ (I.2.2.1 = r ∨ I.2.2.2.1 = r))
/-- it hands on what is in r; k: the callee's inputs -/
abbrev fa_hd (k : Nat) (I : an_I) (r : Nat) : Prop := ((I.1 = 1 ∨ I.1 = 4) ∧ I.2.2.1 = r) ∨ ((I.1 = 12 ∨ I.1 = 17) ∧ I.2.1 = r) ∨ (I.1 = 16 ∧ ((1 ≤ k ∧ I.2.2.1 = r) ∨ (2 ≤ k ∧ I.2.2.2.1 = r)))
/-- the inputs of an instruction's callee -/
def fa_k (P : pr_T) (I : an_I) : Nat := if I.1 = 16 then P.2.1 I.2.2.2.2.toNatClampNeg else 0
/-- the NEW at k alone sets r -/
def fa_nw (n : Nat) (c : Nat → an_I) (r k : Nat) : Prop := k < n ∧ (c k).1 = 0 ∧ (c k).2.1 = r ∧ ∀ i, i < n → fa_df (c i) r → i = k
theorem fa_nw_uq {n : Nat} {c : Nat → an_I} {r k l : Nat} (h : fa_nw n c r k) (g : fa_nw n c r l) : k = l :=
  g.2.2.2 k h.1 ⟨Or.inl (by have := h.2.1; omega), h.2.2.1⟩
/-- r, made at k, is taken apart in method m -/
def fa_ap (P : pr_T) (m r k : Nat) : Prop := P.2.1 m ≤ r ∧ fa_nw (P.1 m) (P.2.2 m) r k ∧ ∀ i, i < P.1 m → ¬ fa_hd (fa_k P (P.2.2 m i)) (P.2.2 m i) r ∧ (fa_wk (P.2.2 m i) r → ¬ dm_R (P.1 m) (P.2.2 m) k i)
/-- what no pair has inside -/
abbrev fa_in (I : an_I) : Prop := I.1 = 0 ∨ I.1 = 10 ∨ I.1 = 11 ∨ I.1 = 14 ∨ I.1 = 15 ∨ I.1 = 17 ∨ I.1 = 16
/-- LOCK at i and UNLOCK at j are a pair; es k: the object made at k stays unseen -/
def fa_pr (P : pr_T) (m : Nat) (es : Nat → Prop) (i j : Nat) : Prop :=
  i < j ∧ j < P.1 m ∧ (P.2.2 m i).1 = 10 ∧ (P.2.2 m j).1 = 11 ∧ (P.2.2 m i).2.1 = (P.2.2 m j).2.1 ∧
  (∃ k, P.2.1 m ≤ (P.2.2 m i).2.1 ∧ fa_nw (P.1 m) (P.2.2 m) (P.2.2 m i).2.1 k ∧ ¬ fa_ap P m (P.2.2 m i).2.1 k ∧ es k ∧ ¬ dm_R (P.1 m) (P.2.2 m) k i) ∧
  (∀ q, i < q → q < j → ¬ fa_in (P.2.2 m q)) ∧
  (∀ q, q < P.1 m → ((P.2.2 m q).1 = 14 ∨ (P.2.2 m q).1 = 15) → ¬ (nI i < (P.2.2 m q).2.2.2.2 ∧ (P.2.2 m q).2.2.2.2 ≤ nI j))
def fa_A (P : pr_T) (m i : Nat) : Prop := ∃ r k, fa_ap P m r k ∧ (i = k ∨ fa_wk (P.2.2 m i) r)
def fa_B (P : pr_T) (m : Nat) (es : Nat → Prop) (i : Nat) : Prop := ∃ j, fa_pr P m es i j ∨ fa_pr P m es j i
/-- the fate of instruction i -/
def fa_is (P : pr_T) (m : Nat) (es : Nat → Prop) (i : Nat) (v : Int32) : Prop := (fa_A P m i → v = 1) ∧ (¬ fa_A P m i → fa_B P m es i → v = 2) ∧ (¬ fa_A P m i → ¬ fa_B P m es i → v = 0)
theorem fa_is_uq {P : pr_T} {m : Nat} {es : Nat → Prop} {i : Nat} {v w : Int32} (h : fa_is P m es i v) (k : fa_is P m es i w) : v = w := by
  by_cases a : fa_A P m i
  · rw [h.1 a, k.1 a]
  · by_cases b : fa_B P m es i
    · rw [h.2.1 a b, k.2.1 a b]
    · rw [h.2.2 a b, k.2.2 a b]
/-- an object made at k stays unseen -/
def fa_es (σ : an_T) (k0 : Nat) (k : Nat) : Prop := bt (an_rc σ.2.1 an_W) k = false ∧ ¬ (an_R σ.2.1 σ.2.2 k ∨ ∃ p, p < k0 ∧ an_R σ.2.1 (an_1 (24 + p)) k)
/-- of a pair both have the fate 2 only if they are LOCK and UNLOCK -/
theorem fa_is_2 {P : pr_T} {m : Nat} {es : Nat → Prop} {i : Nat} {v : Int32} (h : fa_is P m es i v) (k : v = 2) : (P.2.2 m i).1 = 10 ∨ (P.2.2 m i).1 = 11 := by
  by_cases a : fa_A P m i
  · have := h.1 a
    rw [k] at this
    exact absurd this (by decide)
  · by_cases b : fa_B P m es i
    · obtain ⟨j, b | b⟩ := b
      · exact Or.inl b.2.2.1
      · exact Or.inr b.2.2.2.1
    · have := h.2.2 a b
      rw [k] at this
      exact absurd this (by decide)
theorem fa_is_1 {P : pr_T} {m : Nat} {es : Nat → Prop} {i : Nat} {v : Int32} (h : fa_is P m es i v) : v = 1 ↔ fa_A P m i := by
  constructor
  · intro k
    apply Classical.byContradiction
    intro a
    by_cases b : fa_B P m es i
    · have := h.2.1 a b
      rw [k] at this
      exact absurd this (by decide)
    · have := h.2.2 a b
      rw [k] at this
      exact absurd this (by decide)
  · exact h.1
