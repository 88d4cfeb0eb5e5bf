/-! the reference: fates -/
/-- instruction j lets r be taken apart -/
def fa_a1 (P : pr_T) (m r k j : Nat) : Prop := ¬ fa_hd (fa_k P (P.2.2 m j)) (P.2.2 m j) r ∧ (fa_wk (P.2.2 m j) r → ¬ dm_R (P.1 m) (P.2.2 m) k j)
theorem lt_iff {p : Nat → Prop} {i : Nat} {b b1 : Bool} (hb : b = true ↔ ∀ j, j < i → p j) (ht : b = true) (h1 : b1 = true ↔ p i) : b1 = true ↔ ∀ j, j < i + 1 → p j := by
  constructor
  · intro z j hj
    by_cases e : j = i
    · rw [e]; exact h1.mp z
    · exact hb.mp ht j (by omega)
  · intro z
    exact h1.mpr (z i (by omega))
/-- the base of a pair: its object -/
def fa_pb (P : pr_T) (m : Nat) (es : Nat → Prop) (i : Nat) : Prop := ∃ k, P.2.1 m ≤ (P.2.2 m i).2.1 ∧ fa_nw (P.1 m) (P.2.2 m) (P.2.2 m i).2.1 k ∧ ¬ fa_ap P m (P.2.2 m i).2.1 k ∧ es k ∧ ¬ dm_R (P.1 m) (P.2.2 m) k i
/-- whether instruction i is of r -/
abbrev fa_its (I : an_I) (r : Nat) : Prop := if I.1 = 0 then I.2.1 = r else fa_wk I r
theorem fa_A_its {P : pr_T} (hw : pr_wf P) {m i : Nat} (hm : m < 5) (hi : i < P.1 m) : fa_A P m i ↔ ∃ r, r < 4 ∧ fa_its (P.2.2 m i) r ∧ ∃ k, fa_ap P m r k := by
  have wI := (hw m hm).2.2
  constructor
  · rintro ⟨r, k, h1, h2⟩
    have hx := (wI k h1.2.1.1).2.1
    have hr := h1.2.1.2.2.1
    refine ⟨r, by omega, ?_, k, h1⟩
    unfold fa_its
    by_cases e : (P.2.2 m i).1 = 0
    · rw [if_pos e]
      rcases h2 with h2 | h2
      · rw [h2]; exact hr
      · rcases h2 with ⟨h2, _⟩ | ⟨h2, _⟩ | ⟨h2, _⟩ <;> omega
    · rw [if_neg e]
      rcases h2 with h2 | h2
      · rw [h2] at e; exact absurd h1.2.1.2.1 e
      · exact h2
  · rintro ⟨r, _, h2, k, h3⟩
    unfold fa_its at h2
    by_cases e : (P.2.2 m i).1 = 0
    · rw [if_pos e] at h2
      exact ⟨r, k, h3, Or.inl (h3.2.1.2.2.2 i hi ⟨Or.inl (by omega), h2⟩)⟩
    · rw [if_neg e] at h2
      exact ⟨r, k, h3, Or.inr h2⟩
abbrev rEs (P : pr_T) (M : fm_M) (m : Nat) : Nat → Prop := fun k => bt (an_rc (rA M m).2.1 an_W) k = false ∧ bt (an_rc (rA M m).2.1 (an_as (P.2.1 m) ||| (rA M m).2.2)) k = false
theorem rEs_v {P : pr_T} {M M1 : fm_M} {m k : Nat} (h : rA M1 m = rA M m) : (if bt (an_rc (rA M1 m).2.1 an_W) k = true then nI 2 else bI (bt (an_rc (rA M1 m).2.1 (an_as (P.2.1 m) ||| (rA M1 m).2.2)) k)) = 0 ↔ rEs P M m k := by
  rw [h]
  unfold rEs
  cases bt (an_rc (rA M m).2.1 an_W) k <;> cases bt (an_rc (rA M m).2.1 (an_as (P.2.1 m) ||| (rA M m).2.2)) k <;> decide
