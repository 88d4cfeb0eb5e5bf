/-! the reference: dominance in its open rows -/
section DMH
variable {n : Nat} {c : Nat → an_I} {i k : Nat} {o : Nat → Bool} {b : Bool} {M M2 M3 : fm_M}
theorem fr12_up {x : Int32} {j : Nat} (h : fr12 M M2) : fr12 M (fm_up M2 12 j x) := fun a l q => (fm_up_a q).trans (h a l q)
theorem dm_i1 {v : Int32} {f : Nat → Bool} (h : ∀ q, q < k → M2 12 q = bI (f q)) (hv : v = bI (f k)) : ∀ q, q < k + 1 → fm_up M2 12 k v 12 q = bI (f q) := by
  intro q hq
  by_cases e : q = k
  · rw [e, fm_up_s, hv]
  · rw [fm_up_b e]
    exact h q (by omega)
/-- the jump's mark is set -/
def dmH (n : Nat) (c : Nat → an_I) (o : Nat → Bool) (k : Nat) (b : Bool) (M3 : fm_M) : Prop :=
  ∀ q, q < 24 → M3 12 q = bI (o q || (b && decide (((c k).1 = 14 ∨ (c k).1 = 15) ∧ (c k).2.2.2.2 = nI q ∧ q < n)))
theorem dmH_n (h : ∀ q, q < 24 → M2 12 q = bI (o q)) (hn : n ≤ 24) (k1 : b = false ∨ ¬ ((c k).1 = 14 ∨ (c k).1 = 15) ∨ ¬ (0 ≤ (c k).2.2.2.2 ∧ (c k).2.2.2.2 < nI n)) : dmH n c o k b M2 := by
  intro q hq
  rw [h q hq]
  have e : (b && decide (((c k).1 = 14 ∨ (c k).1 = 15) ∧ (c k).2.2.2.2 = nI q ∧ q < n)) = false := by
    rcases k1 with k1 | k1 | k1
    · rw [k1, Bool.false_and]
    · rw [decide_eq_false (fun z => k1 z.1), Bool.and_false]
    · rw [decide_eq_false (fun z => k1 (by rw [z.2.1]; exact ⟨nI_pos' (by omega), nI_lt z.2.2 (by omega)⟩)), Bool.and_false]
  rw [e, Bool.or_false]
theorem dmH_y {l : Nat} (h : ∀ q, q < 24 → M2 12 q = bI (o q)) (hn : n ≤ 24) (hb : b = true) (hj : (c k).1 = 14 ∨ (c k).1 = 15) (el : (c k).2.2.2.2 = nI l) (hl : l < n) : dmH n c o k b (fm_up M2 12 l (nI 1)) := by
  intro q hq
  by_cases e : q = l
  · rw [e, fm_up_s, hb, decide_eq_true ⟨hj, el, hl⟩, Bool.true_and, Bool.or_true]
    rfl
  · rw [fm_up_b e, h q hq, decide_eq_false (fun z => e ((nI_eq (by omega) (by omega)).mp (el.symm.trans z.2.1)).symm), Bool.and_false, Bool.or_false]
theorem dmH_tk (h : dmH n c o k b M3) (hb : b = true ↔ (o k = true ∧ k ≠ i)) {M4 : fm_M} (h4 : ∀ q, q < 24 → M4 12 q = if b = true ∧ (c k).1 ≠ 14 ∧ (c k).1 ≠ 17 ∧ k + 1 < n ∧ q = k + 1 then 1 else M3 12 q) : ∀ q, q < 24 → M4 12 q = bI (dm_tk n c i o k q) := by
  intro q hq
  rw [h4 q hq]
  have e : dm_tk n c i o k q = (o q || (b && decide (dm_e n c k q))) := by
    unfold dm_tk
    congr 1
    have e2 : (o k && decide (k ≠ i)) = b := by
      cases hbb : b
      · cases h1 : (o k && decide (k ≠ i))
        · rfl
        · rw [Bool.and_eq_true, decide_eq_true_eq] at h1
          exact absurd (hb.mpr h1) (by rw [hbb]; decide)
      · have := hb.mp hbb
        rw [this.1, decide_eq_true this.2]
        rfl
    rw [e2]
  rw [e]
  by_cases z : b = true ∧ (c k).1 ≠ 14 ∧ (c k).1 ≠ 17 ∧ k + 1 < n ∧ q = k + 1
  · rw [if_pos z, z.1, decide_eq_true ⟨by omega, Or.inl ⟨z.2.1, z.2.2.1, z.2.2.2.2⟩⟩, Bool.true_and, Bool.or_true]
    rfl
  · rw [if_neg z, h q hq]
    congr 2
    cases hbb : b
    · rfl
    · rw [Bool.true_and, Bool.true_and]
      congr 1
      apply propext
      constructor
      · rintro ⟨h1, h2, h3⟩
        exact ⟨h3, Or.inr ⟨h1, h2⟩⟩
      · rintro ⟨h1, ⟨h2, h3, h5⟩ | ⟨h2, h3⟩⟩
        · exact absurd ⟨hbb, h2, h3, by omega, h5⟩ z
        · exact ⟨h2, h3, h1⟩
theorem dmH_2n (h : dmH n c o k b M3) (hb : b = true ↔ (o k = true ∧ k ≠ i)) (k1 : b = false ∨ (c k).1 = 14 ∨ (c k).1 = 17 ∨ n ≤ k + 1) : ∀ q, q < 24 → M3 12 q = bI (dm_tk n c i o k q) :=
  dmH_tk h hb (fun q _ => (if_neg (by
    rintro ⟨z1, z2, z3, z4, _⟩
    rcases k1 with k1 | k1 | k1 | k1
    · rw [k1] at z1; exact absurd z1 (by decide)
    · exact z2 k1
    · exact z3 k1
    · omega)).symm)
theorem dmH_2y (h : dmH n c o k b M3) (hb : b = true ↔ (o k = true ∧ k ≠ i)) (h1 : b = true) (h2 : (c k).1 ≠ 14) (h3 : (c k).1 ≠ 17) (h4 : k + 1 < n) : ∀ q, q < 24 → fm_up M3 12 (k + 1) (nI 1) 12 q = bI (dm_tk n c i o k q) :=
  dmH_tk h hb (fun q _ => by
    by_cases e : q = k + 1
    · rw [e, fm_up_s, if_pos ⟨h1, h2, h3, h4, rfl⟩]; rfl
    · rw [fm_up_b e, if_neg (fun z => e z.2.2.2.2)])
end DMH
