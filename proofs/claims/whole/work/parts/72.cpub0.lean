/-! the class's program grows -/
theorem cP_put {M : fm_M} {P : pr_T} {a : Nat} {I : an_I} (hP : cP M P) (hw : pr_wf P) (ha : a < 5) (h : P.1 a < 24) : cP (cp_put M P a I) (pr_put P a I) := by
  intro m hm
  obtain ⟨h1, h2, h3⟩ := hP m hm
  have wm := (hw m hm).1
  have kc : ∀ m, kC m = 15 + 15 * m := fun _ => rfl
  have ka : ∀ m t, kCa m t = 16 + 15 * m + t := fun _ _ => rfl
  rw [kc] at h1 h2
  simp only [ka] at h3
  unfold cp_put cp_app
  simp only [kc, ka]
  refine ⟨?_, ?_, fun i hi => ?_⟩
  · show _ = nI (if m = a then P.1 m + 1 else P.1 m)
    by_cases e : m = a
    · rw [if_pos e, e, fm_up_s]
    · rw [if_neg e, fm_up_n (by omega), fm_up_n (by omega), fm_up_n (by omega), fm_up_n (by omega), fm_up_n (by omega), fm_up_n (by omega), fm_up_n (by omega)]
      exact h1
  · rw [fm_up_n (by omega), fm_up_n (by omega), fm_up_n (by omega), fm_up_n (by omega), fm_up_n (by omega), fm_up_n (by omega), fm_up_n (by omega)]
    exact h2
  · have hi : i < (if m = a then P.1 m + 1 else P.1 m) := hi
    have ei : (pr_put P a I).2.2 m i = if m = a ∧ i = P.1 a then I else P.2.2 m i := rfl
    rw [ei]
    by_cases e : m = a ∧ i = P.1 a
    · rw [if_pos e]
      obtain ⟨rfl, rfl⟩ := e
      refine ⟨?_, ?_, ?_, ?_, ?_⟩
      · rw [fm_up_n (by omega), fm_up_n (by omega), fm_up_n (by omega), fm_up_n (by omega), fm_up_n (by omega), fm_up_s]
      · rw [fm_up_n (by omega), fm_up_n (by omega), fm_up_n (by omega), fm_up_n (by omega), fm_up_s]
      · rw [fm_up_n (by omega), fm_up_n (by omega), fm_up_n (by omega), fm_up_s]
      · rw [fm_up_n (by omega), fm_up_n (by omega), fm_up_s]
      · rw [fm_up_n (by omega), fm_up_s]
    · rw [if_neg e]
      have hi2 : i < P.1 m := by
        split at hi
        · next e2 => subst e2; exact Nat.lt_of_le_of_ne (by omega) (fun q => e ⟨rfl, q⟩)
        · exact hi
      obtain ⟨a0, a1, a2, a3, a4⟩ := h3 i hi2
      refine ⟨?_, ?_, ?_, ?_, ?_⟩
      · rw [fm_up_n (by omega), fm_up_n (by omega), fm_up_n (by omega), fm_up_n (by omega), fm_up_n (by omega), fm_up_n (by omega), fm_up_n (by omega)]; exact a0
      · rw [fm_up_n (by omega), fm_up_n (by omega), fm_up_n (by omega), fm_up_n (by omega), fm_up_n (by omega), fm_up_n (by omega), fm_up_n (by omega)]; exact a1
      · rw [fm_up_n (by omega), fm_up_n (by omega), fm_up_n (by omega), fm_up_n (by omega), fm_up_n (by omega), fm_up_n (by omega), fm_up_n (by omega)]; exact a2
      · rw [fm_up_n (by omega), fm_up_n (by omega), fm_up_n (by omega), fm_up_n (by omega), fm_up_n (by omega), fm_up_n (by omega), fm_up_n (by omega)]; exact a3
      · rw [fm_up_n (by omega), fm_up_n (by omega), fm_up_n (by omega), fm_up_n (by omega), fm_up_n (by omega), fm_up_n (by omega), fm_up_n (by omega)]; exact a4
theorem cP_par {M : fm_M} {P : pr_T} {a k : Nat} (hP : cP M P) : cP (cp_par M a k) (pr_par P a k) := by
  intro m hm
  obtain ⟨h1, h2, h3⟩ := hP m hm
  have kc : ∀ m, kC m = 15 + 15 * m := fun _ => rfl
  have ka : ∀ m t, kCa m t = 16 + 15 * m + t := fun _ _ => rfl
  rw [kc] at h1 h2
  simp only [ka] at h3
  unfold cp_par
  simp only [kc, ka]
  refine ⟨?_, ?_, fun i hi => ?_⟩
  · rw [fm_up_n (by omega), fm_up_n (by omega)]; exact h1
  · show _ = nI (if m = a then k else P.2.1 m)
    rw [fm_up_n (by omega)]
    by_cases e : m = a
    · rw [if_pos e, e, fm_up_s]
    · rw [if_neg e, fm_up_n (by omega)]; exact h2
  · obtain ⟨a0, a1, a2, a3, a4⟩ := h3 i hi
    refine ⟨?_, ?_, ?_, ?_, ?_⟩ <;> rw [fm_up_n (by omega), fm_up_n (by omega)] <;> assumption
theorem cP_clr {M : fm_M} {P : pr_T} {a : Nat} (hP : cP M P) : cP (cp_clr M a) (pr_clr P a) := by
  intro m hm
  obtain ⟨h1, h2, h3⟩ := hP m hm
  have kc : ∀ m, kC m = 15 + 15 * m := fun _ => rfl
  have ka : ∀ m t, kCa m t = 16 + 15 * m + t := fun _ _ => rfl
  rw [kc] at h1 h2
  simp only [ka] at h3
  unfold cp_clr
  simp only [kc, ka]
  refine ⟨?_, ?_, fun i hi => ?_⟩
  · show _ = nI (if m = a then 0 else P.1 m)
    rw [fm_up_n (by omega)]
    by_cases e : m = a
    · rw [if_pos e, e, fm_up_s]
    · rw [if_neg e, fm_up_n (by omega)]; exact h1
  · rw [fm_up_n (by omega), fm_up_n (by omega)]; exact h2
  · have hi : i < (if m = a then 0 else P.1 m) := hi
    have hi2 : i < P.1 m := by
      split at hi
      · omega
      · exact hi
    obtain ⟨a0, a1, a2, a3, a4⟩ := h3 i hi2
    refine ⟨?_, ?_, ?_, ?_, ?_⟩ <;> rw [fm_up_n (by omega), fm_up_n (by omega)] <;> assumption
