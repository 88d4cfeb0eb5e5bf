/-! more of the class's state -/
def fm_fill (M : fm_M) (a n : Nat) (v : Int32) : fm_M := fun b j => if b = a ∧ j < n then v else M b j
theorem fm_fill_0 (M : fm_M) (a : Nat) (v : Int32) : fm_fill M a 0 v = M := by
  funext b j
  simp [fm_fill]
theorem fm_fill_s (M : fm_M) (a i : Nat) (v : Int32) : fm_up (fm_fill M a i v) a i v = fm_fill M a (i + 1) v := by
  funext b j
  unfold fm_up fm_fill
  by_cases h : b = a
  · by_cases k : j = i
    · rw [if_pos ⟨h, k⟩, if_pos ⟨h, by omega⟩]
    · rw [if_neg (fun z => k z.2)]
      by_cases l : j < i
      · rw [if_pos ⟨h, l⟩, if_pos ⟨h, by omega⟩]
      · rw [if_neg (fun z => l z.2), if_neg (fun z => l (by omega))]
  · rw [if_neg (fun z => h z.1), if_neg (fun z => h z.1), if_neg (fun z => h z.1)]
theorem fm_fill_o {M : fm_M} {a n b j : Nat} {v : Int32} (h : b ≠ a) : fm_fill M a n v b j = M b j := if_neg (fun z => h z.1)
theorem fm_fill_i {M : fm_M} {a n j : Nat} {v : Int32} (h : j < n) : fm_fill M a n v a j = v := if_pos ⟨rfl, h⟩
theorem cS_g {m : Nat} {M : fm_M} {s : Int32} : cS m M (fm_up M (kF m) 4 ((cA M m).2.2 ||| s)) (an_g (cA M m) s) := by
  refine ⟨Prod.ext (funext fun x => ?_) (Prod.ext (funext fun a => funext fun g => ?_) ?_), an_g_up _ _, fun a j q => ?_, Or.inl ⟨⟨rfl, rfl⟩, ?_⟩⟩
  · show (if x < 4 then fm_up M (kF m) 4 ((cA M m).2.2 ||| s) (kFm m) x else 0) = (if x < 4 then M (kFm m) x else 0)
    rw [fm_up_a (by show 22 + 15 * m ≠ 21 + 15 * m; omega)]
  · show (if a < 27 ∧ g < 2 then fm_up M (kF m) 4 ((cA M m).2.2 ||| s) (kFr m g) a else 0) = (if a < 27 ∧ g < 2 then M (kFr m g) a else 0)
    rw [fm_up_a (by show 24 + 15 * m + g ≠ 21 + 15 * m; omega)]
  · exact fm_up_s
  · exact fm_up_n (fun z => q (Or.inr (Or.inr (Or.inr ⟨z.1, Or.inr z.2⟩))))
  · exact fm_up_b (by omega)
theorem cS_o {m : Nat} {M M' : fm_M} {σ : an_T} (h : cS m M M' σ) {a j : Nat} (h1 : a ≠ 22 + 15 * m) (h2 : a ≠ 24 + 15 * m) (h3 : a ≠ 25 + 15 * m) (h4 : a ≠ 21 + 15 * m) : M' a j = M a j :=
  h.2.2.1 a j (fun w => by
    rcases w with w | w | w | w
    · exact h1 w
    · exact h2 (w.trans (by show 24 + 15 * m + 0 = _; omega))
    · exact h3 (w.trans (by show 24 + 15 * m + 1 = _; omega))
    · exact h4 w.1)
