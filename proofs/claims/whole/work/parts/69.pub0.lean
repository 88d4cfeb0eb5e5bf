/-! WHAT IS ASKED FROM OUTSIDE: numbers in range, programs that grow -/
def inR (n : Nat) (v : Int32) : Prop := ∃ k, k < n ∧ v = nI k
theorem inR_iff {n : Nat} (hn : n < 2 ^ 31) {v : Int32} : inR n v ↔ (0 ≤ v ∧ v < nI n) := by
  constructor
  · rintro ⟨k, hk, e⟩
    subst e
    exact ⟨nI_pos' (by omega), nI_lt hk hn⟩
  · rintro ⟨h1, h2⟩
    obtain ⟨k, hk, e⟩ := nI_of (x := v) (Int32.not_lt.mpr h1)
    subst e
    exact ⟨k, (nI_ltI hk hn).mp h2, rfl⟩
theorem inR_y {n : Nat} (hn : n < 2 ^ 31) {v : Int32} (h1 : ¬ v < 0) (h2 : v < nI n) : inR n v := (inR_iff hn).mpr ⟨Int32.not_lt.mp h1, h2⟩
theorem inR_s {n : Nat} (hn : n + 1 < 2 ^ 31) {v : Int32} (h1 : ¬ v < 0) (h2 : v ≤ nI n) : inR (n + 1) v := by
  obtain ⟨k, hk, e⟩ := nI_of (x := v) h1
  subst e
  exact ⟨k, by have := (nI_leI hk (by omega)).mp h2; omega, rfl⟩
theorem inR_g {n : Nat} (hn : n + 1 < 2 ^ 31) {v : Int32} (h1 : ¬ v < 0) (h2 : ¬ nI n < v) : inR (n + 1) v := inR_s hn h1 (Int32.not_lt.mp h2)
theorem inR_n0 {n : Nat} (hn : n < 2 ^ 31) {v : Int32} (h : v < 0) : ¬ inR n v := fun z => absurd ((inR_iff hn).mp z).1 (Int32.not_le.mpr h)
theorem inR_n1 {n : Nat} (hn : n < 2 ^ 31) {v : Int32} (h : ¬ v < nI n) : ¬ inR n v := fun z => h ((inR_iff hn).mp z).2
theorem inR_n2 {n : Nat} (hn : n + 1 < 2 ^ 31) {v : Int32} (h : ¬ v ≤ nI n) : ¬ inR (n + 1) v := fun ⟨k, hk, e⟩ => h (by rw [e]; exact (nI_leI (by omega) (by omega)).mpr (by omega))
theorem inR_n3 {n : Nat} (hn : n + 1 < 2 ^ 31) {v : Int32} (h : nI n < v) : ¬ inR (n + 1) v := inR_n2 hn (Int32.not_le.mpr h)
theorem fm_lse {S : fm_S} {Y : fm_Y} {X : fm_X} {M0 M : fm_M} {post : Option Int32 → fm_M → Prop} {pc : Nat} {ls ls1 : fm_L} {st : List fm_V} (h : ls = ls1) (k : fm_G S Y X M0 post pc ls1 st M) : fm_G S Y X M0 post pc ls st M := h ▸ k
/-- the numbers of an instruction -/
def okI (o x y z n : Int32) (I : an_I) : Prop := o = nI I.1 ∧ x = nI I.2.1 ∧ y = nI I.2.2.1 ∧ z = nI I.2.2.2.1 ∧ n = I.2.2.2.2 ∧ an_wf I
theorem okI_mk {o x y z n : Int32} (h1 : inR 19 o) (h2 : inR 4 x) (h3 : inR 4 y) (h4 : inR 4 z) (h5 : o < nI 3 ∨ nI 6 < o ∨ ¬ nI 1 < z) (h6 : ¬ o = nI 16 ∨ inR 5 n) : ∃ I, okI o x y z n I := by
  obtain ⟨a, ha, rfl⟩ := h1
  obtain ⟨b, hb, rfl⟩ := h2
  obtain ⟨c, hc, rfl⟩ := h3
  obtain ⟨d, hd, rfl⟩ := h4
  refine ⟨(a, b, c, d, n), rfl, rfl, rfl, rfl, rfl, ?_⟩
  refine ⟨by show a ≤ 18; omega, hb, hc, hd, fun q1 q2 => ?_, fun q => ?_⟩
  · show d < 2
    have q1 : 3 ≤ a := q1
    have q2 : a ≤ 6 := q2
    rcases h5 with h | h | h
    · rw [nI_ltI (by omega) (by omega)] at h; omega
    · rw [nI_ltI (by omega) (by omega)] at h; omega
    · rw [nI_ltI (by omega) (by omega)] at h; omega
  · have q : a = 16 := q
    rcases h6 with h | ⟨k, hk, e⟩
    · exact absurd (by rw [q]) h
    · exact ⟨k, hk, e⟩
section OKN
variable {o x y z n : Int32} {I : an_I}
theorem okI_o (h : okI o x y z n I) : inR 19 o := ⟨_, by have := h.2.2.2.2.2.1; omega, h.1⟩
theorem okI_x (h : okI o x y z n I) : inR 4 x := ⟨_, h.2.2.2.2.2.2.1, h.2.1⟩
theorem okI_y (h : okI o x y z n I) : inR 4 y := ⟨_, h.2.2.2.2.2.2.2.1, h.2.2.1⟩
theorem okI_z (h : okI o x y z n I) : inR 4 z := ⟨_, h.2.2.2.2.2.2.2.2.1, h.2.2.2.1⟩
theorem okI_f (h : okI o x y z n I) (h1 : ¬ o < nI 3) (h2 : ¬ nI 6 < o) : ¬ nI 1 < z := by
  have w1 := h.2.2.2.2.2.1
  have w4 := h.2.2.2.2.2.2.2.2.1
  rw [h.1, nI_ltI (by omega) (by omega)] at h1 h2
  have w5 := h.2.2.2.2.2.2.2.2.2.1 (by omega) (by omega)
  rw [h.2.2.2.1, nI_ltI (by omega) (by omega)]
  omega
theorem okI_c (h : okI o x y z n I) (h1 : o = nI 16) : inR 5 n := by
  have w1 := h.2.2.2.2.2.1
  have e : I.1 = 16 := by
    have q := congrArg Int32.toNatClampNeg (h.1.symm.trans h1)
    rw [nI_clamp (by omega), nI_clamp (by omega)] at q
    exact q
  obtain ⟨k, hk, e2⟩ := h.2.2.2.2.2.2.2.2.2.2 e
  exact ⟨k, hk, h.2.2.2.2.1.trans e2⟩
end OKN
def pr_put (P : pr_T) (a : Nat) (I : an_I) : pr_T := (fun m => if m = a then P.1 m + 1 else P.1 m, P.2.1, fun m i => if m = a ∧ i = P.1 a then I else P.2.2 m i)
def pr_par (P : pr_T) (a k : Nat) : pr_T := (P.1, fun m => if m = a then k else P.2.1 m, P.2.2)
def pr_clr (P : pr_T) (a : Nat) : pr_T := (fun m => if m = a then 0 else P.1 m, P.2.1, P.2.2)
theorem pr_put_wf {P : pr_T} {a : Nat} {I : an_I} (hw : pr_wf P) (h : P.1 a < 24) (w : an_wf I) : pr_wf (pr_put P a I) := by
  intro m hm
  obtain ⟨h1, h2, h3⟩ := hw m hm
  refine ⟨?_, h2, fun i hi => ?_⟩
  · show (if m = a then P.1 m + 1 else P.1 m) ≤ 24
    split
    · next e => subst e; omega
    · exact h1
  · have hi : i < (if m = a then P.1 m + 1 else P.1 m) := hi
    show an_wf (if m = a ∧ i = P.1 a then I else P.2.2 m i)
    split
    · exact w
    · next e =>
      refine h3 i ?_
      split at hi
      · next e2 => subst e2; exact Nat.lt_of_le_of_ne (by omega) (fun q => e ⟨rfl, q⟩)
      · exact hi
theorem pr_par_wf {P : pr_T} {a k : Nat} (hw : pr_wf P) (h : k ≤ 2) : pr_wf (pr_par P a k) := by
  intro m hm
  obtain ⟨h1, h2, h3⟩ := hw m hm
  refine ⟨h1, ?_, h3⟩
  show (if m = a then k else P.2.1 m) ≤ 2
  split <;> assumption
theorem pr_clr_wf {P : pr_T} {a : Nat} (hw : pr_wf P) : pr_wf (pr_clr P a) := by
  intro m hm
  obtain ⟨h1, h2, h3⟩ := hw m hm
  refine ⟨?_, h2, fun i hi => ?_⟩
  · show (if m = a then 0 else P.1 m) ≤ 24
    split
    · omega
    · exact h1
  · have hi : i < (if m = a then 0 else P.1 m) := hi
    split at hi
    · omega
    · exact h3 i hi
/-! the reference's program grows -/
def rp_put (M : fm_M) (P : pr_T) (a : Nat) (I : an_I) : fm_M :=
  fm_up (fm_up (fm_up (fm_up (fm_up (fm_up (fm_up (fm_up M 0 0 (nI 0)) 3 (24 * a + P.1 a) (nI I.1)) 4 (24 * a + P.1 a) (nI I.2.1)) 5 (24 * a + P.1 a) (nI I.2.2.1)) 6 (24 * a + P.1 a) (nI I.2.2.2.1)) 7 (24 * a + P.1 a) I.2.2.2.2) 2 a (nI (P.1 a + 1))) 0 8 (nI 0)
def rp_par (M : fm_M) (a k : Nat) : fm_M := fm_up (fm_up (fm_up M 0 0 (nI 0)) 1 a (nI k)) 0 8 (nI 0)
def rp_clr (M : fm_M) (a : Nat) : fm_M := fm_up (fm_up (fm_up M 0 0 (nI 0)) 2 a (nI 0)) 0 8 (nI 0)
theorem rP_put {M : fm_M} {P : pr_T} {a : Nat} {I : an_I} (hP : rP M P) (hw : pr_wf P) (ha : a < 5) (h : P.1 a < 24) : rP (rp_put M P a I) (pr_put P a I) := by
  intro m hm
  obtain ⟨h1, h2, h3⟩ := hP m hm
  have wm := (hw m hm).1
  unfold rp_put
  refine ⟨?_, ?_, fun i hi => ?_⟩
  · show _ = nI (if m = a then P.1 m + 1 else P.1 m)
    rw [fm_up_a (by decide)]
    by_cases e : m = a
    · rw [if_pos e, e, fm_up_s]
    · rw [if_neg e, fm_up_b e, fm_up_a (by decide), fm_up_a (by decide), fm_up_a (by decide), fm_up_a (by decide), fm_up_a (by decide), fm_up_a (by decide)]
      exact h1
  · rw [fm_up_a (by decide), fm_up_a (by decide), fm_up_a (by decide), fm_up_a (by decide), fm_up_a (by decide), fm_up_a (by decide), fm_up_a (by decide), fm_up_a (by decide)]
    exact h2
  · have hi : i < (if m = a then P.1 m + 1 else P.1 m) := hi
    have ei : (pr_put P a I).2.2 m i = if m = a ∧ i = P.1 a then I else P.2.2 m i := rfl
    rw [ei]
    by_cases e : m = a ∧ i = P.1 a
    · rw [if_pos e]
      obtain ⟨rfl, rfl⟩ := e
      refine ⟨?_, ?_, ?_, ?_, ?_⟩
      · rw [fm_up_a (by decide), fm_up_a (by decide), fm_up_a (by decide), fm_up_a (by decide), fm_up_a (by decide), fm_up_a (by decide), fm_up_s]
      · rw [fm_up_a (by decide), fm_up_a (by decide), fm_up_a (by decide), fm_up_a (by decide), fm_up_a (by decide), fm_up_s]
      · rw [fm_up_a (by decide), fm_up_a (by decide), fm_up_a (by decide), fm_up_a (by decide), fm_up_s]
      · rw [fm_up_a (by decide), fm_up_a (by decide), fm_up_a (by decide), fm_up_s]
      · rw [fm_up_a (by decide), fm_up_a (by decide), fm_up_s]
    · rw [if_neg e]
      have hi2 : i < P.1 m := by
        split at hi
        · next e2 => subst e2; exact Nat.lt_of_le_of_ne (by omega) (fun q => e ⟨rfl, q⟩)
        · exact hi
      have hne : 24 * m + i ≠ 24 * a + P.1 a := fun q => e (by omega)
      obtain ⟨a0, a1, a2, a3, a4⟩ := h3 i hi2
      refine ⟨?_, ?_, ?_, ?_, ?_⟩
      · rw [fm_up_a (by decide), fm_up_a (by decide), fm_up_a (by decide), fm_up_a (by decide), fm_up_a (by decide), fm_up_a (by decide), fm_up_b hne, fm_up_a (by decide)]; exact a0
      · rw [fm_up_a (by decide), fm_up_a (by decide), fm_up_a (by decide), fm_up_a (by decide), fm_up_a (by decide), fm_up_b hne, fm_up_a (by decide), fm_up_a (by decide)]; exact a1
      · rw [fm_up_a (by decide), fm_up_a (by decide), fm_up_a (by decide), fm_up_a (by decide), fm_up_b hne, fm_up_a (by decide), fm_up_a (by decide), fm_up_a (by decide)]; exact a2
      · rw [fm_up_a (by decide), fm_up_a (by decide), fm_up_a (by decide), fm_up_b hne, fm_up_a (by decide), fm_up_a (by decide), fm_up_a (by decide), fm_up_a (by decide)]; exact a3
      · rw [fm_up_a (by decide), fm_up_a (by decide), fm_up_b hne, fm_up_a (by decide), fm_up_a (by decide), fm_up_a (by decide), fm_up_a (by decide), fm_up_a (by decide)]; exact a4
theorem rP_par {M : fm_M} {P : pr_T} {a k : Nat} (hP : rP M P) : rP (rp_par M a k) (pr_par P a k) := by
  intro m hm
  obtain ⟨h1, h2, h3⟩ := hP m hm
  unfold rp_par
  refine ⟨?_, ?_, fun i hi => ?_⟩
  · rw [fm_up_a (by decide), fm_up_a (by decide), fm_up_a (by decide)]; exact h1
  · show _ = nI (if m = a then k else P.2.1 m)
    rw [fm_up_a (by decide)]
    by_cases e : m = a
    · rw [if_pos e, e, fm_up_s]
    · rw [if_neg e, fm_up_b e, fm_up_a (by decide)]; exact h2
  · obtain ⟨a0, a1, a2, a3, a4⟩ := h3 i hi
    refine ⟨?_, ?_, ?_, ?_, ?_⟩ <;> rw [fm_up_a (by decide), fm_up_a (by decide), fm_up_a (by decide)] <;> assumption
theorem rP_clr {M : fm_M} {P : pr_T} {a : Nat} (hP : rP M P) : rP (rp_clr M a) (pr_clr P a) := by
  intro m hm
  obtain ⟨h1, h2, h3⟩ := hP m hm
  unfold rp_clr
  refine ⟨?_, ?_, fun i hi => ?_⟩
  · show _ = nI (if m = a then 0 else P.1 m)
    rw [fm_up_a (by decide)]
    by_cases e : m = a
    · rw [if_pos e, e, fm_up_s]
    · rw [if_neg e, fm_up_b e, fm_up_a (by decide)]; exact h1
  · rw [fm_up_a (by decide), fm_up_a (by decide), fm_up_a (by decide)]; exact h2
  · have hi : i < (if m = a then 0 else P.1 m) := hi
    have hi2 : i < P.1 m := by
      split at hi
      · omega
      · exact hi
    obtain ⟨a0, a1, a2, a3, a4⟩ := h3 i hi2
    refine ⟨?_, ?_, ?_, ?_, ?_⟩ <;> rw [fm_up_a (by decide), fm_up_a (by decide), fm_up_a (by decide)] <;> assumption
