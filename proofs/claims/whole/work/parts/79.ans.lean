/-! THE TWO ANALYSES: the same answers -/
theorem an_R_n0 {h : Nat → Nat → Int32} {b : Nat} : ¬ an_R h 0 b := by
  intro z
  have e : an_rc h 0 = 0 := an_rcn_C 27 0 (fun a _ q => absurd q (by rw [b_0]; decide))
  have := (an_rc_bt h 0 b).mpr z
  rw [e, b_0] at this
  exact absurd this (by decide)
theorem an_as_R {h : Nat → Nat → Int32} {k0 : Nat} (hk : k0 ≤ 2) {g : Int32} {b : Nat} : bt (an_rc h (an_as k0 ||| g)) b = true ↔ an_R h g b ∨ ∃ p, p < k0 ∧ an_R h (an_1 (24 + p)) b := by
  rw [an_rc_bt, an_R_or]
  unfold an_as
  rcases (by omega : k0 = 0 ∨ k0 = 1 ∨ k0 = 2) with e | e | e <;> subst e
  · rw [if_pos rfl]
    constructor
    · rintro (z | z)
      · exact absurd z an_R_n0
      · exact Or.inl z
    · rintro (z | ⟨p, hp, _⟩)
      · exact Or.inr z
      · exact absurd hp (by omega)
  · rw [if_neg (by decide), if_pos rfl]
    constructor
    · rintro (z | z)
      · exact Or.inr ⟨0, by omega, z⟩
      · exact Or.inl z
    · rintro (z | ⟨p, hp, z⟩)
      · exact Or.inr z
      · have : p = 0 := by omega
        subst this
        exact Or.inl z
  · rw [if_neg (by decide), if_neg (by decide), an_R_or]
    constructor
    · rintro ((z | z) | z)
      · exact Or.inr ⟨0, by omega, z⟩
      · exact Or.inr ⟨1, by omega, z⟩
      · exact Or.inl z
    · rintro (z | ⟨p, hp, z⟩)
      · exact Or.inr z
      · rcases (by omega : p = 0 ∨ p = 1) with e | e <;> subst e
        · exact Or.inl (Or.inl z)
        · exact Or.inl (Or.inr z)
section ANS
variable {P : pr_T} {Mc Mr : fm_M} {m : Nat}
theorem cr_A (hc : cT P Mc) (hr : rT P Mr) : ∃ S, (∀ n, n < 5 → cT1 P S Mc n) ∧ (∀ n, n < 5 → rT1 P S Mr n) ∧ ∀ n, n < 5 → cA Mc n = rA Mr n := by
  obtain ⟨S, hS⟩ := hc
  obtain ⟨T, hT⟩ := hr
  have e := an_is_uq (P := P) (S := S) (T := T) (fun n hn => (hS n hn).1) (fun n hn => (hT n hn).1)
  refine ⟨S, hS, fun n hn => ⟨(hS n hn).1, ?_⟩, fun n hn => by rw [(hS n hn).2.1.1, (hT n hn).2.1, e n hn]⟩
  have h := (hT n hn).2
  unfold rOK at h ⊢
  rw [e n hn]
  exact h
theorem cr_may (hc : cT P Mc) (hr : rT P Mr) (hm : m < 5) {r : Nat} (h4 : r < 4) : Mc (kFm m) r = Mr 8 (4 * m + r) := by
  obtain ⟨S, h1, h2, h3⟩ := cr_A hc hr
  have := congrFun (congrArg Prod.fst (h3 m hm)) r
  rw [cA_m h4, rA_m h4] at this
  exact this
theorem cr_sum (hw : pr_wf P) (hc : cT P Mc) (hr : rT P Mr) (hm : m < 5) {p : Nat} (hp : p < P.2.1 m) : Mc (kFs m) p = Mr 11 (2 * m + p) := by
  obtain ⟨S, h1, h2, h3⟩ := cr_A hc hr
  have w := (hw m hm).2.1
  obtain ⟨_, ⟨_, c1, c2⟩, _⟩ := h1 m hm
  obtain ⟨_, _, r1, r2⟩ := h2 m hm
  by_cases z : P.1 m = 0
  · rw [c1 z p (by omega), r1 z p (by omega)]
  · rw [((c2 z).2.2 p hp).1, r2 z p hp]
theorem cr_es1 (hw : pr_wf P) (hc : cT P Mc) (hr : rT P Mr) (hm : m < 5) (h0 : P.1 m ≠ 0) (k : Nat) : bt (Mc (kF m) 5) k = bt (an_rc (rA Mr m).2.1 an_W) k ∧ bt (Mc (kF m) 6) k = bt (an_rc (rA Mr m).2.1 (an_as (P.2.1 m) ||| (rA Mr m).2.2)) k := by
  obtain ⟨S, h1, h2, h3⟩ := cr_A hc hr
  obtain ⟨_, ⟨c0, c1, c2⟩, _⟩ := h1 m hm
  obtain ⟨e1, e2, _⟩ := c2 h0
  have e3 := (h2 m hm).2.1
  rw [e1, e3]
  refine ⟨rfl, Bool.eq_iff_iff.mpr ((e2 k).trans (an_as_R (hw m hm).2.1).symm)⟩
theorem cr_es (hw : pr_wf P) (hc : cT P Mc) (hr : rT P Mr) (hm : m < 5) (h0 : P.1 m ≠ 0) : cEs Mc m = rEs P Mr m := by
  funext k
  have h := cr_es1 hw hc hr hm h0 k
  show (bt (Mc (kF m) 5) k = false ∧ bt (Mc (kF m) 6) k = false) = _
  rw [h.1, h.2]
theorem cr_esc (hw : pr_wf P) (hc : cT P Mc) (hr : rT P Mr) (hm : m < 5) {i : Nat} (hi : i < P.1 m) : (if bt (Mc (kF m) 5) i = true then (2 : Int32) else if bt (Mc (kF m) 6) i = true then 1 else 0) = (if bt (an_rc (rA Mr m).2.1 an_W) i = true then nI 2 else bI (bt (an_rc (rA Mr m).2.1 (an_as (P.2.1 m) ||| (rA Mr m).2.2)) i)) := by
  have h := cr_es1 hw hc hr hm (by omega) i
  rw [h.1, h.2]
  unfold bI
  rfl
theorem cr_fate (hw : pr_wf P) (hc : cT P Mc) (hr : rT P Mr) (hm : m < 5) {i : Nat} (hi : i < P.1 m) {w : Int32} (h : fa_is P m (rEs P Mr m) i w) : Mc (kPf m) i = w := by
  have hc0 := hc
  obtain ⟨S, hS⟩ := hc
  have g := (hS m hm).2.2 i hi
  rw [cr_es hw hc0 hr hm (by omega)] at g
  exact fa_is_uq g h
/-- what is taken apart in a run -/
def sAp0 (P : pr_T) (ml : Bool) : sAp := fun m v k => ml = true ∧ fa_ap P m v k
theorem sH_of (hw : pr_wf P) (ml : Bool) (hc : ml = true → cT P Mc) (hr : rT P Mr) (hQ : rQ P ml Mr 5 0) : sH P (sAp0 P ml) (cFt ml Mc) (rFt Mr) := by
  refine ⟨hw, fun m v k h => h.2, fun m i hm hi => ?_⟩
  obtain ⟨f, f1, f2, f3, f4⟩ := hQ m i hm hi (Or.inl hm)
  have e : rFt Mr m i = f := by
    unfold rFt
    rw [f2, cm_n_nI (by omega)]
  rw [e]
  cases ml with
  | false =>
    have f0 := f4 rfl
    subst f0
    refine ⟨by omega, rfl, ⟨fun z => absurd z (by omega), fun ⟨v, k, z, _⟩ => absurd z.1 (by decide)⟩, fun z => absurd z (by omega)⟩
  | true =>
    have g := f3 rfl
    refine ⟨f1, ?_, ?_, fun z => fa_is_2 g (by rw [z]; rfl)⟩
    · show (if true = true then Mc (kPf m) i else 0) = nI f
      rw [if_pos rfl]
      exact cr_fate hw (hc rfl) hr hm hi g
    · have a := fa_is_1 g
      constructor
      · intro z
        obtain ⟨r, k, y1, y2⟩ := a.mp (by rw [z]; rfl)
        exact ⟨r, k, ⟨rfl, y1⟩, y2⟩
      · rintro ⟨r, k, y1, y2⟩
        have y := a.mpr ⟨r, k, y1.2, y2⟩
        exact (nI_eq (by omega) (by omega)).mp (y.trans (rfl : (1 : Int32) = nI 1))
end ANS
