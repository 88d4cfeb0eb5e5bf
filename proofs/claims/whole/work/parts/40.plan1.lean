/-! PLANS: locks and the drawing -/
theorem nI_lt_le {i : Nat} (h : i < 2 ^ 30) {v : Int32} : nI i < v ↔ nI (i + 1) ≤ v := by
  rw [Int32.lt_iff_toInt_lt, Int32.le_iff_toInt_le, nI_toInt (by omega), nI_toInt (by omega)]
  omega
def pl_lk (P : pr_T) (m r : Nat) (fr : Int32) (i : Nat) (M M' : fm_M) : Prop :=
  pl_fr m M M' ∧ ∀ q, (fa_lk (P.1 m) (P.2.2 m) r fr i q → M' (kPf m) q = 2) ∧ (¬ fa_lk (P.1 m) (P.2.2 m) r fr i q → M' (kPf m) q = M (kPf m) q)
section PLK
variable {P : pr_T} {m r i j : Nat} {fr : Int32} {M M' : fm_M}
theorem pl_lk_0 : pl_lk P m r fr 0 M M := ⟨fun _ _ _ => rfl, fun q => ⟨fun ⟨a, _, h, _⟩ => absurd h (by omega), fun _ => rfl⟩⟩
theorem pl_lk_n (h : pl_lk P m r fr i M M') (k : ¬ ((P.2.2 m i).1 = 10 ∧ (P.2.2 m i).2.1 = r ∧ bt fr i = false ∧ ∃ j, fa_pt (P.1 m) (P.2.2 m) i j)) : pl_lk P m r fr (i + 1) M M' := by
  have e : ∀ q, fa_lk (P.1 m) (P.2.2 m) r fr (i + 1) q ↔ fa_lk (P.1 m) (P.2.2 m) r fr i q := by
    intro q
    constructor
    · rintro ⟨a, l, h1, h2, h3, h4, h5, h6⟩
      by_cases z : a = i
      · rw [z] at h2 h3 h4 h5
        exact absurd ⟨h2, h3, h4, l, h5⟩ k
      · exact ⟨a, l, by omega, h2, h3, h4, h5, h6⟩
    · rintro ⟨a, l, h1, h2⟩
      exact ⟨a, l, by omega, h2⟩
  exact ⟨h.1, fun q => ⟨fun z => (h.2 q).1 ((e q).mp z), fun z => (h.2 q).2 (fun w => z ((e q).mpr w))⟩⟩
theorem pl_lk_y (h : pl_lk P m r fr i M M') (h1 : (P.2.2 m i).1 = 10) (h2 : (P.2.2 m i).2.1 = r) (h3 : bt fr i = false) (h4 : fa_pt (P.1 m) (P.2.2 m) i j) : pl_lk P m r fr (i + 1) M (fm_up (fm_up M' (kPf m) i (nI 2)) (kPf m) j (nI 2)) := by
  refine ⟨fun a l z => by rw [fm_up_a z, fm_up_a z]; exact h.1 a l z, fun q => ?_⟩
  by_cases e : q = j
  · rw [e]
    refine ⟨fun _ => fm_up_s, fun z => absurd ⟨i, j, by omega, h1, h2, h3, h4, Or.inr rfl⟩ z⟩
  · rw [fm_up_b e]
    by_cases e2 : q = i
    · rw [e2]
      refine ⟨fun _ => fm_up_s, fun z => absurd ⟨i, j, by omega, h1, h2, h3, h4, Or.inl rfl⟩ z⟩
    · rw [fm_up_b e2]
      have e3 : fa_lk (P.1 m) (P.2.2 m) r fr (i + 1) q ↔ fa_lk (P.1 m) (P.2.2 m) r fr i q := by
        constructor
        · rintro ⟨a, l, a1, a2, a3, a4, a5, a6⟩
          by_cases z : a = i
          · rw [z] at a5 a6
            have := fa_pt_uq h4 a5
            omega
          · exact ⟨a, l, by omega, a2, a3, a4, a5, a6⟩
        · rintro ⟨a, l, a1, a2⟩
          exact ⟨a, l, by omega, a2⟩
      exact ⟨fun z => (h.2 q).1 (e3.mp z), fun z => (h.2 q).2 (fun w => z (e3.mpr w))⟩
end PLK
/-- fates of the references below R -/
def fa_AR (P : pr_T) (m R i : Nat) : Prop := ∃ r k, r < R ∧ fa_ap P m r k ∧ (i = k ∨ fa_wk (P.2.2 m i) r)
def fa_BR (P : pr_T) (m : Nat) (es : Nat → Prop) (R i : Nat) : Prop := ∃ j, (fa_pr P m es i j ∧ (P.2.2 m i).2.1 < R) ∨ (fa_pr P m es j i ∧ (P.2.2 m j).2.1 < R)
def pl_dr (P : pr_T) (m : Nat) (es : Nat → Prop) (R : Nat) (M M1 : fm_M) : Prop :=
  pl_fr m M M1 ∧ ∀ q, q < P.1 m → (fa_AR P m R q → M1 (kPf m) q = 1) ∧ (¬ fa_AR P m R q → fa_BR P m es R q → M1 (kPf m) q = 2) ∧ (¬ fa_AR P m R q → ¬ fa_BR P m es R q → M1 (kPf m) q = 0)
section PDR
variable {P : pr_T} {m r k : Nat} {es : Nat → Prop} {M M1 M2 : fm_M}
theorem pl_dr_same (h : pl_dr P m es r M M1) (ha : ∀ k, ¬ fa_ap P m r k) (hb : ∀ i j, fa_pr P m es i j → (P.2.2 m i).2.1 ≠ r) : pl_dr P m es (r + 1) M M1 := by
  have eA : ∀ q, fa_AR P m (r + 1) q ↔ fa_AR P m r q := fun q => by
    constructor
    · rintro ⟨s, l, h1, h2, h3⟩
      by_cases e : s = r
      · rw [e] at h2; exact absurd h2 (ha l)
      · exact ⟨s, l, by omega, h2, h3⟩
    · rintro ⟨s, l, h1, h2⟩
      exact ⟨s, l, by omega, h2⟩
  have eB : ∀ q, fa_BR P m es (r + 1) q ↔ fa_BR P m es r q := fun q => by
    constructor
    · rintro ⟨j, ⟨h1, h2⟩ | ⟨h1, h2⟩⟩
      · have := hb _ _ h1
        exact ⟨j, Or.inl ⟨h1, by omega⟩⟩
      · have := hb _ _ h1
        exact ⟨j, Or.inr ⟨h1, by omega⟩⟩
    · rintro ⟨j, ⟨h1, h2⟩ | ⟨h1, h2⟩⟩
      · exact ⟨j, Or.inl ⟨h1, by omega⟩⟩
      · exact ⟨j, Or.inr ⟨h1, by omega⟩⟩
  refine ⟨h.1, fun q hq => ?_⟩
  rw [eA q, eB q]
  exact h.2 q hq
/-- no NEW alone sets r -/
theorem pl_dr_no (h : pl_dr P m es r M M1) (hn : ¬ ∃ k, fa_nw (P.1 m) (P.2.2 m) r k) : pl_dr P m es (r + 1) M M1 :=
  pl_dr_same h (fun k z => hn ⟨k, z.2.1⟩) (fun i j z e => by
    obtain ⟨k, _, z2, _⟩ := z.2.2.2.2.2.1
    rw [e] at z2
    exact hn ⟨k, z2⟩)
/-- it is seen -/
theorem pl_dr_es (h : pl_dr P m es r M M1) (hk : fa_nw (P.1 m) (P.2.2 m) r k) (ha : ¬ fa_ap P m r k) (he : ¬ es k) : pl_dr P m es (r + 1) M M1 :=
  pl_dr_same h (fun l z => by rw [fa_nw_uq z.2.1 hk] at z; exact ha z) (fun i j z e => by
    obtain ⟨l, _, z2, _, z4, _⟩ := z.2.2.2.2.2.1
    rw [e] at z2
    rw [fa_nw_uq z2 hk] at z4
    exact he z4)
/-- it is taken apart -/
theorem pl_dr_ap (h : pl_dr P m es r M M1) (ha : fa_ap P m r k) (h2 : pl_fr m M1 M2 ∧ ∀ q, M2 (kPf m) q = if q = k ∨ (q < P.1 m ∧ fa_wk (P.2.2 m q) r) then 1 else M1 (kPf m) q) : pl_dr P m es (r + 1) M M2 := by
  refine ⟨fun a j z => (h2.1 a j z).trans (h.1 a j z), fun q hq => ?_⟩
  rw [h2.2 q]
  by_cases z : q = k ∨ (q < P.1 m ∧ fa_wk (P.2.2 m q) r)
  · have hA : fa_AR P m (r + 1) q := ⟨r, k, by omega, ha, z.imp id (fun y => y.2)⟩
    rw [if_pos z]
    exact ⟨fun _ => rfl, fun y => absurd hA y, fun y => absurd hA y⟩
  · have eA : fa_AR P m (r + 1) q ↔ fa_AR P m r q := by
      constructor
      · rintro ⟨s, l, h1, h3, h4⟩
        by_cases e : s = r
        · rw [e] at h3 h4
          rw [fa_nw_uq h3.2.1 ha.2.1] at h4
          exact absurd (h4.imp id (fun y => ⟨hq, y⟩)) z
        · exact ⟨s, l, by omega, h3, h4⟩
      · rintro ⟨s, l, h1, h3⟩
        exact ⟨s, l, by omega, h3⟩
    have no : ∀ i j, fa_pr P m es i j → (P.2.2 m i).2.1 ≠ r := fun i j y e => by
      obtain ⟨l, _, y2, y3, _⟩ := y.2.2.2.2.2.1
      rw [e] at y2 y3
      rw [fa_nw_uq y2 ha.2.1] at y3
      exact y3 ha
    have eB : fa_BR P m es (r + 1) q ↔ fa_BR P m es r q := by
      constructor
      · rintro ⟨j, ⟨h1, h3⟩ | ⟨h1, h3⟩⟩
        · have := no _ _ h1
          exact ⟨j, Or.inl ⟨h1, by omega⟩⟩
        · have := no _ _ h1
          exact ⟨j, Or.inr ⟨h1, by omega⟩⟩
      · rintro ⟨j, ⟨h1, h3⟩ | ⟨h1, h3⟩⟩
        · exact ⟨j, Or.inl ⟨h1, by omega⟩⟩
        · exact ⟨j, Or.inr ⟨h1, by omega⟩⟩
    rw [if_neg z, eA, eB]
    exact h.2 q hq
/-- its locks go in pairs -/
theorem pl_dr_lk (hn : P.1 m ≤ 24) (hi : P.2.1 m ≤ r) (h : pl_dr P m es r M M1) (hk : fa_nw (P.1 m) (P.2.2 m) r k) (ha : ¬ fa_ap P m r k) (he : es k) (h2 : pl_lk P m r (dm_free (P.1 m) (P.2.2 m) k) (P.1 m) M1 M2) : pl_dr P m es (r + 1) M M2 := by
  have hk24 : k < 24 := Nat.lt_of_lt_of_le hk.1 hn
  have fw : ∀ a j, a < P.1 m → (P.2.2 m a).1 = 10 → (P.2.2 m a).2.1 = r → bt (dm_free (P.1 m) (P.2.2 m) k) a = false → fa_pt (P.1 m) (P.2.2 m) a j → fa_pr P m es a j := by
    intro a j h1 h3 h4 h5 h6
    refine ⟨h6.1, h6.2.1, h3, h6.2.2.1, h6.2.2.2.1.symm, ⟨k, by omega, by rw [h4]; exact hk, by rw [h4]; exact ha, he, fun z => ?_⟩, h6.2.2.2.2.1, fun q hq hj z => h6.2.2.2.2.2 ⟨q, hq, hj, (nI_lt_le (by omega)).mp z.1, z.2⟩⟩
    rw [(dm_free_bt hn hk24 a).mpr z] at h5
    exact absurd h5 (by decide)
  have bw : ∀ a j, fa_pr P m es a j → (P.2.2 m a).2.1 = r → (P.2.2 m a).1 = 10 ∧ bt (dm_free (P.1 m) (P.2.2 m) k) a = false ∧ fa_pt (P.1 m) (P.2.2 m) a j := by
    intro a j h1 h3
    obtain ⟨p1, p2, p3, p4, p5, ⟨l, q1, q2, q3, q4, q5⟩, p7, p8⟩ := h1
    rw [h3] at q2
    rw [fa_nw_uq q2 hk] at q5
    refine ⟨p3, ?_, p1, p2, p4, p5.symm, p7, fun ⟨q, z1, z2, z3, z4⟩ => p8 q z1 z2 ⟨(nI_lt_le (by omega)).mpr z3, z4⟩⟩
    cases z : bt (dm_free (P.1 m) (P.2.2 m) k) a with
    | false => rfl
    | true => exact absurd ((dm_free_bt hn hk24 a).mp z) q5
  have eA : ∀ q, fa_AR P m (r + 1) q ↔ fa_AR P m r q := fun q => by
    constructor
    · rintro ⟨s, l, h1, h3, h4⟩
      by_cases e : s = r
      · rw [e] at h3
        rw [fa_nw_uq h3.2.1 hk] at h3
        exact absurd h3 ha
      · exact ⟨s, l, by omega, h3, h4⟩
    · rintro ⟨s, l, h1, h3⟩
      exact ⟨s, l, by omega, h3⟩
  have eB : ∀ q, fa_BR P m es (r + 1) q ↔ fa_BR P m es r q ∨ fa_lk (P.1 m) (P.2.2 m) r (dm_free (P.1 m) (P.2.2 m) k) (P.1 m) q := fun q => by
    constructor
    · rintro ⟨j, ⟨h1, h3⟩ | ⟨h1, h3⟩⟩
      · by_cases e : (P.2.2 m q).2.1 = r
        · obtain ⟨b1, b2, b3⟩ := bw q j h1 e
          exact Or.inr ⟨q, j, Nat.lt_trans b3.1 b3.2.1, b1, e, b2, b3, Or.inl rfl⟩
        · exact Or.inl ⟨j, Or.inl ⟨h1, by omega⟩⟩
      · by_cases e : (P.2.2 m j).2.1 = r
        · obtain ⟨b1, b2, b3⟩ := bw j q h1 e
          exact Or.inr ⟨j, q, Nat.lt_trans b3.1 b3.2.1, b1, e, b2, b3, Or.inr rfl⟩
        · exact Or.inl ⟨j, Or.inr ⟨h1, by omega⟩⟩
    · rintro (⟨j, ⟨h1, h3⟩ | ⟨h1, h3⟩⟩ | ⟨a, j, l1, l2, l3, l4, l5, l6⟩)
      · exact ⟨j, Or.inl ⟨h1, by omega⟩⟩
      · exact ⟨j, Or.inr ⟨h1, by omega⟩⟩
      · have w := fw a j l1 l2 l3 l4 l5
        rcases l6 with e | e
        · rw [e]; exact ⟨j, Or.inl ⟨w, by omega⟩⟩
        · rw [e]; exact ⟨a, Or.inr ⟨w, by omega⟩⟩
  have nA : ∀ q, fa_lk (P.1 m) (P.2.2 m) r (dm_free (P.1 m) (P.2.2 m) k) (P.1 m) q → ¬ fa_AR P m r q := by
    rintro q ⟨a, j, l1, l2, l3, l4, l5, l6⟩ ⟨s, l, h1, h3, h4⟩
    have hq : ((P.2.2 m q).1 = 10 ∨ (P.2.2 m q).1 = 11) ∧ (P.2.2 m q).2.1 = r := by
      rcases l6 with e | e
      · rw [e]; exact ⟨Or.inl l2, l3⟩
      · rw [e]; exact ⟨Or.inr l5.2.2.1, l5.2.2.2.1.trans l3⟩
    rcases h4 with e | e
    · have := h3.2.1.2.1
      rw [← e] at this
      omega
    · rcases e with ⟨e1, _⟩ | ⟨_, e2⟩ | ⟨e1, _⟩
      · omega
      · omega
      · omega
  refine ⟨fun a j z => (h2.1 a j z).trans (h.1 a j z), fun q hq => ?_⟩
  rw [eA q, eB q]
  obtain ⟨g1, g2, g3⟩ := h.2 q hq
  by_cases z : fa_lk (P.1 m) (P.2.2 m) r (dm_free (P.1 m) (P.2.2 m) k) (P.1 m) q
  · rw [(h2.2 q).1 z]
    exact ⟨fun y => absurd y (nA q z), fun _ _ => rfl, fun _ y => absurd (Or.inr z) y⟩
  · rw [(h2.2 q).2 z]
    exact ⟨g1, fun y1 y2 => g2 y1 (y2.resolve_right z), fun y1 y2 => g3 y1 (fun w => y2 (Or.inl w))⟩
theorem pl_dr_0 (hi : P.2.1 m ≤ 2) (hn : P.1 m ≤ 24) : pl_dr P m es (P.2.1 m) M (fm_fill M (kPf m) 24 (nI 0)) := by
  refine ⟨fun a j h => fm_fill_o h, fun q hq => ?_⟩
  rw [fm_fill_i (by omega)]
  refine ⟨fun ⟨s, l, h1, h2, _⟩ => absurd h2.1 (by omega), fun _ ⟨j, h⟩ => ?_, fun _ _ => rfl⟩
  rcases h with ⟨h1, h2⟩ | ⟨h1, h2⟩
  · obtain ⟨k, a, _⟩ := h1.2.2.2.2.2.1
    omega
  · obtain ⟨k, a, _⟩ := h1.2.2.2.2.2.1
    omega
theorem pl_dr_end (hw : pr_wf P) (hm : m < 5) (h : pl_dr P m es 4 M M1) : pl_fr m M M1 ∧ ∀ q, q < P.1 m → fa_is P m es q (M1 (kPf m) q) := by
  have wI := (hw m hm).2.2
  refine ⟨h.1, fun q hq => ?_⟩
  have eA : fa_AR P m 4 q ↔ fa_A P m q := by
    constructor
    · rintro ⟨s, l, _, h2⟩
      exact ⟨s, l, h2⟩
    · rintro ⟨s, l, h2⟩
      have := (wI l h2.1.2.1.1).2.1
      have e := h2.1.2.1.2.2.1
      exact ⟨s, l, by omega, h2⟩
  have eB : fa_BR P m es 4 q ↔ fa_B P m es q := by
    constructor
    · rintro ⟨j, ⟨h1, _⟩ | ⟨h1, _⟩⟩
      · exact ⟨j, Or.inl h1⟩
      · exact ⟨j, Or.inr h1⟩
    · rintro ⟨j, h1 | h1⟩
      · exact ⟨j, Or.inl ⟨h1, (wI q hq).2.1⟩⟩
      · exact ⟨j, Or.inr ⟨h1, (wI j (Nat.lt_trans h1.1 h1.2.1)).2.1⟩⟩
  have g := h.2 q hq
  rw [eA, eB] at g
  exact g
end PDR
