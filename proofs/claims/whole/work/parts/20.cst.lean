/-! THE SHAPE of the class's object and of the reference's -/
abbrev kC (m : Nat) : Nat := 15 + 15 * m
abbrev kCa (m t : Nat) : Nat := 16 + 15 * m + t
abbrev kF (m : Nat) : Nat := 21 + 15 * m
abbrev kFm (m : Nat) : Nat := 22 + 15 * m
abbrev kFh (m : Nat) : Nat := 23 + 15 * m
abbrev kFr (m f : Nat) : Nat := 24 + 15 * m + f
abbrev kFs (m : Nat) : Nat := 26 + 15 * m
abbrev kFx (m : Nat) : Nat := 27 + 15 * m
abbrev kPl (m : Nat) : Nat := 28 + 15 * m
abbrev kPf (m : Nat) : Nat := 29 + 15 * m
def shB (m : Nat) : List fm_C := [.inr (0, [some (kCa m 0), some (kCa m 1), some (kCa m 2), some (kCa m 3), some (kCa m 4), none, none]), .inl (0, 24, []), .inl (0, 24, []), .inl (0, 24, []), .inl (0, 24, []), .inl (0, 24, []),
  .inr (1, [some (kFm m), some (kFh m), some (kFs m), some (kFx m), none, none, none, none]), .inl (0, 4, []), .inl (5, 2, [kFr m 0, kFr m 1]), .inl (0, 27, []), .inl (0, 27, []), .inl (0, 2, []), .inl (1, 2, []),
  .inr (3, [some (kPf m)]), .inl (0, 24, [])]
def shC : List fm_C := [.inr (4, [some 1, some 2, some 3, some 4, none]), .inl (2, 5, [kC 0, kC 1, kC 2, kC 3, kC 4]), .inl (3, 5, [kF 0, kF 1, kF 2, kF 3, kF 4]), .inl (4, 5, [kPl 0, kPl 1, kPl 2, kPl 3, kPl 4]),
  .inr (2, [some 5, some 6, some 7, some 8, some 9, some 10, some 11, some 12, some 13, none, some 14, none, none, none, none, none]), .inl (0, 866, []), .inl (0, 866, []), .inl (0, 433, []), .inl (0, 4, []), .inl (0, 8, []), .inl (0, 8, []), .inl (0, 8, []), .inl (0, 32, []), .inl (0, 32, []), .inl (0, 32, [])]
  ++ (shB 0 ++ (shB 1 ++ (shB 2 ++ (shB 3 ++ shB 4))))
def shR : List fm_C := [.inr (5, [none, some 1, some 2, some 3, some 4, some 5, some 6, some 7, none, some 8, some 9, some 10, some 11, some 12, none, some 13, some 14, some 15, some 16, some 17, some 18, some 19, none, some 20, none, none, none, none, some 21, some 22]),
  .inl (0, 5, []), .inl (0, 5, []), .inl (0, 120, []), .inl (0, 120, []), .inl (0, 120, []), .inl (0, 120, []), .inl (0, 120, []), .inl (0, 20, []), .inl (0, 270, []), .inl (0, 5, []), .inl (0, 10, []), .inl (1, 24, []), .inl (0, 8, []), .inl (0, 8, []), .inl (0, 8, []), .inl (0, 32, []), .inl (0, 32, []), .inl (0, 160, []), .inl (0, 2100, []), .inl (0, 4, []), .inl (0, 32, []), .inl (0, 120, [])]
def tyA : List FieldType := [.int, .boolean, .object nC, .object nF, .object nP, .array .int]
def SC : fm_S := (vwA, shC, tyA, wsA)
def SR : fm_S := (vwA, shR, tyA, wsA)
theorem lt5 {Q : Nat → Prop} (h0 : Q 0) (h1 : Q 1) (h2 : Q 2) (h3 : Q 3) (h4 : Q 4) : ∀ m, m < 5 → Q m := by
  intro m hm
  rcases (by omega : m = 0 ∨ m = 1 ∨ m = 2 ∨ m = 3 ∨ m = 4) with e | e | e | e | e <;> subst e <;> assumption
theorem s_C {m : Nat} (h : m < 5) : SC.2.1[kC m]? = some (.inr (0, [some (kCa m 0), some (kCa m 1), some (kCa m 2), some (kCa m 3), some (kCa m 4), none, none])) := lt5 (Q := fun m => SC.2.1[kC m]? = some (.inr (0, [some (kCa m 0), some (kCa m 1), some (kCa m 2), some (kCa m 3), some (kCa m 4), none, none]))) rfl rfl rfl rfl rfl m h
theorem s_Ca0 {m : Nat} (h : m < 5) : SC.2.1[kCa m 0]? = some (.inl (0, 24, [])) := lt5 (Q := fun m => SC.2.1[kCa m 0]? = some (.inl (0, 24, []))) rfl rfl rfl rfl rfl m h
theorem s_Ca1 {m : Nat} (h : m < 5) : SC.2.1[kCa m 1]? = some (.inl (0, 24, [])) := lt5 (Q := fun m => SC.2.1[kCa m 1]? = some (.inl (0, 24, []))) rfl rfl rfl rfl rfl m h
theorem s_Ca2 {m : Nat} (h : m < 5) : SC.2.1[kCa m 2]? = some (.inl (0, 24, [])) := lt5 (Q := fun m => SC.2.1[kCa m 2]? = some (.inl (0, 24, []))) rfl rfl rfl rfl rfl m h
theorem s_Ca3 {m : Nat} (h : m < 5) : SC.2.1[kCa m 3]? = some (.inl (0, 24, [])) := lt5 (Q := fun m => SC.2.1[kCa m 3]? = some (.inl (0, 24, []))) rfl rfl rfl rfl rfl m h
theorem s_Ca4 {m : Nat} (h : m < 5) : SC.2.1[kCa m 4]? = some (.inl (0, 24, [])) := lt5 (Q := fun m => SC.2.1[kCa m 4]? = some (.inl (0, 24, []))) rfl rfl rfl rfl rfl m h
theorem s_F {m : Nat} (h : m < 5) : SC.2.1[kF m]? = some (.inr (1, [some (kFm m), some (kFh m), some (kFs m), some (kFx m), none, none, none, none])) := lt5 (Q := fun m => SC.2.1[kF m]? = some (.inr (1, [some (kFm m), some (kFh m), some (kFs m), some (kFx m), none, none, none, none]))) rfl rfl rfl rfl rfl m h
theorem s_Fm {m : Nat} (h : m < 5) : SC.2.1[kFm m]? = some (.inl (0, 4, [])) := lt5 (Q := fun m => SC.2.1[kFm m]? = some (.inl (0, 4, []))) rfl rfl rfl rfl rfl m h
theorem s_Fh {m : Nat} (h : m < 5) : SC.2.1[kFh m]? = some (.inl (5, 2, [kFr m 0, kFr m 1])) := lt5 (Q := fun m => SC.2.1[kFh m]? = some (.inl (5, 2, [kFr m 0, kFr m 1]))) rfl rfl rfl rfl rfl m h
theorem s_Fr {m f : Nat} (h : m < 5) (hf : f < 2) : SC.2.1[kFr m f]? = some (.inl (0, 27, [])) := by
  rcases (by omega : f = 0 ∨ f = 1) with e | e <;> subst e
  · exact lt5 (Q := fun m => SC.2.1[kFr m 0]? = some (.inl (0, 27, []))) rfl rfl rfl rfl rfl m h
  · exact lt5 (Q := fun m => SC.2.1[kFr m 1]? = some (.inl (0, 27, []))) rfl rfl rfl rfl rfl m h
theorem s_Fs {m : Nat} (h : m < 5) : SC.2.1[kFs m]? = some (.inl (0, 2, [])) := lt5 (Q := fun m => SC.2.1[kFs m]? = some (.inl (0, 2, []))) rfl rfl rfl rfl rfl m h
theorem s_Fx {m : Nat} (h : m < 5) : SC.2.1[kFx m]? = some (.inl (1, 2, [])) := lt5 (Q := fun m => SC.2.1[kFx m]? = some (.inl (1, 2, []))) rfl rfl rfl rfl rfl m h
theorem s_P {m : Nat} (h : m < 5) : SC.2.1[kPl m]? = some (.inr (3, [some (kPf m)])) := lt5 (Q := fun m => SC.2.1[kPl m]? = some (.inr (3, [some (kPf m)]))) rfl rfl rfl rfl rfl m h
theorem s_Pf {m : Nat} (h : m < 5) : SC.2.1[kPf m]? = some (.inl (0, 24, [])) := lt5 (Q := fun m => SC.2.1[kPf m]? = some (.inl (0, 24, []))) rfl rfl rfl rfl rfl m h
theorem r_C {m : Nat} (h : m < 5) : [kC 0, kC 1, kC 2, kC 3, kC 4][m]? = some (kC m) := lt5 (Q := fun m => [kC 0, kC 1, kC 2, kC 3, kC 4][m]? = some (kC m)) rfl rfl rfl rfl rfl m h
theorem r_F {m : Nat} (h : m < 5) : [kF 0, kF 1, kF 2, kF 3, kF 4][m]? = some (kF m) := lt5 (Q := fun m => [kF 0, kF 1, kF 2, kF 3, kF 4][m]? = some (kF m)) rfl rfl rfl rfl rfl m h
theorem r_P {m : Nat} (h : m < 5) : [kPl 0, kPl 1, kPl 2, kPl 3, kPl 4][m]? = some (kPl m) := lt5 (Q := fun m => [kPl 0, kPl 1, kPl 2, kPl 3, kPl 4][m]? = some (kPl m)) rfl rfl rfl rfl rfl m h
theorem r_Fr {m f : Nat} (hf : f < 2) : [kFr m 0, kFr m 1][f]? = some (kFr m f) := by
  rcases (by omega : f = 0 ∨ f = 1) with e | e <;> subst e <;> rfl
/-- the program that the memory holds -/
def cP (M : fm_M) (P : pr_T) : Prop := ∀ m, m < 5 → M (kC m) 5 = nI (P.1 m) ∧ M (kC m) 6 = nI (P.2.1 m) ∧
  ∀ i, i < P.1 m → M (kCa m 0) i = nI (P.2.2 m i).1 ∧ M (kCa m 1) i = nI (P.2.2 m i).2.1 ∧ M (kCa m 2) i = nI (P.2.2 m i).2.2.1 ∧ M (kCa m 3) i = nI (P.2.2 m i).2.2.2.1 ∧ M (kCa m 4) i = (P.2.2 m i).2.2.2.2
/-- the cells of the codes -/
def isC (a : Nat) : Prop := ∃ m t, m < 5 ∧ t < 6 ∧ a = 15 + 15 * m + t
theorem cP_cg {M M' : fm_M} {P : pr_T} (h : cP M P) (e : ∀ a j, isC a → M' a j = M a j) : cP M' P := by
  intro m hm
  obtain ⟨h1, h2, h3⟩ := h m hm
  have q : ∀ t, t < 6 → ∀ j, M' (15 + 15 * m + t) j = M (15 + 15 * m + t) j := fun t ht j => e _ j ⟨m, t, hm, ht, rfl⟩
  refine ⟨(q 0 (by omega) 5).trans h1, (q 0 (by omega) 6).trans h2, fun i hi => ?_⟩
  obtain ⟨a0, a1, a2, a3, a4⟩ := h3 i hi
  have w : ∀ t, t < 5 → M' (kCa m t) i = M (kCa m t) i := fun t ht => by
    have := q (t + 1) (by omega) i
    rw [show 15 + 15 * m + (t + 1) = kCa m t by show _ = 16 + 15 * m + t; omega] at this
    exact this
  exact ⟨(w 0 (by omega)).trans a0, (w 1 (by omega)).trans a1, (w 2 (by omega)).trans a2, (w 3 (by omega)).trans a3, (w 4 (by omega)).trans a4⟩
/-- the state of the analysis of method m, as the memory holds it -/
def cA (M : fm_M) (m : Nat) : an_T := (fun r => if r < 4 then M (kFm m) r else 0, fun a g => if a < 27 ∧ g < 2 then M (kFr m g) a else 0, M (kF m) 4)
theorem cA_m {M : fm_M} {m r : Nat} (h : r < 4) : (cA M m).1 r = M (kFm m) r := if_pos h
theorem cA_h {M : fm_M} {m a g : Nat} (h : a < 27) (k : g < 2) : (cA M m).2.1 a g = M (kFr m g) a := if_pos ⟨h, k⟩
theorem cA_g {M : fm_M} {m : Nat} : (cA M m).2.2 = M (kF m) 4 := rfl
/-- the cells that the steps of the analysis of m may change -/
def cW (m a j : Nat) : Prop := a = kFm m ∨ a = kFr m 0 ∨ a = kFr m 1 ∨ (a = kF m ∧ (j = 7 ∨ j = 4))
/-- a step of the analysis -/
def cS (m : Nat) (M M' : fm_M) (σ : an_T) : Prop :=
  cA M' m = σ ∧ an_le (cA M m) σ ∧ (∀ a j, ¬ cW m a j → M' a j = M a j) ∧
  ((an_same (cA M m) σ ∧ M' (kF m) 7 = M (kF m) 7) ∨ (¬ an_same (cA M m) σ ∧ M' (kF m) 7 = 1))
theorem cS_rf (m : Nat) (M : fm_M) : cS m M M (cA M m) := ⟨rfl, an_le_rf _, fun _ _ _ => rfl, Or.inl ⟨⟨rfl, rfl⟩, rfl⟩⟩
theorem cS_tr {m : Nat} {M M' M'' : fm_M} {σ τ : an_T} (h : cS m M M' σ) (k : cS m M' M'' τ) : cS m M M'' τ := by
  obtain ⟨h1, h2, h3, h4⟩ := h
  obtain ⟨k1, k2, k3, k4⟩ := k
  rw [h1] at k2 k4
  refine ⟨k1, an_le_tr h2 k2, fun a j q => (k3 a j q).trans (h3 a j q), ?_⟩
  rcases h4 with ⟨a1, a2⟩ | ⟨a1, a2⟩
  · rcases k4 with ⟨b1, b2⟩ | ⟨b1, b2⟩
    · exact Or.inl ⟨⟨a1.1.trans b1.1, a1.2.trans b1.2⟩, b2.trans a2⟩
    · refine Or.inr ⟨fun q => b1 ⟨a1.1.symm.trans q.1, a1.2.symm.trans q.2⟩, b2⟩
  · refine Or.inr ⟨fun q => a1 (an_same_mid h2 k2 q).1, ?_⟩
    rcases k4 with ⟨_, b2⟩ | ⟨_, b2⟩
    · exact b2.trans a2
    · exact b2
theorem cS_eq {m : Nat} {M M' : fm_M} {σ τ : an_T} (h : cS m M M' σ) (e : σ = τ) : cS m M M' τ := e ▸ h
theorem cS_P {m : Nat} (hm : m < 5) {M M' : fm_M} {σ : an_T} {P : pr_T} (h : cS m M M' σ) (k : cP M P) : cP M' P := by
  refine cP_cg k (fun a j q => h.2.2.1 a j (fun w => ?_))
  obtain ⟨n, t, hn, ht, e⟩ := q
  rcases w with w | w | w | ⟨w, _⟩
  · have : 22 + 15 * m = 15 + 15 * n + t := w.symm.trans e
    omega
  · have : 24 + 15 * m + 0 = 15 + 15 * n + t := w.symm.trans e
    omega
  · have : 24 + 15 * m + 1 = 15 + 15 * n + t := w.symm.trans e
    omega
  · have : 21 + 15 * m = 15 + 15 * n + t := w.symm.trans e
    omega
/-- a reference may be more: nothing changes -/
theorem cS_m0 {m r : Nat} (hr : r < 4) {M : fm_M} {s : Int32} (h : (M (kFm m) r ||| s) = M (kFm m) r) : cS m M M (an_m (cA M m) r s) := by
  refine cS_eq (cS_rf m M) (an_le_eq (an_m_up _ _ _) (an_m_le (an_le_rf _) ?_))
  rw [cA_m hr]
  exact an_or_eq.mp h
theorem cS_m1 {m r : Nat} (hr : r < 4) {M : fm_M} {s : Int32} (h : ¬ (M (kFm m) r ||| s) = M (kFm m) r) : cS m M (fm_up (fm_up M (kFm m) r (M (kFm m) r ||| s)) (kF m) 7 1) (an_m (cA M m) r s) := by
  have e : cA (fm_up (fm_up M (kFm m) r (M (kFm m) r ||| s)) (kF m) 7 1) m = an_m (cA M m) r s := by
    refine Prod.ext (funext fun x => ?_) (Prod.ext (funext fun a => funext fun g => ?_) ?_)
    · show (if x < 4 then fm_up (fm_up M (kFm m) r (M (kFm m) r ||| s)) (kF m) 7 1 (kFm m) x else 0) = (if x = r then (if x < 4 then M (kFm m) x else 0) ||| s else (if x < 4 then M (kFm m) x else 0))
      rw [fm_up_n (by show ¬ (22 + 15 * m = 21 + 15 * m ∧ _); omega)]
      by_cases z : x = r
      · subst z; rw [if_pos hr, if_pos rfl, if_pos hr, fm_up_s]
      · rw [if_neg z, fm_up_n (by omega)]
    · show (if a < 27 ∧ g < 2 then fm_up (fm_up M (kFm m) r (M (kFm m) r ||| s)) (kF m) 7 1 (kFr m g) a else 0) = (if a < 27 ∧ g < 2 then M (kFr m g) a else 0)
      split
      · rw [fm_up_n (by show ¬ (24 + 15 * m + g = 21 + 15 * m ∧ _); omega), fm_up_n (by show ¬ (24 + 15 * m + g = 22 + 15 * m ∧ _); omega)]
      · rfl
    · show fm_up (fm_up M (kFm m) r (M (kFm m) r ||| s)) (kF m) 7 1 (kF m) 4 = M (kF m) 4
      rw [fm_up_n (by omega), fm_up_n (by show ¬ (21 + 15 * m = 22 + 15 * m ∧ _); omega)]
  refine ⟨e, an_m_up _ _ _, fun a j q => ?_, Or.inr ⟨fun q => h ?_, fm_up_s⟩⟩
  · rw [fm_up_n (fun z => q (Or.inr (Or.inr (Or.inr ⟨z.1, Or.inl z.2⟩)))), fm_up_n (fun z => q (Or.inl z.1))]
  · have := congrFun q.1 r
    rw [cA_m hr] at this
    have e3 : (an_m (cA M m) r s).1 r = M (kFm m) r ||| s := by
      show (if r = r then (cA M m).1 r ||| s else (cA M m).1 r) = _
      rw [if_pos rfl, cA_m hr]
    exact (this.trans e3).symm
/-- one row, one place: more is held -/
def cHs (f a0 : Nat) : Nat → Nat → Bool := fun a g => decide (a = a0) && decide (g = f)
def cHn (f n : Nat) : Nat → Nat → Bool := fun a g => decide (a < n) && decide (g = f)
theorem an_h_0 {σ : an_T} {who : Int32} {sel : Nat → Nat → Bool} {s : Int32} (h : ∀ a g, a < 27 → g < 2 → bt who a = true → sel a g = true → an_sub s (σ.2.1 a g)) : an_h σ who sel s = σ :=
  an_le_eq (an_h_le (an_le_rf σ) (fun a ha g hg hw hs => h a g ha hg hw hs)) (an_h_up _ _ _ _)
theorem an_h_cat {σ : an_T} {w1 w2 w3 : Int32} {s1 s2 s3 : Nat → Nat → Bool} {s : Int32}
    (h : ∀ a g, a < 27 → g < 2 → ((bt w1 a = true ∧ s1 a g = true) ∨ (bt w2 a = true ∧ s2 a g = true) ↔ (bt w3 a = true ∧ s3 a g = true))) : an_h (an_h σ w1 s1 s) w2 s2 s = an_h σ w3 s3 s := by
  refine an_le_eq (an_h_le (an_h_le (an_h_up _ _ _ _) (fun a ha g hg hw hs b q => ?_)) (fun a ha g hg hw hs b q => ?_)) (an_h_le (an_le_tr (an_h_up _ _ _ _) (an_h_up _ _ _ _)) (fun a ha g hg hw hs b q => ?_))
  · have z := (h a g ha hg).mp (Or.inl ⟨hw, hs⟩)
    show bt (if a < 27 ∧ g < 2 ∧ bt w3 a = true ∧ s3 a g = true then σ.2.1 a g ||| s else σ.2.1 a g) b = true
    rw [if_pos ⟨ha, hg, z.1, z.2⟩]
    exact an_sub_orr _ _ b q
  · have z := (h a g ha hg).mp (Or.inr ⟨hw, hs⟩)
    show bt (if a < 27 ∧ g < 2 ∧ bt w3 a = true ∧ s3 a g = true then σ.2.1 a g ||| s else σ.2.1 a g) b = true
    rw [if_pos ⟨ha, hg, z.1, z.2⟩]
    exact an_sub_orr _ _ b q
  · rcases (h a g ha hg).mpr ⟨hw, hs⟩ with z | z
    · refine (an_h_up (an_h σ w1 s1 s) w2 s2 s).2.1 a g b ?_
      show bt (if a < 27 ∧ g < 2 ∧ bt w1 a = true ∧ s1 a g = true then σ.2.1 a g ||| s else σ.2.1 a g) b = true
      rw [if_pos ⟨ha, hg, z.1, z.2⟩]
      exact an_sub_orr _ _ b q
    · show bt (if a < 27 ∧ g < 2 ∧ bt w2 a = true ∧ s2 a g = true then (an_h σ w1 s1 s).2.1 a g ||| s else (an_h σ w1 s1 s).2.1 a g) b = true
      rw [if_pos ⟨ha, hg, z.1, z.2⟩]
      exact an_sub_orr _ _ b q
/-- the loop of holdIn: place n isn't asked for, or holds it already -/
theorem cS_h0 {m f n : Nat} (hf : f < 2) (hn : n < 27) {M M' : fm_M} {who s : Int32} (h : cS m M M' (an_h (cA M m) who (cHn f n) s)) (k : ¬ (bt who n = true ∧ ¬ (M' (kFr m f) n ||| s) = M' (kFr m f) n)) : cS m M M' (an_h (cA M m) who (cHn f (n + 1)) s) := by
  have k' : bt who n = true → (M' (kFr m f) n ||| s) = M' (kFr m f) n := fun q => Classical.byContradiction (fun z => k ⟨q, z⟩)
  refine cS_eq h ?_
  have e : an_h (an_h (cA M m) who (cHn f n) s) who (cHs f n) s = an_h (cA M m) who (cHn f (n + 1)) s := by
    refine an_h_cat (fun a g ha hg => ?_)
    simp only [cHn, cHs, Bool.and_eq_true, decide_eq_true_eq]
    constructor
    · rintro (⟨a1, a2, a3⟩ | ⟨a1, a2, a3⟩)
      · exact ⟨a1, by omega, a3⟩
      · exact ⟨a1, by omega, a3⟩
    · rintro ⟨a1, a2, a3⟩
      by_cases z : a = n
      · exact Or.inr ⟨a1, z, a3⟩
      · exact Or.inl ⟨a1, by omega, a3⟩
  rw [← e]
  refine (an_h_0 (fun a g ha hg hw hs => ?_)).symm
  simp only [cHs, Bool.and_eq_true, decide_eq_true_eq] at hs
  obtain ⟨rfl, rfl⟩ := hs
  rw [← h.1, cA_h ha hg]
  exact an_or_eq.mp (k' hw)
theorem cS_h1 {m f n : Nat} (hf : f < 2) (hn : n < 27) {M M' : fm_M} {who s : Int32} (h : cS m M M' (an_h (cA M m) who (cHn f n) s)) (hw : bt who n = true) (hne : ¬ (M' (kFr m f) n ||| s) = M' (kFr m f) n) : cS m M (fm_up (fm_up M' (kFr m f) n (M' (kFr m f) n ||| s)) (kF m) 7 1) (an_h (cA M m) who (cHn f (n + 1)) s) := by
  refine cS_tr h ?_
  have e : an_h (cA M' m) who (cHs f n) s = an_h (cA M m) who (cHn f (n + 1)) s := by
    rw [h.1]
    refine an_h_cat (fun a g ha hg => ?_)
    simp only [cHn, cHs, Bool.and_eq_true, decide_eq_true_eq]
    constructor
    · rintro (⟨a1, a2, a3⟩ | ⟨a1, a2, a3⟩)
      · exact ⟨a1, by omega, a3⟩
      · exact ⟨a1, by omega, a3⟩
    · rintro ⟨a1, a2, a3⟩
      by_cases z : a = n
      · exact Or.inr ⟨a1, z, a3⟩
      · exact Or.inl ⟨a1, by omega, a3⟩
  rw [← e]
  have e2 : cA (fm_up (fm_up M' (kFr m f) n (M' (kFr m f) n ||| s)) (kF m) 7 1) m = an_h (cA M' m) who (cHs f n) s := by
    refine Prod.ext (funext fun x => ?_) (Prod.ext (funext fun a => funext fun g => ?_) ?_)
    · show (if x < 4 then fm_up (fm_up M' (kFr m f) n (M' (kFr m f) n ||| s)) (kF m) 7 1 (kFm m) x else 0) = (if x < 4 then M' (kFm m) x else 0)
      rw [fm_up_n (by show ¬ (22 + 15 * m = 21 + 15 * m ∧ _); omega), fm_up_n (by show ¬ (22 + 15 * m = 24 + 15 * m + f ∧ _); omega)]
    · show (if a < 27 ∧ g < 2 then fm_up (fm_up M' (kFr m f) n (M' (kFr m f) n ||| s)) (kF m) 7 1 (kFr m g) a else 0) = (if a < 27 ∧ g < 2 ∧ bt who a = true ∧ cHs f n a g = true then (if a < 27 ∧ g < 2 then M' (kFr m g) a else 0) ||| s else (if a < 27 ∧ g < 2 then M' (kFr m g) a else 0))
      by_cases z : a < 27 ∧ g < 2
      · rw [if_pos z, if_pos z, fm_up_n (by show ¬ (24 + 15 * m + g = 21 + 15 * m ∧ _); omega)]
        by_cases y : a = n ∧ g = f
        · obtain ⟨rfl, rfl⟩ := y
          rw [fm_up_s, if_pos ⟨z.1, z.2, hw, by simp [cHs]⟩]
        · rw [fm_up_n (by show ¬ (24 + 15 * m + g = 24 + 15 * m + f ∧ _); omega), if_neg (fun q => y (by simpa [cHs] using q.2.2.2))]
      · rw [if_neg z, if_neg z, if_neg (fun q => z ⟨q.1, q.2.1⟩)]
    · show fm_up (fm_up M' (kFr m f) n (M' (kFr m f) n ||| s)) (kF m) 7 1 (kF m) 4 = M' (kF m) 4
      rw [fm_up_n (by omega), fm_up_n (by show ¬ (21 + 15 * m = 24 + 15 * m + f ∧ _); omega)]
  refine ⟨e2, an_h_up _ _ _ _, fun a j q => ?_, Or.inr ⟨fun q => hne ?_, fm_up_s⟩⟩
  · rw [fm_up_n (fun z => q (Or.inr (Or.inr (Or.inr ⟨z.1, Or.inl z.2⟩)))), fm_up_n (fun z => ?_)]
    rcases (show f = 0 ∨ f = 1 by omega) with w | w
    · subst w; exact q (Or.inr (Or.inl z.1))
    · subst w; exact q (Or.inr (Or.inr (Or.inl z.1)))
  · have := congrFun (congrFun q.2 n) f
    rw [cA_h hn hf] at this
    have e3 : (an_h (cA M' m) who (cHs f n) s).2.1 n f = (cA M' m).2.1 n f ||| s := if_pos ⟨hn, hf, hw, by simp [cHs]⟩
    rw [e3, cA_h hn hf] at this
    exact this.symm
