/-! THE REFERENCE'S STATE over flat memory: cell 0 the object; 1 params, 2 lengths, 3 op, 4 xs, 5 ys, 6 zs, 7 ns, 8 may, 9 hold, 10 given, 11 summary, 12 open, 13 method, 14 place, 15 goal, 16 refs, 17 ints, 18 parts, 19 objects, 20 globals, 21 shown, 22 fates -/
/-- the program that the memory holds -/
def rP (M : fm_M) (P : pr_T) : Prop := ∀ m, m < 5 → M 2 m = nI (P.1 m) ∧ M 1 m = nI (P.2.1 m) ∧
  ∀ i, i < P.1 m → M 3 (24 * m + i) = nI (P.2.2 m i).1 ∧ M 4 (24 * m + i) = nI (P.2.2 m i).2.1 ∧ M 5 (24 * m + i) = nI (P.2.2 m i).2.2.1 ∧ M 6 (24 * m + i) = nI (P.2.2 m i).2.2.2.1 ∧ M 7 (24 * m + i) = (P.2.2 m i).2.2.2.2
theorem rP_cg {M M' : fm_M} {P : pr_T} (h : rP M P) (e : ∀ a j, 1 ≤ a → a ≤ 7 → M' a j = M a j) : rP M' P := by
  intro m hm
  obtain ⟨h1, h2, h3⟩ := h m hm
  refine ⟨(e 2 m (by omega) (by omega)).trans h1, (e 1 m (by omega) (by omega)).trans h2, fun i hi => ?_⟩
  obtain ⟨a0, a1, a2, a3, a4⟩ := h3 i hi
  exact ⟨(e 3 _ (by omega) (by omega)).trans a0, (e 4 _ (by omega) (by omega)).trans a1, (e 5 _ (by omega) (by omega)).trans a2, (e 6 _ (by omega) (by omega)).trans a3, (e 7 _ (by omega) (by omega)).trans a4⟩
def rA (M : fm_M) (m : Nat) : an_T := (fun r => if r < 4 then M 8 (4 * m + r) else 0, fun a g => if a < 27 ∧ g < 2 then M 9 (54 * m + 2 * a + g) else 0, M 10 m)
theorem rA_m {M : fm_M} {m r : Nat} (h : r < 4) : (rA M m).1 r = M 8 (4 * m + r) := if_pos h
theorem rA_h {M : fm_M} {m a g : Nat} (h : a < 27) (k : g < 2) : (rA M m).2.1 a g = M 9 (54 * m + 2 * a + g) := if_pos ⟨h, k⟩
/-- the places that the analysis of m may change -/
def rW (m a j : Nat) : Prop := (a = 8 ∧ 4 * m ≤ j ∧ j < 4 * m + 4) ∨ (a = 9 ∧ 54 * m ≤ j ∧ j < 54 * m + 54) ∨ (a = 10 ∧ j = m)
def rS (m : Nat) (M M' : fm_M) (σ : an_T) : Prop := rA M' m = σ ∧ ∀ a j, ¬ rW m a j → M' a j = M a j
theorem rS_rf (m : Nat) (M : fm_M) : rS m M M (rA M m) := ⟨rfl, fun _ _ _ => rfl⟩
theorem rS_tr {m : Nat} {M M' M'' : fm_M} {σ τ : an_T} (h : rS m M M' σ) (k : rS m M' M'' τ) : rS m M M'' τ :=
  ⟨k.1, fun a j q => (k.2 a j q).trans (h.2 a j q)⟩
theorem rS_eq {m : Nat} {M M' : fm_M} {σ τ : an_T} (h : rS m M M' σ) (e : σ = τ) : rS m M M' τ := e ▸ h
theorem rS_P {m : Nat} {M M' : fm_M} {σ : an_T} {P : pr_T} (h : rS m M M' σ) (k : rP M P) : rP M' P := by
  refine rP_cg k (fun a j h1 h2 => h.2 a j (fun w => ?_))
  rcases w with w | w | w <;> omega
/-- another method's state is as it was -/
theorem rS_o {m n : Nat} (hn : n ≠ m) {M M' : fm_M} {σ : an_T} (h : rS m M M' σ) : rA M' n = rA M n := by
  refine Prod.ext (funext fun x => ?_) (Prod.ext (funext fun a => funext fun g => ?_) ?_)
  · show (if x < 4 then M' 8 (4 * n + x) else 0) = (if x < 4 then M 8 (4 * n + x) else 0)
    split
    · exact h.2 _ _ (fun w => by rcases w with w | w | w <;> omega)
    · rfl
  · show (if a < 27 ∧ g < 2 then M' 9 (54 * n + 2 * a + g) else 0) = (if a < 27 ∧ g < 2 then M 9 (54 * n + 2 * a + g) else 0)
    split
    · exact h.2 _ _ (fun w => by rcases w with w | w | w <;> omega)
    · rfl
  · exact h.2 10 n (fun w => by rcases w with w | w | w <;> omega)
theorem rS_m {m x : Nat} (hx : x < 4) (M : fm_M) (s : Int32) : rS m M (fm_up M 8 (4 * m + x) (M 8 (4 * m + x) ||| s)) (an_m (rA M m) x s) := by
  refine ⟨Prod.ext (funext fun r => ?_) (Prod.ext (funext fun a => funext fun g => ?_) ?_), fun a j q => ?_⟩
  · show (if r < 4 then fm_up M 8 (4 * m + x) (M 8 (4 * m + x) ||| s) 8 (4 * m + r) else 0) = (if r = x then (if r < 4 then M 8 (4 * m + r) else 0) ||| s else (if r < 4 then M 8 (4 * m + r) else 0))
    by_cases z : r = x
    · subst z; rw [if_pos hx, if_pos rfl, if_pos hx, fm_up_s]
    · rw [if_neg z, fm_up_n (by omega)]
  · show (if a < 27 ∧ g < 2 then fm_up M 8 (4 * m + x) (M 8 (4 * m + x) ||| s) 9 (54 * m + 2 * a + g) else 0) = (if a < 27 ∧ g < 2 then M 9 (54 * m + 2 * a + g) else 0)
    rw [fm_up_n (by omega)]
  · show fm_up M 8 (4 * m + x) (M 8 (4 * m + x) ||| s) 10 m = M 10 m
    rw [fm_up_n (by omega)]
  · exact fm_up_n (fun z => q (Or.inl ⟨z.1, by omega, by omega⟩))
theorem rS_g {m : Nat} (M : fm_M) (s : Int32) : rS m M (fm_up M 10 m (M 10 m ||| s)) (an_g (rA M m) s) := by
  refine ⟨Prod.ext (funext fun r => ?_) (Prod.ext (funext fun a => funext fun g => ?_) ?_), fun a j q => ?_⟩
  · show (if r < 4 then fm_up M 10 m (M 10 m ||| s) 8 (4 * m + r) else 0) = (if r < 4 then M 8 (4 * m + r) else 0)
    rw [fm_up_n (by omega)]
  · show (if a < 27 ∧ g < 2 then fm_up M 10 m (M 10 m ||| s) 9 (54 * m + 2 * a + g) else 0) = (if a < 27 ∧ g < 2 then M 9 (54 * m + 2 * a + g) else 0)
    rw [fm_up_n (by omega)]
  · show fm_up M 10 m (M 10 m ||| s) 10 m = M 10 m ||| s
    exact fm_up_s
  · exact fm_up_n (fun z => q (Or.inr (Or.inr z)))
/-- which places 'holds' has gone through, and takes -/
def rHs (f : Nat) : Nat → Nat → Bool := fun a g => decide (23 < a) || (decide (g = f) || decide (f = 2))
def rHn (f n : Nat) : Nat → Nat → Bool := fun a g => decide (2 * a + g < n) && rHs f a g
theorem rHn_0 (σ : an_T) (who s : Int32) (f : Nat) : an_h σ who (rHn f 0) s = σ :=
  an_h_0 (fun a g _ _ _ hs => by simp [rHn] at hs)
theorem rHn_54 (σ : an_T) (who s : Int32) (f : Nat) : an_h σ who (rHn f 54) s = an_h σ who (rHs f) s := by
  refine Prod.ext rfl (Prod.ext (funext fun a => funext fun g => ?_) rfl)
  show (if a < 27 ∧ g < 2 ∧ bt who a = true ∧ rHn f 54 a g = true then σ.2.1 a g ||| s else σ.2.1 a g) = (if a < 27 ∧ g < 2 ∧ bt who a = true ∧ rHs f a g = true then σ.2.1 a g ||| s else σ.2.1 a g)
  by_cases z : a < 27 ∧ g < 2
  · have e : rHn f 54 a g = rHs f a g := by
      unfold rHn
      rw [decide_eq_true (by omega), Bool.true_and]
    rw [e]
  · rw [if_neg (fun q => z ⟨q.1, q.2.1⟩), if_neg (fun q => z ⟨q.1, q.2.1⟩)]
theorem rHs_2 : rHs 2 = an_al := by
  funext a g
  simp [rHs, an_al]
/-- an object that isn't asked for is passed over -/
theorem rS_hs {m f o : Nat} {M M' : fm_M} {σ : an_T} {who s : Int32} (h : rS m M M' (an_h σ who (rHn f (2 * o)) s)) (k : ¬ bt who o = true) : rS m M M' (an_h σ who (rHn f (2 * (o + 1))) s) := by
  refine rS_eq h (Prod.ext rfl (Prod.ext (funext fun a => funext fun g => ?_) rfl))
  show (if a < 27 ∧ g < 2 ∧ bt who a = true ∧ rHn f (2 * o) a g = true then σ.2.1 a g ||| s else σ.2.1 a g) = (if a < 27 ∧ g < 2 ∧ bt who a = true ∧ rHn f (2 * (o + 1)) a g = true then σ.2.1 a g ||| s else σ.2.1 a g)
  by_cases z : a < 27 ∧ g < 2 ∧ bt who a = true
  · have z2 : a ≠ o := fun e => k (e ▸ z.2.2)
    have e : rHn f (2 * o) a g = rHn f (2 * (o + 1)) a g := by
      unfold rHn
      congr 1
      by_cases y : 2 * a + g < 2 * o
      · rw [decide_eq_true y, decide_eq_true (by omega)]
      · rw [decide_eq_false y, decide_eq_false (by omega)]
    rw [e]
  · rw [if_neg (fun q => z ⟨q.1, q.2.1, q.2.2.1⟩), if_neg (fun q => z ⟨q.1, q.2.1, q.2.2.1⟩)]
/-- one place -/
theorem rS_hp {m f o g0 : Nat} (ho : o < 27) (hg0 : g0 < 2) {M M' : fm_M} {σ : an_T} {who s v : Int32} (hw : bt who o = true) (h : rS m M M' (an_h σ who (rHn f (2 * o + g0)) s))
    (hv : v = if rHs f o g0 = true then M' 9 (54 * m + 2 * o + g0) ||| s else M' 9 (54 * m + 2 * o + g0)) : rS m M (fm_up M' 9 (54 * m + 2 * o + g0) v) (an_h σ who (rHn f (2 * o + g0 + 1)) s) := by
  obtain ⟨h1, h2⟩ := h
  have hh : ∀ a g, a < 27 → g < 2 → M' 9 (54 * m + 2 * a + g) = (an_h σ who (rHn f (2 * o + g0)) s).2.1 a g := fun a g ha hg => by rw [← h1, rA_h ha hg]
  refine ⟨Prod.ext (funext fun r => ?_) (Prod.ext (funext fun a => funext fun g => ?_) ?_), fun a j q => ?_⟩
  · have := congrFun (congrArg Prod.fst h1) r
    show (if r < 4 then fm_up M' 9 (54 * m + 2 * o + g0) v 8 (4 * m + r) else 0) = σ.1 r
    rw [fm_up_n (by omega)]
    exact this
  · show (if a < 27 ∧ g < 2 then fm_up M' 9 (54 * m + 2 * o + g0) v 9 (54 * m + 2 * a + g) else 0) = (if a < 27 ∧ g < 2 ∧ bt who a = true ∧ rHn f (2 * o + g0 + 1) a g = true then σ.2.1 a g ||| s else σ.2.1 a g)
    by_cases z : a < 27 ∧ g < 2
    · rw [if_pos z]
      by_cases y : a = o ∧ g = g0
      · obtain ⟨rfl, rfl⟩ := y
        rw [fm_up_s, hv, hh a g z.1 z.2]
        have e1 : (an_h σ who (rHn f (2 * a + g)) s).2.1 a g = σ.2.1 a g := if_neg (fun q => by
          have := q.2.2.2
          unfold rHn at this
          rw [decide_eq_false (by omega), Bool.false_and] at this
          exact absurd this (by decide))
        rw [e1]
        have e2 : rHn f (2 * a + g + 1) a g = rHs f a g := by
          unfold rHn
          rw [decide_eq_true (by omega), Bool.true_and]
        rw [e2]
        by_cases x : rHs f a g = true
        · rw [if_pos x, if_pos ⟨z.1, z.2, hw, x⟩]
        · rw [if_neg x, if_neg (fun q => x q.2.2.2)]
      · rw [fm_up_n (by omega), hh a g z.1 z.2]
        show (if a < 27 ∧ g < 2 ∧ bt who a = true ∧ rHn f (2 * o + g0) a g = true then σ.2.1 a g ||| s else σ.2.1 a g) = _
        have e : rHn f (2 * o + g0) a g = rHn f (2 * o + g0 + 1) a g := by
          unfold rHn
          congr 1
          by_cases x : 2 * a + g < 2 * o + g0
          · rw [decide_eq_true x, decide_eq_true (by omega)]
          · rw [decide_eq_false x, decide_eq_false (by omega)]
        rw [e]
    · rw [if_neg z, if_neg (fun q => z ⟨q.1, q.2.1⟩)]
      have := congrFun (congrFun (congrArg (fun t : an_T => t.2.1) h1) a) g
      have e0 : (rA M' m).2.1 a g = 0 := if_neg z
      have e1 : (an_h σ who (rHn f (2 * o + g0)) s).2.1 a g = σ.2.1 a g := if_neg (fun q => z ⟨q.1, q.2.1⟩)
      have e2 : (rA M' m).2.1 a g = (an_h σ who (rHn f (2 * o + g0)) s).2.1 a g := this
      rw [← e1, ← e2, e0]
  · have := congrArg (fun t : an_T => t.2.2) h1
    show fm_up M' 9 (54 * m + 2 * o + g0) v 10 m = σ.2.2
    rw [fm_up_n (by omega)]
    exact this
  · rw [fm_up_n (fun z => q (Or.inr (Or.inl ⟨z.1, by omega, by omega⟩)))]
    exact h2 a j q
/-- what one object holds -/
theorem an_hb_1 (row : Nat → Int32) {k : Nat} (hk : k < 27) : an_hb row (an_1 k) 27 = row k := by
  refine an_eq (fun b q => ?_) (fun b q => (an_hb_bt _ _ _ _).mpr ⟨k, hk, an_1_self (by omega), q⟩)
  obtain ⟨a, ha, hw, hb⟩ := (an_hb_bt _ _ _ _).mp q
  rw [an_1_bt (by omega), decide_eq_true_eq] at hw
  rw [← hw]; exact hb
