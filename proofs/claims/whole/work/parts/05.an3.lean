/-! THE ANALYSIS, 3: the least solution, weights, programs -/
theorem an_c0_g (x : Nat) (σ : an_T) : (an_c0 x σ).2.2 = σ.2.2 := rfl
theorem an_r1_g (E : an_E) (y z n p : Nat) (σ : an_T) : (an_r1 E y z n p σ).2.2 = σ.2.2 := rfl
theorem an_r2_g (E : an_E) (x y z n : Nat) (bo : Int32) (p : Nat) (σ : an_T) : (an_r2 E x y z n bo p σ).2.2 = σ.2.2 := by
  unfold an_r2
  split
  · rfl
  · split <;> rfl
theorem an_cn_g (E : an_E) (x y z n : Nat) (σ : an_T) : ∀ k, (an_cn E x y z n k σ).2.2 = σ.2.2 := by
  intro k
  induction k with
  | zero => rfl
  | succ k ih => rw [← ih]; exact an_r2_g _ _ _ _ _ _ _ _
theorem an_st_g {call : Nat → Nat → Nat → Nat → an_T → an_T} (hc : ∀ x y z n σ, (call x y z n σ).2.2 = σ.2.2) {i : Nat} {I : an_I} (h : I.1 ≠ 17) (σ : an_T) : (an_st call i I σ).2.2 = σ.2.2 := by
  unfold an_st
  split
  · rfl
  split
  · rfl
  split
  · rfl
  split
  · rfl
  split
  · rfl
  split
  · rfl
  split
  · exact hc _ _ _ _ _
  first | rfl | rw [if_neg h]
theorem an_ok_cg {E : an_E} {i : Nat} {I : an_I} (h : I.1 ≠ 17) {τ υ : an_T} (e1 : τ.1 = υ.1) (e2 : τ.2.1 = υ.2.1) (q : an_ok E i I τ) : an_ok E i I υ := by
  obtain ⟨m1, h1, g1⟩ := τ
  obtain ⟨m2, h2, g2⟩ := υ
  simp only at e1 e2
  subst e1; subst e2
  unfold an_ok at q ⊢
  rw [if_neg h] at q ⊢
  exact q
/-- what a reference may be, and what is held, are the same -/
def an_same (σ τ : an_T) : Prop := σ.1 = τ.1 ∧ σ.2.1 = τ.2.1
theorem an_same_mid {σ τ υ : an_T} (h1 : an_le σ τ) (h2 : an_le τ υ) (h : an_same σ υ) : an_same σ τ ∧ an_same τ υ := by
  have e1 : σ.1 = τ.1 := funext fun r => an_eq (h1.1 r) (by rw [h.1]; exact h2.1 r)
  have e2 : σ.2.1 = τ.2.1 := funext fun a => funext fun g => an_eq (h1.2.1 a g) (by rw [h.2]; exact h2.2.1 a g)
  exact ⟨⟨e1, e2⟩, e1 ▸ h.1, e2 ▸ h.2⟩
/-- a pass of the class that changes nothing but what is given: all that is asked holds behind it -/
theorem an_pass_fixC {E : an_E} {call : Nat → Nat → Nat → Nat → an_T → an_T} {Is : Nat → an_I} {n : Nat} (hn : n ≤ 24) (hc : ∀ x y z n, an_good (fun τ => an_okc E τ x y z n) (call x y z n)) (hg : ∀ x y z n σ, (call x y z n σ).2.2 = σ.2.2)
    {σ : an_T} (k : an_same σ (an_pass (fun i => an_st call i (Is i)) n σ)) : ∀ i, i < n → an_ok E i (Is i) (an_pass (fun i => an_st call i (Is i)) n σ) := by
  intro i hi
  have h : ∀ i, i < n → an_good (an_ok E i (Is i)) (an_st call i (Is i)) := fun i hi => an_st_good E hc i (by omega) (Is i)
  have a0 := an_pass_up (f := fun i => an_st call i (Is i)) (ok := fun i => an_ok E i (Is i)) i (fun j hj => h j (by omega)) σ
  have a1 := (h i hi).1 (an_pass (fun i => an_st call i (Is i)) i σ)
  have a2 := an_pass_at (f := fun i => an_st call i (Is i)) (ok := fun i => an_ok E i (Is i)) h (by omega : i + 1 ≤ n) σ
  have s1 := an_same_mid (an_le_tr a0 a1) a2 k
  have s2 := an_same_mid a0 a1 s1.1
  by_cases q : (Is i).1 = 17
  · have a2' : an_le (an_st call i (Is i) (an_pass (fun i => an_st call i (Is i)) i σ)) (an_pass (fun i => an_st call i (Is i)) n σ) := a2
    have e : an_st call i (Is i) (an_pass (fun i => an_st call i (Is i)) i σ) = an_g (an_pass (fun i => an_st call i (Is i)) i σ) ((an_pass (fun i => an_st call i (Is i)) i σ).1 (Is i).2.1) := by
      simp [an_st, q]
    rw [e] at a2'
    have e3 : (an_pass (fun i => an_st call i (Is i)) i σ).1 = (an_pass (fun i => an_st call i (Is i)) n σ).1 := s2.1.1.symm.trans k.1
    have : an_sub ((an_pass (fun i => an_st call i (Is i)) n σ).1 (Is i).2.1) (an_pass (fun i => an_st call i (Is i)) n σ).2.2 := by
      rw [← e3]
      exact an_sub_tr (an_sub_orr _ _) a2'.2.2
    simp [an_ok, q]
    exact this
  · have e : an_st call i (Is i) (an_pass (fun i => an_st call i (Is i)) i σ) = an_pass (fun i => an_st call i (Is i)) i σ :=
      Prod.ext s2.2.1.symm (Prod.ext s2.2.2.symm (an_st_g hg q _))
    have o := (h i hi).2.2 (an_pass (fun i => an_st call i (Is i)) i σ) (by rw [e]; exact an_le_rf _)
    exact an_ok_cg q (s2.1.1.symm.trans k.1) (s2.1.2.symm.trans k.2) o
/-- from the start, below every solution -/
def an_inv (st : an_T) (n : Nat) (ok : Nat → an_T → Prop) (σ : an_T) : Prop := an_le st σ ∧ ∀ τ, an_le st τ → (∀ i, i < n → ok i τ) → an_le σ τ
/-- the least solution -/
def an_sol (st : an_T) (n : Nat) (ok : Nat → an_T → Prop) (σ : an_T) : Prop := an_inv st n ok σ ∧ ∀ i, i < n → ok i σ
theorem an_sol_uq {st : an_T} {n : Nat} {ok : Nat → an_T → Prop} {σ τ : an_T} (h : an_sol st n ok σ) (k : an_sol st n ok τ) : σ = τ :=
  an_le_eq (h.1.2 τ k.1.1 k.2) (k.1.2 σ h.1.1 h.2)
theorem an_inv_0 (st : an_T) (n : Nat) (ok : Nat → an_T → Prop) : an_inv st n ok st := ⟨an_le_rf st, fun _ h _ => h⟩
theorem an_inv_p {st : an_T} {n : Nat} {ok : Nat → an_T → Prop} {f : Nat → an_T → an_T} (h : ∀ i, i < n → an_good (ok i) (f i)) {σ : an_T} (k : an_inv st n ok σ) : an_inv st n ok (an_pass f n σ) :=
  ⟨an_le_tr k.1 (an_pass_up n h σ), fun τ h1 h2 => an_pass_le n h σ τ h2 (k.2 τ h1 h2)⟩
/-- all bits -/
def an_F : Int32 := 134217727
theorem an_F_bt (b : Nat) : bt an_F b = decide (b < 27) := by
  rcases Nat.lt_or_ge b 32 with h | h
  · exact (by decide +kernel : ∀ i, i < 32 → bt an_F i = decide (i < 27)) b h
  · rw [b_big h, decide_eq_false (by omega)]
def an_top : an_T := (fun r => if r < 4 then an_F else 0, fun a g => if a < 27 ∧ g < 2 then an_F else 0, an_F)
theorem an_top_m (r : Nat) : an_sub (an_top.1 r) an_F := by
  show an_sub (if r < 4 then an_F else 0) an_F
  split
  · exact an_sub_rf _
  · exact an_sub_0 _
theorem an_top_h (a g : Nat) : an_sub (an_top.2.1 a g) an_F := by
  show an_sub (if a < 27 ∧ g < 2 then an_F else 0) an_F
  split
  · exact an_sub_rf _
  · exact an_sub_0 _
theorem an_top_R {s : Int32} (hs : an_sub s an_F) {b : Nat} (hr : an_R an_top.2.1 s b) : bt an_F b = true :=
  an_C_R (fun a _ _ g _ => an_top_h a g) hs hr
theorem an_top_x {x : Nat} (hx : x < 4) : an_top.1 x = an_F := if_pos hx
theorem an_top_a {a g : Nat} (ha : a < 27) (hg : g < 2) : an_top.2.1 a g = an_F := if_pos ⟨ha, hg⟩
/-- an instruction that the program may hold -/
def an_wf (I : an_I) : Prop := I.1 ≤ 18 ∧ I.2.1 < 4 ∧ I.2.2.1 < 4 ∧ I.2.2.2.1 < 4 ∧ (3 ≤ I.1 → I.1 ≤ 6 → I.2.2.2.1 < 2) ∧ (I.1 = 16 → ∃ n, n < 5 ∧ I.2.2.2.2 = nI n)
theorem an_top_ok (E : an_E) {i : Nat} (hi : i < 24) {I : an_I} (w : an_wf I) : an_ok E i I an_top := by
  obtain ⟨o, x, y, z, n⟩ := I
  obtain ⟨w1, w2, w3, w4, w5, w6⟩ := w
  simp only at w1 w2 w3 w4 w5 w6
  have hag : ∀ p, an_sub (an_ag an_top y z p) an_F := fun p => an_top_m _
  have hbo : ∀ k, an_sub (an_bo an_top k y z) an_F := fun k => by
    unfold an_bo
    split
    · exact an_or_sub (an_top_m _) (an_top_m _)
    · exact an_top_m _
  have h26 : bt an_F 26 = true := by rw [an_F_bt]; rfl
  have hW : an_sub an_W an_F := (an_1_sub (by omega)).mpr h26
  unfold an_ok
  simp only
  split
  · rw [an_top_x w2, an_F_bt]; simp; omega
  split
  · rw [an_top_x w2]; exact an_top_m _
  split
  · intro a ha _; rw [an_top_x w2]; exact an_top_h _ _
  split
  · intro a ha g hg _ _; rw [an_top_a ha hg]; exact an_top_m _
  split
  · intro g hg; rw [an_top_a (by omega) hg]; exact an_top_m _
  split
  · rw [an_top_x w2]; exact an_top_h _ _
  split
  · refine ⟨⟨fun a ha _ g hg => ?_, ?_⟩, fun p _ => ⟨fun a ha _ g hg => ⟨fun b hb => ?_, fun _ => ?_⟩, fun _ g hg => ?_, fun _ => ⟨fun a ha _ g hg b hb => ?_, fun b hb => ?_⟩⟩⟩
    · rw [an_top_a ha hg]; exact h26
    · rw [an_top_x w2]; exact an_top_h _ _
    · rw [an_top_a ha hg]; exact an_top_R (hag p) hb
    · rw [an_top_a ha hg]; exact h26
    · rw [an_top_a (by omega) hg]; exact hag p
    · rw [an_top_a ha hg]; exact an_top_R (hbo _) hb
    · rw [an_top_x w2]; exact an_top_R (hbo _) hb
  split
  · rw [an_top_x w2]; exact an_sub_rf _
  · trivial
/-- sums and weights -/
def an_sum (f : Nat → Nat) : Nat → Nat
  | 0 => 0
  | n + 1 => an_sum f n + f n
theorem an_sum_le {f g : Nat → Nat} : ∀ n, (∀ i, i < n → f i ≤ g i) → an_sum f n ≤ an_sum g n := by
  intro n
  induction n with
  | zero => intro _; exact Nat.le_refl _
  | succ n ih =>
    intro h
    have a := ih (fun i hi => h i (by omega))
    have b := h n (by omega)
    simp only [an_sum]; omega
theorem an_sum_eq {f g : Nat → Nat} : ∀ n, (∀ i, i < n → f i ≤ g i) → an_sum g n ≤ an_sum f n → ∀ i, i < n → f i = g i := by
  intro n
  induction n with
  | zero => intro _ _ i hi; omega
  | succ n ih =>
    intro h k i hi
    have a := an_sum_le n (fun i hi => h i (by omega))
    have b := h n (by omega)
    simp only [an_sum] at k
    by_cases e : i = n
    · subst e; omega
    · exact ih (fun i hi => h i (by omega)) (by omega) i (by omega)
theorem an_sum_bd {f : Nat → Nat} {c : Nat} : ∀ n, (∀ i, i < n → f i ≤ c) → an_sum f n ≤ n * c := by
  intro n
  induction n with
  | zero => intro _; exact Nat.zero_le _
  | succ n ih =>
    intro h
    have a := ih (fun i hi => h i (by omega))
    have b := h n (by omega)
    simp only [an_sum]
    rw [Nat.succ_mul]
    omega
def an_bit (s : Int32) (b : Nat) : Nat := if bt s b = true then 1 else 0
theorem an_bit_1 (s : Int32) (b : Nat) : an_bit s b ≤ 1 := by unfold an_bit; split <;> omega
theorem an_bit_le {s t : Int32} (h : an_sub s t) (b : Nat) : an_bit s b ≤ an_bit t b := by
  unfold an_bit
  by_cases q : bt s b = true
  · rw [if_pos q, if_pos (h b q)]; exact Nat.le_refl _
  · rw [if_neg q]; omega
theorem an_bit_eq {s t : Int32} {b : Nat} (h : an_bit s b = an_bit t b) (q : bt t b = true) : bt s b = true := by
  unfold an_bit at h
  rw [if_pos q] at h
  by_cases w : bt s b = true
  · exact w
  · rw [if_neg w] at h; omega
def an_wtb (σ : an_T) (b : Nat) : Nat := an_bit σ.2.2 b + an_sum (fun k => an_bit (σ.1 k) b) 4 + an_sum (fun k => an_bit (σ.2.1 (k / 2) (k % 2)) b) 54
def an_wt (σ : an_T) : Nat := an_sum (an_wtb σ) 27
theorem an_wtb_le {σ τ : an_T} (h : an_le σ τ) (b : Nat) : an_wtb σ b ≤ an_wtb τ b := by
  have a := an_bit_le h.2.2 b
  have c := an_sum_le (f := fun k => an_bit (σ.1 k) b) (g := fun k => an_bit (τ.1 k) b) 4 (fun i _ => an_bit_le (h.1 i) b)
  have d := an_sum_le (f := fun k => an_bit (σ.2.1 (k / 2) (k % 2)) b) (g := fun k => an_bit (τ.2.1 (k / 2) (k % 2)) b) 54 (fun i _ => an_bit_le (h.2.1 _ _) b)
  unfold an_wtb
  omega
theorem an_wt_le {σ τ : an_T} (h : an_le σ τ) : an_wt σ ≤ an_wt τ := an_sum_le 27 (fun b _ => an_wtb_le h b)
theorem an_wt_bd (σ : an_T) : an_wt σ ≤ 1593 := by
  refine an_sum_bd (c := 59) 27 (fun b _ => ?_)
  have a := an_bit_1 σ.2.2 b
  have c := an_sum_bd (f := fun k => an_bit (σ.1 k) b) (c := 1) 4 (fun i _ => an_bit_1 _ b)
  have d := an_sum_bd (f := fun k => an_bit (σ.2.1 (k / 2) (k % 2)) b) (c := 1) 54 (fun i _ => an_bit_1 _ b)
  unfold an_wtb
  omega
theorem an_wt_eq {σ τ : an_T} (h : an_le σ τ) (ht : an_le τ an_top) (k : an_wt τ ≤ an_wt σ) : τ = σ := by
  have hb := an_sum_eq 27 (fun b _ => an_wtb_le h b) k
  have h27 : ∀ b, bt an_F b = true → b < 27 := fun b q => by rw [an_F_bt, decide_eq_true_eq] at q; exact q
  have key : ∀ b, b < 27 → an_bit σ.2.2 b = an_bit τ.2.2 b ∧ (∀ i, i < 4 → an_bit (σ.1 i) b = an_bit (τ.1 i) b) ∧ (∀ i, i < 54 → an_bit (σ.2.1 (i / 2) (i % 2)) b = an_bit (τ.2.1 (i / 2) (i % 2)) b) := by
    intro b hb27
    have e := hb b hb27
    have a := an_bit_le h.2.2 b
    have c := an_sum_le (f := fun k => an_bit (σ.1 k) b) (g := fun k => an_bit (τ.1 k) b) 4 (fun i _ => an_bit_le (h.1 i) b)
    have d := an_sum_le (f := fun k => an_bit (σ.2.1 (k / 2) (k % 2)) b) (g := fun k => an_bit (τ.2.1 (k / 2) (k % 2)) b) 54 (fun i _ => an_bit_le (h.2.1 _ _) b)
    unfold an_wtb at e
    refine ⟨by omega, ?_, ?_⟩
    · exact an_sum_eq 4 (fun i _ => an_bit_le (h.1 i) b) (by omega)
    · exact an_sum_eq (f := fun k => an_bit (σ.2.1 (k / 2) (k % 2)) b) (g := fun k => an_bit (τ.2.1 (k / 2) (k % 2)) b) 54 (fun i _ => an_bit_le (h.2.1 _ _) b) (by omega)
  refine an_le_eq ⟨fun r b q => ?_, fun a g b q => ?_, fun b q => ?_⟩ h
  · have q1 := ht.1 r b q
    by_cases hr : r < 4
    · rw [an_top_x hr] at q1
      exact an_bit_eq ((key b (h27 b q1)).2.1 r hr) q
    · have e : an_top.1 r = 0 := if_neg hr
      rw [e, b_0] at q1
      exact absurd q1 (by decide)
  · have q1 := ht.2.1 a g b q
    by_cases hr : a < 27 ∧ g < 2
    · rw [an_top_a hr.1 hr.2] at q1
      have e := (key b (h27 b q1)).2.2 (2 * a + g) (by omega)
      rw [show (2 * a + g) / 2 = a by omega, show (2 * a + g) % 2 = g by omega] at e
      exact an_bit_eq e q
    · have e : an_top.2.1 a g = 0 := if_neg hr
      rw [e, b_0] at q1
      exact absurd q1 (by decide)
  · exact an_bit_eq (key b (h27 b (ht.2.2 b q))).1 q
theorem an_wt_lt {σ τ : an_T} (h : an_le σ τ) (ht : an_le τ an_top) (k : σ ≠ τ) : an_wt σ < an_wt τ :=
  Nat.lt_of_not_le (fun q => k (an_wt_eq h ht q).symm)
/-- a program: how many instructions, how many inputs, the instructions -/
abbrev pr_T : Type := (Nat → Nat) × (Nat → Nat) × (Nat → Nat → an_I)
def pr_wf (P : pr_T) : Prop := ∀ m, m < 5 → P.1 m ≤ 24 ∧ P.2.1 m ≤ 2 ∧ ∀ i, i < P.1 m → an_wf (P.2.2 m i)
/-- where the analysis of a method with k inputs begins -/
def an_s0 (k : Nat) : an_T := (fun r => if r < k then an_1 (24 + r) else 0, fun a g => if g < 2 then (if a = 26 then an_W else if 24 ≤ a ∧ a < 24 + k then an_1 a else 0) else 0, 0)
theorem an_s0_top {k : Nat} (hk : k ≤ 2) : an_le (an_s0 k) an_top := by
  refine ⟨fun r => ?_, fun a g => ?_, an_sub_0 _⟩
  · show an_sub (if r < k then an_1 (24 + r) else 0) _
    split
    · rw [an_top_x (by omega)]
      refine (an_1_sub (by omega)).mpr ?_
      rw [an_F_bt]; simp; omega
    · exact an_sub_0 _
  · show an_sub (if g < 2 then (if a = 26 then an_W else if 24 ≤ a ∧ a < 24 + k then an_1 a else 0) else 0) _
    split
    · split
      · rw [an_top_a (by omega) (by omega)]
        refine (an_1_sub (by omega)).mpr ?_
        rw [an_F_bt]; rfl
      · split
        · rw [an_top_a (by omega) (by omega)]
          refine (an_1_sub (by omega)).mpr ?_
          rw [an_F_bt]; simp; omega
        · exact an_sub_0 _
    · exact an_sub_0 _
def an_z : an_T := (fun _ => 0, fun _ _ => 0, 0)
/-- what becomes of argument p -/
def an_sm (σ : an_T) (k p : Nat) : Nat :=
  if bt (an_rc σ.2.1 an_W) (24 + p) = true then 2
  else if (an_rc σ.2.1 (an_1 (24 + p)) &&& (an_rc σ.2.1 σ.2.2 ||| (if k = 2 then an_rc σ.2.1 (an_1 (25 - p)) else 0))) ≠ 0 then 1 else 0
def an_mx (σ : an_T) (p : Nat) : Bool := decide ((an_rc σ.2.1 (an_1 (24 + p)) &&& an_rc σ.2.1 an_W) ≠ 0)
/-- how callers of method n see argument p, from method m -/
def an_sx (P : pr_T) (m : Nat) (S : Nat → an_T) (n p : Nat) : Nat := if n ≤ m ∨ 5 ≤ n ∨ P.1 n = 0 then 2 else an_sm (S n) (P.2.1 n) p
def an_kx (P : pr_T) (m : Nat) (S : Nat → an_T) (n p : Nat) : Bool := if n ≤ m ∨ 5 ≤ n ∨ P.1 n = 0 then true else (decide (an_sm (S n) (P.2.1 n) p = 2) || an_mx (S n) p)
def an_env (P : pr_T) (m : Nat) (S : Nat → an_T) : an_E := (P.2.1, an_sx P m S, an_kx P m S)
/-- the analysis of one method, given the others -/
def an_is1 (P : pr_T) (S : Nat → an_T) (m : Nat) : Prop := if P.1 m = 0 then S m = an_z else an_sol (an_s0 (P.2.1 m)) (P.1 m) (fun i => an_ok (an_env P m S) i (P.2.2 m i)) (S m)
/-- the analysis of a program -/
def an_is (P : pr_T) (S : Nat → an_T) : Prop := ∀ m, m < 5 → an_is1 P S m
theorem an_env_cg {P : pr_T} {m : Nat} {S T : Nat → an_T} (h : ∀ n, m < n → n < 5 → S n = T n) : an_env P m S = an_env P m T := by
  have e1 : an_sx P m S = an_sx P m T := by
    funext n p
    unfold an_sx
    split
    · rfl
    · next q => rw [h n (by omega) (by omega)]
  have e2 : an_kx P m S = an_kx P m T := by
    funext n p
    unfold an_kx
    split
    · rfl
    · next q => rw [h n (by omega) (by omega)]
  unfold an_env
  rw [e1, e2]
theorem an_is1_cg {P : pr_T} {m : Nat} {S T : Nat → an_T} (h : ∀ n, m ≤ n → n < 5 → S n = T n) (hm : m < 5) (q : an_is1 P S m) : an_is1 P T m := by
  unfold an_is1 at q ⊢
  rw [← an_env_cg (fun n h1 h2 => h n (by omega) h2), ← h m (by omega) hm]
  exact q
theorem an_is1_uq {P : pr_T} {m : Nat} {S T : Nat → an_T} (h : ∀ n, m < n → n < 5 → S n = T n) (q : an_is1 P S m) (r : an_is1 P T m) : S m = T m := by
  unfold an_is1 at q r
  by_cases e : P.1 m = 0
  · rw [if_pos e] at q r; rw [q, r]
  · rw [if_neg e] at q r
    rw [← an_env_cg h] at r
    exact an_sol_uq q r
theorem an_is_uq {P : pr_T} {S T : Nat → an_T} (h : an_is P S) (k : an_is P T) : ∀ m, m < 5 → S m = T m := by
  have key : ∀ d m, m < 5 → 5 ≤ m + d → S m = T m := by
    intro d
    induction d with
    | zero => intro m h1 h2; omega
    | succ d ih => intro m h1 h2; exact an_is1_uq (fun n h3 h4 => ih n h4 (by omega)) (h m h1) (k m h1)
  exact fun m hm => key 5 m hm (by omega)
