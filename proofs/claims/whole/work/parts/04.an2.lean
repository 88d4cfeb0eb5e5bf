/-! THE ANALYSIS, 2: what each instruction asks, what each step adds -/
/-- an instruction: op, x, y, z, n -/
abbrev an_I : Type := Nat × Nat × Nat × Nat × Int32
/-- what is known of the callees: inputs, the state of an argument, whether it meets the world -/
abbrev an_E : Type := (Nat → Nat) × (Nat → Nat → Nat) × (Nat → Nat → Bool)
def an_W : Int32 := an_1 26
theorem an_W_bt (i : Nat) : bt an_W i = decide (i = 26) := an_1_bt (by omega) i
theorem an_W_26 : bt an_W 26 = true := by rw [an_W_bt]; rfl
def an_ag (σ : an_T) (y z p : Nat) : Int32 := σ.1 (if p = 0 then y else z)
def an_bo (σ : an_T) (k y z : Nat) : Int32 := if k = 2 then σ.1 y ||| σ.1 z else σ.1 y
theorem an_ag_le {σ τ : an_T} (h : an_le σ τ) (y z p : Nat) : an_sub (an_ag σ y z p) (an_ag τ y z p) := h.1 _
theorem an_bo_le {σ τ : an_T} (h : an_le σ τ) (k y z : Nat) : an_sub (an_bo σ k y z) (an_bo τ k y z) := by
  unfold an_bo
  split
  · exact an_or_sub (an_sub_tr (h.1 y) (an_sub_orl _ _)) (an_sub_tr (h.1 z) (an_sub_orr _ _))
  · exact h.1 y
/-- what a CALL asks of argument p: first -/
def an_o1 (E : an_E) (τ : an_T) (y z n p : Nat) : Prop :=
  ∀ a, a < 27 → an_R τ.2.1 (an_ag τ y z p) a → ∀ g, g < 2 → (∀ b, an_R τ.2.1 (an_ag τ y z p) b → bt (τ.2.1 a g) b = true) ∧ (E.2.2 n p = true → bt (τ.2.1 a g) 26 = true)
/-- then -/
def an_o2 (E : an_E) (τ : an_T) (x y z n p : Nat) (bo : Int32) : Prop :=
  (E.2.1 n p = 2 → ∀ g, g < 2 → an_sub (an_ag τ y z p) (τ.2.1 26 g)) ∧
  (E.2.1 n p = 1 → (∀ a, a < 27 → an_R τ.2.1 bo a → ∀ g, g < 2 → ∀ b, an_R τ.2.1 bo b → bt (τ.2.1 a g) b = true) ∧ ∀ b, an_R τ.2.1 bo b → bt (τ.1 x) b = true)
def an_o0 (τ : an_T) (x : Nat) : Prop :=
  (∀ a, a < 27 → an_R τ.2.1 an_W a → ∀ g, g < 2 → bt (τ.2.1 a g) 26 = true) ∧ an_sub (τ.2.1 26 0) (τ.1 x)
def an_okc (E : an_E) (τ : an_T) (x y z n : Nat) : Prop :=
  an_o0 τ x ∧ ∀ p, p < E.1 n → an_o1 E τ y z n p ∧ an_o2 E τ x y z n p (an_bo τ (E.1 n) y z)
/-- what an instruction asks -/
def an_ok (E : an_E) (i : Nat) (I : an_I) (τ : an_T) : Prop :=
  if I.1 = 0 then bt (τ.1 I.2.1) i = true
  else if I.1 = 1 then an_sub (τ.1 I.2.2.1) (τ.1 I.2.1)
  else if I.1 = 3 then ∀ a, a < 27 → bt (τ.1 I.2.2.1) a = true → an_sub (τ.2.1 a I.2.2.2.1) (τ.1 I.2.1)
  else if I.1 = 4 then ∀ a, a < 27 → ∀ g, g < 2 → bt (τ.1 I.2.1) a = true → (23 < a ∨ g = I.2.2.2.1) → an_sub (τ.1 I.2.2.1) (τ.2.1 a g)
  else if I.1 = 12 then ∀ g, g < 2 → an_sub (τ.1 I.2.1) (τ.2.1 26 g)
  else if I.1 = 13 then an_sub (τ.2.1 26 0) (τ.1 I.2.1)
  else if I.1 = 16 then an_okc E τ I.2.1 I.2.2.1 I.2.2.2.1 I.2.2.2.2.toNatClampNeg
  else if I.1 = 17 then an_sub (τ.1 I.2.1) τ.2.2
  else True
/-- a step is good for what is asked: it only adds, it adds nothing that is not asked for, and when it adds nothing, what is asked holds -/
def an_good (ok : an_T → Prop) (f : an_T → an_T) : Prop :=
  (∀ σ, an_le σ (f σ)) ∧ (∀ σ τ, ok τ → an_le σ τ → an_le (f σ) τ) ∧ (∀ σ, an_le (f σ) σ → ok σ)
/-- the steps of a CALL -/
def an_c0 (x : Nat) (σ : an_T) : an_T := an_m (an_h σ (an_rc σ.2.1 an_W) an_al an_W) x ((an_h σ (an_rc σ.2.1 an_W) an_al an_W).2.1 26 0)
def an_r1 (E : an_E) (y z n p : Nat) (σ : an_T) : an_T :=
  an_h σ (an_rc σ.2.1 (an_ag σ y z p)) an_al (if E.2.2 n p = true then an_rc σ.2.1 (an_ag σ y z p) ||| an_W else an_rc σ.2.1 (an_ag σ y z p))
def an_r2 (E : an_E) (x y z n : Nat) (bo : Int32) (p : Nat) (σ : an_T) : an_T :=
  if E.2.1 n p = 2 then an_h σ an_W an_al (an_ag σ y z p)
  else if E.2.1 n p = 1 then an_m (an_h σ (an_rc σ.2.1 bo) an_al (an_rc σ.2.1 bo)) x (an_rc σ.2.1 bo)
  else σ
theorem an_c0_good (x : Nat) : an_good (fun τ => an_o0 τ x) (an_c0 x) := by
  refine ⟨fun σ => an_le_tr (an_h_up _ _ _ _) (an_m_up _ _ _), fun σ τ ho h => ?_, fun σ h => ?_⟩
  · have h1 : an_le (an_h σ (an_rc σ.2.1 an_W) an_al an_W) τ := by
      refine an_h_le h (fun a ha g hg hw _ => (an_1_sub (by omega)).mpr ?_)
      exact ho.1 a ha (an_R_mono h.2.1 (an_sub_rf _) ((an_rc_bt _ _ _).mp hw)) g hg
    exact an_m_le h1 (an_sub_tr (h1.2.1 26 0) ho.2)
  · have e : an_h σ (an_rc σ.2.1 an_W) an_al an_W = σ := an_le_eq (an_le_tr (an_m_up _ _ _) h) (an_h_up _ _ _ _)
    refine ⟨fun a ha hr g hg => (an_1_sub (n := 26) (by omega)).mp ?_, ?_⟩
    · exact an_h_fix (who := an_rc σ.2.1 an_W) (sel := an_al) (by show an_le (an_h σ (an_rc σ.2.1 an_W) an_al an_W) σ; rw [e]; exact an_le_rf σ) ha hg ((an_rc_bt _ _ _).mpr hr) rfl
    · have q := an_m_fix (σ := an_h σ (an_rc σ.2.1 an_W) an_al an_W) (x := x) (s := (an_h σ (an_rc σ.2.1 an_W) an_al an_W).2.1 26 0) (an_le_tr h (an_h_up _ _ _ _))
      rw [e] at q
      exact q
theorem an_r1_good (E : an_E) (y z n p : Nat) : an_good (fun τ => an_o1 E τ y z n p) (an_r1 E y z n p) := by
  refine ⟨fun σ => an_h_up _ _ _ _, fun σ τ ho h => an_h_le h (fun a ha g hg hw _ => ?_), fun σ h a ha hr g hg => ?_⟩
  · have hm : ∀ b, bt (an_rc σ.2.1 (an_ag σ y z p)) b = true → an_R τ.2.1 (an_ag τ y z p) b := fun b q => an_R_mono h.2.1 (an_ag_le h y z p) ((an_rc_bt _ _ _).mp q)
    have o := ho a ha (hm a hw) g hg
    split
    · next k => exact an_or_sub (fun b q => o.1 b (hm b q)) ((an_1_sub (by omega)).mpr (o.2 k))
    · exact fun b q => o.1 b (hm b q)
  · have q := an_h_fix h ha hg ((an_rc_bt _ _ _).mpr hr) rfl
    constructor
    · intro b hb
      have hb' := (an_rc_bt _ _ _).mpr hb
      split at q
      · exact q b (an_sub_orl _ _ b hb')
      · exact q b hb'
    · intro k
      rw [if_pos k] at q
      exact q 26 (an_sub_orr _ _ 26 an_W_26)
theorem an_r2_up (E : an_E) (x y z n : Nat) (bo : Int32) (p : Nat) (σ : an_T) : an_le σ (an_r2 E x y z n bo p σ) := by
  unfold an_r2
  split
  · exact an_h_up _ _ _ _
  · split
    · exact an_le_tr (an_h_up _ _ _ _) (an_m_up _ _ _)
    · exact an_le_rf σ
theorem an_r2_le {E : an_E} {x y z n : Nat} {bo bo' : Int32} {p : Nat} {σ τ : an_T} (hb : an_sub bo bo') (ho : an_o2 E τ x y z n p bo') (h : an_le σ τ) : an_le (an_r2 E x y z n bo p σ) τ := by
  unfold an_r2
  split
  · next k =>
    refine an_h_le h (fun a ha g hg hw _ => ?_)
    rw [an_W_bt, decide_eq_true_eq] at hw
    subst hw
    exact an_sub_tr (an_ag_le h y z p) (ho.1 k g hg)
  · split
    · next k =>
      have hm : ∀ b, bt (an_rc σ.2.1 bo) b = true → an_R τ.2.1 bo' b := fun b q => an_R_mono h.2.1 hb ((an_rc_bt _ _ _).mp q)
      refine an_m_le (an_h_le h (fun a ha g hg hw _ b q => ?_)) (fun b q => ?_)
      · exact (ho.2 k).1 a ha (hm a hw) g hg b (hm b q)
      · exact (ho.2 k).2 b (hm b q)
    · exact h
theorem an_r2_fix {E : an_E} {x y z n : Nat} {bo : Int32} {p : Nat} {σ : an_T} (h : an_le (an_r2 E x y z n bo p σ) σ) : an_o2 E σ x y z n p bo := by
  unfold an_r2 at h
  constructor
  · intro k
    rw [if_pos k] at h
    intro g hg
    exact an_h_fix h (by omega) hg an_W_26 rfl
  · intro k
    rw [if_neg (by omega), if_pos k] at h
    have h1 : an_le (an_h σ (an_rc σ.2.1 bo) an_al (an_rc σ.2.1 bo)) σ := an_le_tr (an_m_up _ _ _) h
    refine ⟨fun a ha hr g hg b hb => ?_, fun b hb => ?_⟩
    · exact an_h_fix h1 ha hg ((an_rc_bt _ _ _).mpr hr) rfl b ((an_rc_bt _ _ _).mpr hb)
    · have e := an_le_eq h1 (an_h_up _ _ _ _)
      have q := an_m_fix (σ := an_h σ (an_rc σ.2.1 bo) an_al (an_rc σ.2.1 bo)) (x := x) (s := an_rc σ.2.1 bo) (an_le_tr h (an_h_up _ _ _ _))
      rw [e] at q
      exact q b ((an_rc_bt _ _ _).mpr hb)
/-- CALL in the class: argument by argument -/
def an_ca (E : an_E) (x y z n p : Nat) (σ : an_T) : an_T := an_r2 E x y z n (an_bo (an_r1 E y z n p σ) (E.1 n) y z) p (an_r1 E y z n p σ)
def an_cn (E : an_E) (x y z n : Nat) : Nat → an_T → an_T
  | 0, σ => an_c0 x σ
  | p + 1, σ => an_ca E x y z n p (an_cn E x y z n p σ)
/-- CALL in the reference: first all arguments, then all arguments again -/
def an_rn1 (E : an_E) (x y z n : Nat) : Nat → an_T → an_T
  | 0, σ => an_c0 x σ
  | p + 1, σ => an_r1 E y z n p (an_rn1 E x y z n p σ)
def an_rn2 (E : an_E) (x y z n : Nat) (bo : Int32) : Nat → an_T → an_T
  | 0, σ => σ
  | p + 1, σ => an_r2 E x y z n bo p (an_rn2 E x y z n bo p σ)
def an_rn (E : an_E) (x y z n : Nat) (σ : an_T) : an_T := an_rn2 E x y z n (an_bo (an_rn1 E x y z n (E.1 n) σ) (E.1 n) y z) (E.1 n) (an_rn1 E x y z n (E.1 n) σ)
theorem an_cn_good (E : an_E) (x y z n : Nat) : ∀ k, an_good (fun τ => an_o0 τ x ∧ ∀ p, p < k → an_o1 E τ y z n p ∧ an_o2 E τ x y z n p (an_bo τ (E.1 n) y z)) (an_cn E x y z n k) := by
  intro k
  induction k with
  | zero =>
    have g := an_c0_good x
    exact ⟨g.1, fun σ τ ho h => g.2.1 σ τ ho.1 h, fun σ h => ⟨g.2.2 σ h, fun p hp => absurd hp (by omega)⟩⟩
  | succ k ih =>
    have g1 := an_r1_good E y z n k
    refine ⟨fun σ => ?_, fun σ τ ho h => ?_, fun σ h => ?_⟩
    · exact an_le_tr (ih.1 σ) (an_le_tr (g1.1 _) (an_r2_up _ _ _ _ _ _ _ _))
    · have h1 := ih.2.1 σ τ ⟨ho.1, fun p hp => ho.2 p (by omega)⟩ h
      have h2 := g1.2.1 _ τ (ho.2 k (by omega)).1 h1
      exact an_r2_le (an_bo_le h2 _ _ _) (ho.2 k (by omega)).2 h2
    · have u1 := ih.1 σ
      have u2 := g1.1 (an_cn E x y z n k σ)
      have u3 := an_r2_up E x y z n (an_bo (an_r1 E y z n k (an_cn E x y z n k σ)) (E.1 n) y z) k (an_r1 E y z n k (an_cn E x y z n k σ))
      have e1 : an_cn E x y z n k σ = σ := an_le_eq (an_le_tr u2 (an_le_tr u3 h)) u1
      have h' : an_le (an_ca E x y z n k (an_cn E x y z n k σ)) σ := h
      rw [e1] at h' u2 u3
      have e2 : an_r1 E y z n k σ = σ := an_le_eq (an_le_tr u3 h') u2
      have h3 : an_le (an_r2 E x y z n (an_bo σ (E.1 n) y z) k σ) σ := by
        have := h'
        unfold an_ca at this
        rw [e2] at this
        exact this
      have hk := ih.2.2 σ (by rw [e1]; exact an_le_rf σ)
      refine ⟨hk.1, fun p hp => ?_⟩
      by_cases z0 : p = k
      · subst z0
        exact ⟨g1.2.2 σ (by rw [e2]; exact an_le_rf σ), an_r2_fix h3⟩
      · exact hk.2 p (by omega)
theorem an_rn1_good (E : an_E) (x y z n : Nat) : ∀ k, an_good (fun τ => an_o0 τ x ∧ ∀ p, p < k → an_o1 E τ y z n p) (an_rn1 E x y z n k) := by
  intro k
  induction k with
  | zero =>
    have g := an_c0_good x
    exact ⟨g.1, fun σ τ ho h => g.2.1 σ τ ho.1 h, fun σ h => ⟨g.2.2 σ h, fun p hp => absurd hp (by omega)⟩⟩
  | succ k ih =>
    have g1 := an_r1_good E y z n k
    refine ⟨fun σ => an_le_tr (ih.1 σ) (g1.1 _), fun σ τ ho h => ?_, fun σ h => ?_⟩
    · exact g1.2.1 _ τ (ho.2 k (by omega)) (ih.2.1 σ τ ⟨ho.1, fun p hp => ho.2 p (by omega)⟩ h)
    · have u1 := ih.1 σ
      have u2 := g1.1 (an_rn1 E x y z n k σ)
      have e1 : an_rn1 E x y z n k σ = σ := an_le_eq (an_le_tr u2 h) u1
      have h' : an_le (an_r1 E y z n k (an_rn1 E x y z n k σ)) σ := h
      rw [e1] at h'
      have hk := ih.2.2 σ (by rw [e1]; exact an_le_rf σ)
      refine ⟨hk.1, fun p hp => ?_⟩
      by_cases z0 : p = k
      · subst z0; exact g1.2.2 σ h'
      · exact hk.2 p (by omega)
theorem an_rn2_up (E : an_E) (x y z n : Nat) (bo : Int32) (σ : an_T) : ∀ k, an_le σ (an_rn2 E x y z n bo k σ) := by
  intro k
  induction k with
  | zero => exact an_le_rf σ
  | succ k ih => exact an_le_tr ih (an_r2_up _ _ _ _ _ _ _ _)
theorem an_rn2_le {E : an_E} {x y z n : Nat} {bo bo' : Int32} {σ τ : an_T} (hb : an_sub bo bo') (h : an_le σ τ) : ∀ k, (∀ p, p < k → an_o2 E τ x y z n p bo') → an_le (an_rn2 E x y z n bo k σ) τ := by
  intro k
  induction k with
  | zero => intro _; exact h
  | succ k ih => intro ho; exact an_r2_le hb (ho k (by omega)) (ih (fun p hp => ho p (by omega)))
theorem an_rn2_fix {E : an_E} {x y z n : Nat} {bo : Int32} {σ : an_T} : ∀ k, an_le (an_rn2 E x y z n bo k σ) σ → ∀ p, p < k → an_o2 E σ x y z n p bo := by
  intro k
  induction k with
  | zero => intro _ p hp; omega
  | succ k ih =>
    intro h p hp
    have u := an_r2_up E x y z n bo k (an_rn2 E x y z n bo k σ)
    have h1 : an_le (an_rn2 E x y z n bo k σ) σ := an_le_tr u h
    by_cases z0 : p = k
    · subst z0
      have e := an_le_eq h1 (an_rn2_up E x y z n bo σ p)
      have h' : an_le (an_r2 E x y z n bo p (an_rn2 E x y z n bo p σ)) σ := h
      rw [e] at h'
      exact an_r2_fix h'
    · exact ih h1 p (by omega)
theorem an_rn_good (E : an_E) (x y z n : Nat) : an_good (fun τ => an_okc E τ x y z n) (an_rn E x y z n) := by
  have g1 := an_rn1_good E x y z n (E.1 n)
  refine ⟨fun σ => an_le_tr (g1.1 σ) (an_rn2_up _ _ _ _ _ _ _ _), fun σ τ ho h => ?_, fun σ h => ?_⟩
  · have h1 := g1.2.1 σ τ ⟨ho.1, fun p hp => (ho.2 p hp).1⟩ h
    exact an_rn2_le (an_bo_le h1 _ _ _) h1 _ (fun p hp => (ho.2 p hp).2)
  · have u1 := g1.1 σ
    have u2 := an_rn2_up E x y z n (an_bo (an_rn1 E x y z n (E.1 n) σ) (E.1 n) y z) (an_rn1 E x y z n (E.1 n) σ) (E.1 n)
    have e1 : an_rn1 E x y z n (E.1 n) σ = σ := an_le_eq (an_le_tr u2 h) u1
    have k1 := g1.2.2 σ (by rw [e1]; exact an_le_rf σ)
    have h' : an_le (an_rn2 E x y z n (an_bo (an_rn1 E x y z n (E.1 n) σ) (E.1 n) y z) (E.1 n) (an_rn1 E x y z n (E.1 n) σ)) σ := h
    rw [e1] at h'
    exact ⟨k1.1, fun p hp => ⟨k1.2 p hp, an_rn2_fix _ h' p hp⟩⟩
/-- a step, the CALL being 'call' -/
def an_st (call : Nat → Nat → Nat → Nat → an_T → an_T) (i : Nat) (I : an_I) (σ : an_T) : an_T :=
  if I.1 = 0 then an_m σ I.2.1 (an_1 i)
  else if I.1 = 1 then an_m σ I.2.1 (σ.1 I.2.2.1)
  else if I.1 = 3 then an_m σ I.2.1 (an_hb (fun a => σ.2.1 a I.2.2.2.1) (σ.1 I.2.2.1) 27)
  else if I.1 = 4 then an_h σ (σ.1 I.2.1) (fun a g => decide (23 < a) || decide (g = I.2.2.2.1)) (σ.1 I.2.2.1)
  else if I.1 = 12 then an_h σ an_W an_al (σ.1 I.2.1)
  else if I.1 = 13 then an_m σ I.2.1 (σ.2.1 26 0)
  else if I.1 = 16 then call I.2.1 I.2.2.1 I.2.2.2.1 I.2.2.2.2.toNatClampNeg σ
  else if I.1 = 17 then an_g σ (σ.1 I.2.1)
  else σ
theorem an_good_m {ok : an_T → Prop} {x : Nat} {s : an_T → Int32} (mono : ∀ σ τ, an_le σ τ → an_sub (s σ) (s τ)) (e : ∀ τ, ok τ ↔ an_sub (s τ) (τ.1 x)) : an_good ok (fun σ => an_m σ x (s σ)) :=
  ⟨fun _ => an_m_up _ _ _, fun σ τ ho h => an_m_le h (an_sub_tr (mono σ τ h) ((e τ).mp ho)), fun σ h => (e σ).mpr (an_m_fix h)⟩
theorem an_st_good (E : an_E) {call : Nat → Nat → Nat → Nat → an_T → an_T} (hc : ∀ x y z n, an_good (fun τ => an_okc E τ x y z n) (call x y z n)) (i : Nat) (hi : i < 32) (I : an_I) : an_good (an_ok E i I) (an_st call i I) := by
  obtain ⟨o, x, y, z, n⟩ := I
  by_cases h0 : o = 0
  · subst h0
    exact an_good_m (s := fun _ => an_1 i) (fun _ _ _ => an_sub_rf _) (fun τ => (an_1_sub hi).symm)
  by_cases h1 : o = 1
  · subst h1
    exact an_good_m (s := fun σ => σ.1 y) (fun _ _ h => h.1 y) (fun τ => Iff.rfl)
  by_cases h3 : o = 3
  · subst h3
    refine an_good_m (s := fun σ => an_hb (fun a => σ.2.1 a z) (σ.1 y) 27) (fun σ τ h b q => ?_) (fun τ => ⟨fun q b w => ?_, fun q a ha hb b w => ?_⟩)
    · obtain ⟨a, ha, hw, hb⟩ := (an_hb_bt _ _ _ _).mp q
      exact (an_hb_bt _ _ _ _).mpr ⟨a, ha, h.1 y a hw, h.2.1 a z b hb⟩
    · obtain ⟨a, ha, hw, hb⟩ := (an_hb_bt _ _ _ _).mp w
      exact q a ha hw b hb
    · exact q b ((an_hb_bt _ _ _ _).mpr ⟨a, ha, hb, w⟩)
  by_cases h4 : o = 4
  · subst h4
    refine ⟨fun σ => an_h_up _ _ _ _, fun σ τ ho h => an_h_le h (fun a ha g hg hw hs => ?_), fun σ h a ha g hg hw hs => ?_⟩
    · rw [Bool.or_eq_true, decide_eq_true_eq, decide_eq_true_eq] at hs
      exact an_sub_tr (h.1 y) (ho a ha g hg (h.1 x a hw) hs)
    · refine an_h_fix h ha hg hw ?_
      rw [Bool.or_eq_true, decide_eq_true_eq, decide_eq_true_eq]
      exact hs
  by_cases h12 : o = 12
  · subst h12
    refine ⟨fun σ => an_h_up _ _ _ _, fun σ τ ho h => an_h_le h (fun a ha g hg hw hs => ?_), fun σ h g hg => ?_⟩
    · rw [an_W_bt, decide_eq_true_eq] at hw
      subst hw
      exact an_sub_tr (h.1 x) (ho g hg)
    · exact an_h_fix h (by omega) hg an_W_26 rfl
  by_cases h13 : o = 13
  · subst h13
    exact an_good_m (s := fun σ => σ.2.1 26 0) (fun _ _ h => h.2.1 26 0) (fun τ => Iff.rfl)
  by_cases h16 : o = 16
  · subst h16
    exact hc x y z n.toNatClampNeg
  by_cases h17 : o = 17
  · subst h17
    exact ⟨fun σ => an_g_up _ _, fun σ τ ho h => an_g_le h (an_sub_tr (h.1 x) ho), fun σ h => an_g_fix h⟩
  · have e1 : an_st call i (o, x, y, z, n) = fun σ => σ := by
      funext σ
      simp [an_st, h0, h1, h3, h4, h12, h13, h16, h17]
    have e2 : ∀ τ, an_ok E i (o, x, y, z, n) τ := by
      intro τ
      simp [an_ok, h0, h1, h3, h4, h12, h13, h16, h17]
    rw [e1]
    exact ⟨fun σ => an_le_rf σ, fun σ τ _ h => h, fun σ _ => e2 σ⟩
/-- a pass over all instructions -/
def an_pass (f : Nat → an_T → an_T) : Nat → an_T → an_T
  | 0, σ => σ
  | i + 1, σ => f i (an_pass f i σ)
theorem an_pass_up {f : Nat → an_T → an_T} {ok : Nat → an_T → Prop} : ∀ n, (∀ i, i < n → an_good (ok i) (f i)) → ∀ σ, an_le σ (an_pass f n σ) := by
  intro n
  induction n with
  | zero => intro _ σ; exact an_le_rf σ
  | succ n ih => intro h σ; exact an_le_tr (ih (fun i hi => h i (by omega)) σ) ((h n (by omega)).1 _)
theorem an_pass_le {f : Nat → an_T → an_T} {ok : Nat → an_T → Prop} : ∀ n, (∀ i, i < n → an_good (ok i) (f i)) → ∀ σ τ, (∀ i, i < n → ok i τ) → an_le σ τ → an_le (an_pass f n σ) τ := by
  intro n
  induction n with
  | zero => intro _ σ τ _ h; exact h
  | succ n ih => intro h σ τ ho k; exact (h n (by omega)).2.1 _ τ (ho n (by omega)) (ih (fun i hi => h i (by omega)) σ τ (fun i hi => ho i (by omega)) k)
theorem an_pass_at {f : Nat → an_T → an_T} {ok : Nat → an_T → Prop} {n : Nat} (h : ∀ i, i < n → an_good (ok i) (f i)) {i : Nat} (hi : i ≤ n) (σ : an_T) : an_le (an_pass f i σ) (an_pass f n σ) := by
  induction n with
  | zero => have e : i = 0 := by omega
            subst e; exact an_le_rf _
  | succ n ih =>
    by_cases e : i = n + 1
    · subst e; exact an_le_rf _
    · exact an_le_tr (ih (fun i hi => h i (by omega)) (by omega)) ((h n (by omega)).1 _)
/-- a pass that adds nothing: all that is asked holds -/
theorem an_pass_fix {f : Nat → an_T → an_T} {ok : Nat → an_T → Prop} {n : Nat} (h : ∀ i, i < n → an_good (ok i) (f i)) {σ : an_T} (k : an_le (an_pass f n σ) σ) : ∀ i, i < n → ok i σ := by
  intro i hi
  have e : an_pass f i σ = σ := an_le_eq (an_le_tr (an_pass_at h (by omega) σ) k) (an_pass_up i (fun j hj => h j (by omega)) σ)
  have q := an_le_tr (an_pass_at h (by omega : i + 1 ≤ n) σ) k
  have q' : an_le (f i (an_pass f i σ)) σ := q
  rw [e] at q'
  exact (h i hi).2.2 σ q'
