/-! THE ANALYSIS, 1: sets of bits, states, what is reached -/
def an_sub (x y : Int32) : Prop := ∀ b, bt x b = true → bt y b = true
theorem an_sub_rf (x : Int32) : an_sub x x := fun _ h => h
theorem an_sub_tr {x y z : Int32} (h : an_sub x y) (k : an_sub y z) : an_sub x z := fun b q => k b (h b q)
theorem an_sub_0 (x : Int32) : an_sub 0 x := fun b h => by rw [b_0] at h; exact absurd h (by decide)
theorem an_sub_orl (x y : Int32) : an_sub x (x ||| y) := fun b h => by rw [b_or, h, Bool.true_or]
theorem an_sub_orr (x y : Int32) : an_sub y (x ||| y) := fun b h => by rw [b_or, h, Bool.or_true]
theorem an_or_sub {x y z : Int32} (h : an_sub x z) (k : an_sub y z) : an_sub (x ||| y) z := fun b q => by
  rw [b_or, Bool.or_eq_true] at q
  exact q.elim (h b) (k b)
theorem an_eq {x y : Int32} (h : an_sub x y) (k : an_sub y x) : x = y := b_ext (fun b _ => by
  cases hx : bt x b with
  | true => exact (h b hx).symm
  | false =>
    cases hy : bt y b with
    | false => rfl
    | true => rw [k b hy] at hx; exact absurd hx (by decide))
theorem an_or_eq {x y : Int32} : (x ||| y) = x ↔ an_sub y x :=
  ⟨fun h b q => by rw [← h, b_or, q, Bool.or_true], fun h => an_eq (an_or_sub (an_sub_rf x) h) (an_sub_orl x y)⟩
theorem an_and0 {x y : Int32} : (x &&& y) ≠ 0 ↔ ∃ b, bt x b = true ∧ bt y b = true := by
  constructor
  · intro h
    apply Classical.byContradiction
    intro q
    apply h
    apply b_ext
    intro b _
    rw [b_and, b_0]
    cases hx : bt x b with
    | false => rfl
    | true =>
      cases hy : bt y b with
      | false => rfl
      | true => exact absurd ⟨b, hx, hy⟩ q
  · rintro ⟨b, hx, hy⟩ h
    have := b_and x y b
    rw [h, b_0, hx, hy] at this
    exact absurd this (by decide)
/-- the set of one bit -/
def an_1 (n : Nat) : Int32 := (1 : Int32) <<< (nI n &&& 31)
theorem an_bt1 : ∀ i, i < 32 → bt 1 i = decide (i = 0) := by decide +kernel
theorem an_1_bt {n : Nat} (hn : n < 32) (i : Nat) : bt (an_1 n) i = decide (i = n) := by
  rcases Nat.lt_or_ge i 32 with h | h
  · rw [an_1, b_shl n hn 1 h, an_bt1 (i - n) (by omega)]
    by_cases q : n ≤ i
    · simp only [q, decide_true, Bool.true_and]
      by_cases z : i = n
      · simp [z]
      · rw [decide_eq_false z, decide_eq_false (by omega)]
    · rw [decide_eq_false q, Bool.false_and, decide_eq_false (by omega)]
  · rw [b_big h, decide_eq_false (by omega)]
theorem an_1_sub {n : Nat} (hn : n < 32) {s : Int32} : an_sub (an_1 n) s ↔ bt s n = true :=
  ⟨fun h => h n (by rw [an_1_bt hn]; simp), fun h b q => by rw [an_1_bt hn, decide_eq_true_eq] at q; rw [q]; exact h⟩
theorem an_1_self {n : Nat} (hn : n < 32) : bt (an_1 n) n = true := by rw [an_1_bt hn]; simp
/-- a state of the analysis of a method: what each reference may be, what each abstract object holds in each field, what is given -/
abbrev an_T : Type := (Nat → Int32) × (Nat → Nat → Int32) × Int32
def an_le (σ τ : an_T) : Prop := (∀ r, an_sub (σ.1 r) (τ.1 r)) ∧ (∀ a g, an_sub (σ.2.1 a g) (τ.2.1 a g)) ∧ an_sub σ.2.2 τ.2.2
theorem an_le_rf (σ : an_T) : an_le σ σ := ⟨fun _ => an_sub_rf _, fun _ _ => an_sub_rf _, an_sub_rf _⟩
theorem an_le_tr {σ τ υ : an_T} (h : an_le σ τ) (k : an_le τ υ) : an_le σ υ :=
  ⟨fun r => an_sub_tr (h.1 r) (k.1 r), fun a g => an_sub_tr (h.2.1 a g) (k.2.1 a g), an_sub_tr h.2.2 k.2.2⟩
theorem an_le_eq {σ τ : an_T} (h : an_le σ τ) (k : an_le τ σ) : σ = τ :=
  Prod.ext (funext fun r => an_eq (h.1 r) (k.1 r)) (Prod.ext (funext fun a => funext fun g => an_eq (h.2.1 a g) (k.2.1 a g)) (an_eq h.2.2 k.2.2))
/-- a reference may be more -/
def an_m (σ : an_T) (x : Nat) (s : Int32) : an_T := (fun r => if r = x then σ.1 r ||| s else σ.1 r, σ.2.1, σ.2.2)
/-- some objects hold more in some fields -/
def an_h (σ : an_T) (who : Int32) (sel : Nat → Nat → Bool) (s : Int32) : an_T :=
  (σ.1, fun a g => if a < 27 ∧ g < 2 ∧ bt who a = true ∧ sel a g = true then σ.2.1 a g ||| s else σ.2.1 a g, σ.2.2)
/-- more is given -/
def an_g (σ : an_T) (s : Int32) : an_T := (σ.1, σ.2.1, σ.2.2 ||| s)
def an_al : Nat → Nat → Bool := fun _ _ => true
theorem an_m_up (σ : an_T) (x : Nat) (s : Int32) : an_le σ (an_m σ x s) := by
  refine ⟨fun r => ?_, fun a g => an_sub_rf _, an_sub_rf _⟩
  show an_sub (σ.1 r) (if r = x then σ.1 r ||| s else σ.1 r)
  split
  · exact an_sub_orl _ _
  · exact an_sub_rf _
theorem an_m_le {σ τ : an_T} {x : Nat} {s : Int32} (h : an_le σ τ) (k : an_sub s (τ.1 x)) : an_le (an_m σ x s) τ := by
  refine ⟨fun r => ?_, h.2.1, h.2.2⟩
  show an_sub (if r = x then σ.1 r ||| s else σ.1 r) (τ.1 r)
  split
  · next e => subst e; exact an_or_sub (h.1 r) k
  · exact h.1 r
theorem an_m_fix {σ : an_T} {x : Nat} {s : Int32} (h : an_le (an_m σ x s) σ) : an_sub s (σ.1 x) := by
  have q := h.1 x
  have e : (an_m σ x s).1 x = σ.1 x ||| s := if_pos rfl
  rw [e] at q
  exact an_sub_tr (an_sub_orr _ _) q
theorem an_h_up (σ : an_T) (who : Int32) (sel : Nat → Nat → Bool) (s : Int32) : an_le σ (an_h σ who sel s) := by
  refine ⟨fun r => an_sub_rf _, fun a g => ?_, an_sub_rf _⟩
  show an_sub (σ.2.1 a g) (if a < 27 ∧ g < 2 ∧ bt who a = true ∧ sel a g = true then σ.2.1 a g ||| s else σ.2.1 a g)
  split
  · exact an_sub_orl _ _
  · exact an_sub_rf _
theorem an_h_le {σ τ : an_T} {who : Int32} {sel : Nat → Nat → Bool} {s : Int32} (h : an_le σ τ)
    (k : ∀ a, a < 27 → ∀ g, g < 2 → bt who a = true → sel a g = true → an_sub s (τ.2.1 a g)) : an_le (an_h σ who sel s) τ := by
  refine ⟨h.1, fun a g => ?_, h.2.2⟩
  show an_sub (if a < 27 ∧ g < 2 ∧ bt who a = true ∧ sel a g = true then σ.2.1 a g ||| s else σ.2.1 a g) (τ.2.1 a g)
  split
  · next e => exact an_or_sub (h.2.1 a g) (k a e.1 g e.2.1 e.2.2.1 e.2.2.2)
  · exact h.2.1 a g
theorem an_h_fix {σ : an_T} {who : Int32} {sel : Nat → Nat → Bool} {s : Int32} (h : an_le (an_h σ who sel s) σ) {a : Nat} (ha : a < 27) {g : Nat} (hg : g < 2) (hw : bt who a = true) (hs : sel a g = true) : an_sub s (σ.2.1 a g) := by
  have q := h.2.1 a g
  have e : (an_h σ who sel s).2.1 a g = σ.2.1 a g ||| s := if_pos ⟨ha, hg, hw, hs⟩
  rw [e] at q
  exact an_sub_tr (an_sub_orr _ _) q
theorem an_g_up (σ : an_T) (s : Int32) : an_le σ (an_g σ s) := ⟨fun r => an_sub_rf _, fun a g => an_sub_rf _, an_sub_orl _ _⟩
theorem an_g_le {σ τ : an_T} {s : Int32} (h : an_le σ τ) (k : an_sub s τ.2.2) : an_le (an_g σ s) τ := ⟨h.1, h.2.1, an_or_sub h.2.2 k⟩
theorem an_g_fix {σ : an_T} {s : Int32} (h : an_le (an_g σ s) σ) : an_sub s σ.2.2 := an_sub_tr (an_sub_orr _ _) h.2.2
/-- what is reached: the least set -/
def an_R (h : Nat → Nat → Int32) (s : Int32) (b : Nat) : Prop :=
  ∀ S : Nat → Prop, (∀ b, bt s b = true → S b) → (∀ a, a < 27 → S a → ∀ g, g < 2 → ∀ b, bt (h a g) b = true → S b) → S b
theorem an_R_0 {h : Nat → Nat → Int32} {s : Int32} {b : Nat} (hb : bt s b = true) : an_R h s b := fun _ h0 _ => h0 b hb
theorem an_R_s {h : Nat → Nat → Int32} {s : Int32} {a g b : Nat} (hr : an_R h s a) (ha : a < 27) (hg : g < 2) (hb : bt (h a g) b = true) : an_R h s b :=
  fun S h0 hs => hs a ha (hr S h0 hs) g hg b hb
theorem an_R_mono {h k : Nat → Nat → Int32} {s t : Int32} (hh : ∀ a g, an_sub (h a g) (k a g)) (hs : an_sub s t) {b : Nat} (hr : an_R h s b) : an_R k t b :=
  hr (an_R k t) (fun b q => an_R_0 (hs b q)) (fun a ha q g hg b z => an_R_s q ha hg (hh a g b z))
/-- from a set that is reached nothing more is reached -/
theorem an_R_tr {h : Nat → Nat → Int32} {s t : Int32} (hs : ∀ b, bt t b = true → an_R h s b) {b : Nat} (hr : an_R h t b) : an_R h s b :=
  hr (an_R h s) hs (fun _ ha q _ hg _ z => an_R_s q ha hg z)
theorem an_R_or {h : Nat → Nat → Int32} {s t : Int32} {b : Nat} : an_R h (s ||| t) b ↔ an_R h s b ∨ an_R h t b := by
  constructor
  · intro hr
    refine hr (fun b => an_R h s b ∨ an_R h t b) (fun b q => ?_) (fun a ha q g hg b z => ?_)
    · rw [b_or, Bool.or_eq_true] at q
      exact q.imp an_R_0 an_R_0
    · exact q.imp (fun q => an_R_s q ha hg z) (fun q => an_R_s q ha hg z)
  · rintro (q | q)
    · exact an_R_mono (fun _ _ => an_sub_rf _) (an_sub_orl _ _) q
    · exact an_R_mono (fun _ _ => an_sub_rf _) (an_sub_orr _ _) q
/-- a set that holds all that its own hold -/
def an_C (h : Nat → Nat → Int32) (s : Int32) : Prop := ∀ a, a < 27 → bt s a = true → ∀ g, g < 2 → an_sub (h a g) s
theorem an_C_R {h : Nat → Nat → Int32} {s t : Int32} (hc : an_C h t) (hs : an_sub s t) {b : Nat} (hr : an_R h s b) : bt t b = true :=
  hr (fun b => bt t b = true) hs (fun a ha q g hg b z => hc a ha q g hg b z)
/-- how many of the first n bits are there -/
def an_cnt (s : Int32) : Nat → Nat
  | 0 => 0
  | n + 1 => an_cnt s n + (if bt s n = true then 1 else 0)
theorem an_cnt_n (s : Int32) : ∀ n, an_cnt s n ≤ n := by
  intro n
  induction n with
  | zero => exact Nat.le_refl _
  | succ n ih => simp only [an_cnt]; split <;> omega
theorem an_cnt_le {s t : Int32} (h : an_sub s t) : ∀ n, an_cnt s n ≤ an_cnt t n := by
  intro n
  induction n with
  | zero => exact Nat.le_refl _
  | succ n ih =>
    simp only [an_cnt]
    by_cases q : bt s n = true
    · rw [if_pos q, if_pos (h n q)]; omega
    · rw [if_neg q]; omega
theorem an_cnt_eq {s t : Int32} (h : an_sub s t) : ∀ n, an_cnt t n ≤ an_cnt s n → ∀ a, a < n → bt t a = true → bt s a = true := by
  intro n
  induction n with
  | zero => intro _ a ha; omega
  | succ n ih =>
    intro hc a ha hb
    have hn := an_cnt_le h n
    simp only [an_cnt] at hc
    by_cases q : bt s n = true
    · rw [if_pos q, if_pos (h n q)] at hc
      by_cases z : a = n
      · rw [z]; exact q
      · exact ih (by omega) a (by omega) hb
    · rw [if_neg q] at hc
      by_cases w : bt t n = true
      · rw [if_pos w] at hc; omega
      · by_cases z : a = n
        · rw [z] at hb; exact absurd hb w
        · exact ih (by rw [if_neg w] at hc; omega) a (by omega) hb
theorem an_cnt_pos {s : Int32} {a : Nat} (hb : bt s a = true) : ∀ n, a < n → 0 < an_cnt s n := by
  intro n
  induction n with
  | zero => intro h; omega
  | succ n ih =>
    intro h
    simp only [an_cnt]
    by_cases z : a = n
    · rw [← z, if_pos hb]; omega
    · have := ih (by omega); omega
/-- the class: what these hold in one field -/
def an_hb (row : Nat → Int32) (who : Int32) : Nat → Int32
  | 0 => 0
  | a + 1 => if bt who a = true then an_hb row who a ||| row a else an_hb row who a
theorem an_hb_bt (row : Nat → Int32) (who : Int32) (b : Nat) : ∀ n, bt (an_hb row who n) b = true ↔ ∃ a, a < n ∧ bt who a = true ∧ bt (row a) b = true := by
  intro n
  induction n with
  | zero => simp [an_hb, b_0]
  | succ n ih =>
    simp only [an_hb]
    by_cases q : bt who n = true
    · rw [if_pos q, b_or, Bool.or_eq_true, ih]
      constructor
      · rintro (⟨a, h1, h2, h3⟩ | h)
        · exact ⟨a, by omega, h2, h3⟩
        · exact ⟨n, by omega, q, h⟩
      · rintro ⟨a, h1, h2, h3⟩
        by_cases z : a = n
        · rw [z] at h3; exact Or.inr h3
        · exact Or.inl ⟨a, by omega, h2, h3⟩
    · rw [if_neg q, ih]
      constructor
      · rintro ⟨a, h1, h2, h3⟩
        exact ⟨a, by omega, h2, h3⟩
      · rintro ⟨a, h1, h2, h3⟩
        by_cases z : a = n
        · rw [z] at h2; exact absurd h2 q
        · exact ⟨a, by omega, h2, h3⟩
/-- one round of the class -/
def an_rnd (h : Nat → Nat → Int32) (s : Int32) : Int32 := s ||| an_hb (fun a => h a 0) s 27 ||| an_hb (fun a => h a 1) s 27
def an_rcn (h : Nat → Nat → Int32) : Nat → Int32 → Int32
  | 0, s => s
  | n + 1, s => if an_rnd h s = s then s else an_rcn h n (an_rnd h s)
/-- what the class finds reached -/
def an_rc (h : Nat → Nat → Int32) (s : Int32) : Int32 := an_rcn h 27 s
theorem an_rnd_up (h : Nat → Nat → Int32) (s : Int32) : an_sub s (an_rnd h s) := an_sub_tr (an_sub_orl _ _) (an_sub_orl _ _)
theorem an_rnd_in {h : Nat → Nat → Int32} {s : Int32} {a g : Nat} (ha : a < 27) (hg : g < 2) (hs : bt s a = true) : an_sub (h a g) (an_rnd h s) := by
  intro b hb
  simp only [an_rnd, b_or, Bool.or_eq_true, an_hb_bt]
  rcases (show g = 0 ∨ g = 1 by omega) with e | e
  · subst e; exact Or.inl (Or.inr ⟨a, ha, hs, hb⟩)
  · subst e; exact Or.inr ⟨a, ha, hs, hb⟩
theorem an_rnd_R {h : Nat → Nat → Int32} {s : Int32} {b : Nat} (hb : bt (an_rnd h s) b = true) : an_R h s b := by
  simp only [an_rnd, b_or, Bool.or_eq_true, an_hb_bt] at hb
  rcases hb with (hb | ⟨a, ha, hs, hb⟩) | ⟨a, ha, hs, hb⟩
  · exact an_R_0 hb
  · exact an_R_s (g := 0) (an_R_0 hs) ha (by omega) hb
  · exact an_R_s (g := 1) (an_R_0 hs) ha (by omega) hb
theorem an_rnd_C {h : Nat → Nat → Int32} {s : Int32} (e : an_C h s) : an_rnd h s = s := by
  refine an_eq (fun b hb => ?_) (an_rnd_up h s)
  exact an_C_R e (an_sub_rf s) (an_rnd_R hb)
theorem an_rnd_cnt {h : Nat → Nat → Int32} {s : Int32} (e : an_cnt (an_rnd h s) 27 ≤ an_cnt s 27) : an_C h (an_rnd h s) :=
  fun a ha hs _ hg => an_rnd_in ha hg (an_cnt_eq (an_rnd_up h s) 27 e a ha hs)
theorem an_rcn_C {h : Nat → Nat → Int32} : ∀ n s, an_C h s → an_rcn h n s = s := by
  intro n
  cases n with
  | zero => intro s _; rfl
  | succ n => intro s e; simp only [an_rcn]; rw [if_pos (an_rnd_C e)]
theorem an_rcn_cl {h : Nat → Nat → Int32} : ∀ n s, 28 ≤ n + an_cnt s 27 → an_C h (an_rcn h n s) := by
  intro n
  induction n with
  | zero => intro s q; have := an_cnt_n s 27; omega
  | succ n ih =>
    intro s q
    simp only [an_rcn]
    by_cases e : an_rnd h s = s
    · rw [if_pos e]
      intro a ha hs g hg
      have := an_rnd_in (h := h) ha hg hs
      rw [e] at this
      exact this
    · rw [if_neg e]
      by_cases z : an_cnt (an_rnd h s) 27 ≤ an_cnt s 27
      · have c := an_rnd_cnt z
        rw [an_rcn_C n _ c]
        exact c
      · exact ih _ (by omega)
theorem an_rcn_up {h : Nat → Nat → Int32} : ∀ n s, an_sub s (an_rcn h n s) := by
  intro n
  induction n with
  | zero => intro s; exact an_sub_rf s
  | succ n ih =>
    intro s
    simp only [an_rcn]
    split
    · exact an_sub_rf s
    · exact an_sub_tr (an_rnd_up h s) (ih _)
theorem an_rcn_R {h : Nat → Nat → Int32} : ∀ n s b, bt (an_rcn h n s) b = true → an_R h s b := by
  intro n
  induction n with
  | zero => intro s b q; exact an_R_0 q
  | succ n ih =>
    intro s b q
    simp only [an_rcn] at q
    by_cases e : an_rnd h s = s
    · rw [if_pos e] at q; exact an_R_0 q
    · rw [if_neg e] at q; exact an_R_tr (fun b z => an_rnd_R z) (ih _ b q)
theorem an_rc_cl (h : Nat → Nat → Int32) (s : Int32) : an_C h (an_rc h s) := by
  by_cases q : ∃ a, a < 27 ∧ bt s a = true
  · obtain ⟨a, ha, hb⟩ := q
    exact an_rcn_cl 27 s (by have := an_cnt_pos hb 27 ha; omega)
  · have c : an_C h s := fun a ha hb _ _ => absurd ⟨a, ha, hb⟩ q
    rw [an_rc, an_rcn_C 27 s c]
    exact c
theorem an_rc_bt (h : Nat → Nat → Int32) (s : Int32) (b : Nat) : bt (an_rc h s) b = true ↔ an_R h s b :=
  ⟨an_rcn_R 27 s b, an_C_R (an_rc_cl h s) (an_rcn_up 27 s)⟩
/-- the reference: one turn -/
def an_rt (h : Nat → Nat → Int32) (s : Int32) : Nat → Int32
  | 0 => s
  | o + 1 => if bt (an_rt h s o) o = true then an_rt h s o ||| h o 0 ||| h o 1 else an_rt h s o
theorem an_rt_up (h : Nat → Nat → Int32) (s : Int32) : ∀ n, an_sub (an_rt h s n) (an_rt h s (n + 1)) := by
  intro n
  simp only [an_rt]
  split
  · exact an_sub_tr (an_sub_orl _ _) (an_sub_orl _ _)
  · exact an_sub_rf _
theorem an_rt_le (h : Nat → Nat → Int32) (s : Int32) {k n : Nat} (hk : k ≤ n) : an_sub (an_rt h s k) (an_rt h s n) := by
  induction n with
  | zero => have e : k = 0 := by omega
            subst e; exact an_sub_rf _
  | succ n ih =>
    by_cases e : k = n + 1
    · subst e; exact an_sub_rf _
    · exact an_sub_tr (ih (by omega)) (an_rt_up h s n)
theorem an_rt_R {h : Nat → Nat → Int32} {s : Int32} : ∀ n, n ≤ 27 → ∀ b, bt (an_rt h s n) b = true → an_R h s b := by
  intro n
  induction n with
  | zero => intro _ b q; exact an_R_0 q
  | succ n ih =>
    intro hn b q
    simp only [an_rt] at q
    by_cases e : bt (an_rt h s n) n = true
    · rw [if_pos e, b_or, b_or, Bool.or_eq_true, Bool.or_eq_true] at q
      rcases q with (q | q) | q
      · exact ih (by omega) b q
      · exact an_R_s (g := 0) (ih (by omega) n e) (by omega) (by omega) q
      · exact an_R_s (g := 1) (ih (by omega) n e) (by omega) (by omega) q
    · rw [if_neg e] at q; exact ih (by omega) b q
theorem an_rt_cnt {h : Nat → Nat → Int32} {s : Int32} (e : an_cnt (an_rt h s 27) 27 ≤ an_cnt s 27) : an_C h (an_rt h s 27) := by
  intro a ha hs g hg b hb
  have h0 : bt s a = true := an_cnt_eq (an_rt_le h s (Nat.zero_le 27)) 27 e a ha hs
  have h1 : bt (an_rt h s a) a = true := an_rt_le h s (Nat.zero_le a) a h0
  have h2 : bt (an_rt h s (a + 1)) b = true := by
    simp only [an_rt]
    rw [if_pos h1, b_or, b_or, Bool.or_eq_true, Bool.or_eq_true]
    rcases (show g = 0 ∨ g = 1 by omega) with z | z
    · subst z; exact Or.inl (Or.inr hb)
    · subst z; exact Or.inr hb
  exact an_rt_le h s (by omega : a + 1 ≤ 27) b h2
theorem an_rt_C {h : Nat → Nat → Int32} {s : Int32} (c : an_C h s) : an_rt h s 27 = s :=
  an_eq (fun b hb => an_C_R c (an_sub_rf s) (an_rt_R 27 (by omega) b hb)) (an_rt_le h s (Nat.zero_le 27))
def an_rr (h : Nat → Nat → Int32) : Nat → Int32 → Int32
  | 0, s => s
  | n + 1, s => an_rr h n (an_rt h s 27)
theorem an_rr_C {h : Nat → Nat → Int32} : ∀ n s, an_C h s → an_rr h n s = s := by
  intro n
  induction n with
  | zero => intro s _; rfl
  | succ n ih => intro s c; simp only [an_rr]; rw [an_rt_C c]; exact ih s c
theorem an_rr_cl {h : Nat → Nat → Int32} : ∀ n s, 28 ≤ n + an_cnt s 27 → an_C h (an_rr h n s) := by
  intro n
  induction n with
  | zero => intro s q; have := an_cnt_n s 27; omega
  | succ n ih =>
    intro s q
    simp only [an_rr]
    by_cases z : an_cnt (an_rt h s 27) 27 ≤ an_cnt s 27
    · have c := an_rt_cnt z
      rw [an_rr_C n _ c]
      exact c
    · exact ih _ (by omega)
theorem an_rr_up {h : Nat → Nat → Int32} : ∀ n s, an_sub s (an_rr h n s) := by
  intro n
  induction n with
  | zero => intro s; exact an_sub_rf s
  | succ n ih => intro s; simp only [an_rr]; exact an_sub_tr (an_rt_le h s (Nat.zero_le 27)) (ih _)
theorem an_rr_R {h : Nat → Nat → Int32} : ∀ n s b, bt (an_rr h n s) b = true → an_R h s b := by
  intro n
  induction n with
  | zero => intro s b q; exact an_R_0 q
  | succ n ih => intro s b q; simp only [an_rr] at q; exact an_R_tr (fun b z => an_rt_R 27 (by omega) b z) (ih _ b q)
/-- what the reference finds reached is what the class finds -/
theorem an_rr_eq (h : Nat → Nat → Int32) (s : Int32) : an_rr h 28 s = an_rc h s := by
  refine an_eq (fun b q => (an_rc_bt h s b).mpr (an_rr_R 28 s b q)) (fun b q => ?_)
  exact an_C_R (an_rr_cl 28 s (by omega)) (an_rr_up 28 s) ((an_rc_bt h s b).mp q)
