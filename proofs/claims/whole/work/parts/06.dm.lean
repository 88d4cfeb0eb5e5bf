/-! DOMINANCE: ways that don't go over a hole -/
/-- from instruction i to instruction j -/
abbrev dm_e (n : Nat) (c : Nat → an_I) (i j : Nat) : Prop :=
  j < n ∧ (((c i).1 ≠ 14 ∧ (c i).1 ≠ 17 ∧ j = i + 1) ∨ (((c i).1 = 14 ∨ (c i).1 = 15) ∧ (c i).2.2.2.2 = nI j))
/-- a way from 0 leads there that doesn't go over the hole -/
def dm_R (n : Nat) (c : Nat → an_I) (hole j : Nat) : Prop :=
  ∀ S : Nat → Prop, (0 < n → 0 ≠ hole → S 0) → (∀ i, i < n → S i → ∀ j, j ≠ hole → dm_e n c i j → S j) → S j
theorem dm_R_0 {n : Nat} {c : Nat → an_I} {hole : Nat} (h : 0 < n) (k : 0 ≠ hole) : dm_R n c hole 0 := fun _ h0 _ => h0 h k
theorem dm_R_s {n : Nat} {c : Nat → an_I} {hole i j : Nat} (h : dm_R n c hole i) (hi : i < n) (hj : j ≠ hole) (e : dm_e n c i j) : dm_R n c hole j :=
  fun S h0 hs => hs i hi (h S h0 hs) j hj e
theorem dm_R_ne {n : Nat} {c : Nat → an_I} {hole j : Nat} (h : dm_R n c hole j) : j ≠ hole := h (fun j => j ≠ hole) (fun _ k => k) (fun _ _ _ _ k _ => k)
theorem dm_R_lt {n : Nat} {c : Nat → an_I} {hole j : Nat} (h : dm_R n c hole j) : j < n := h (fun j => j < n) (fun k _ => k) (fun _ _ _ _ _ e => e.1)
/-- the class -/
def dm_bit (n : Nat) (v : Int32) : Int32 := if 0 ≤ v ∧ v < nI n then (1 : Int32) <<< (v &&& 31) else 0
theorem dm_bit_bt {n : Nat} (hn : n ≤ 24) (v : Int32) (j : Nat) : bt (dm_bit n v) j = true ↔ j < n ∧ v = nI j := by
  unfold dm_bit
  by_cases h : 0 ≤ v ∧ v < nI n
  · rw [if_pos h]
    obtain ⟨k, hk, e⟩ := nI_of (x := v) (by rw [Int32.not_lt]; exact h.1)
    subst e
    have hkn : k < n := (nI_ltI hk (by omega)).mp h.2
    show bt (an_1 k) j = true ↔ _
    rw [an_1_bt (by omega), decide_eq_true_eq]
    constructor
    · intro q; subst q; exact ⟨hkn, rfl⟩
    · rintro ⟨q1, q2⟩
      exact ((nI_eq hk (by omega)).mp q2).symm
  · rw [if_neg h, b_0]
    constructor
    · intro q; exact absurd q (by decide)
    · rintro ⟨q1, q2⟩
      subst q2
      exact absurd ⟨nI_pos' (by omega), nI_lt q1 (by omega)⟩ h
def dm_nx (n : Nat) (c : Nat → an_I) (i : Nat) (a : Int32) : Int32 := if (c i).1 ≠ 14 ∧ (c i).1 ≠ 17 then a ||| dm_bit n (nI (i + 1)) else a
def dm_jm (n : Nat) (c : Nat → an_I) (i : Nat) (a : Int32) : Int32 := if (c i).1 = 14 ∨ (c i).1 = 15 then a ||| dm_bit n (c i).2.2.2.2 else a
def dm_bh (n : Nat) (c : Nat → an_I) (s : Int32) : Nat → Int32
  | 0 => 0
  | i + 1 => if bt s i = true then dm_jm n c i (dm_nx n c i (dm_bh n c s i)) else dm_bh n c s i
theorem dm_nx_bt {n : Nat} (hn : n ≤ 24) (c : Nat → an_I) (i : Nat) (hi : i < 32) (a : Int32) (j : Nat) : bt (dm_jm n c i (dm_nx n c i a)) j = true ↔ bt a j = true ∨ dm_e n c i j := by
  have e1 : bt (dm_nx n c i a) j = true ↔ bt a j = true ∨ (j < n ∧ (c i).1 ≠ 14 ∧ (c i).1 ≠ 17 ∧ j = i + 1) := by
    unfold dm_nx
    by_cases q : (c i).1 ≠ 14 ∧ (c i).1 ≠ 17
    · rw [if_pos q, b_or, Bool.or_eq_true, dm_bit_bt hn]
      constructor
      · rintro (h | ⟨h1, h2⟩)
        · exact Or.inl h
        · exact Or.inr ⟨h1, q.1, q.2, ((nI_eq (by omega) (by omega)).mp h2).symm⟩
      · rintro (h | ⟨h1, _, _, h4⟩)
        · exact Or.inl h
        · exact Or.inr ⟨h1, by rw [h4]⟩
    · rw [if_neg q]
      constructor
      · exact Or.inl
      · rintro (h | ⟨_, h2, h3, _⟩)
        · exact h
        · exact absurd ⟨h2, h3⟩ q
  unfold dm_jm
  by_cases q : (c i).1 = 14 ∨ (c i).1 = 15
  · rw [if_pos q, b_or, Bool.or_eq_true, dm_bit_bt hn, e1]
    constructor
    · rintro ((h | ⟨h1, h2, h3, h4⟩) | ⟨h1, h2⟩)
      · exact Or.inl h
      · exact Or.inr ⟨h1, Or.inl ⟨h2, h3, h4⟩⟩
      · exact Or.inr ⟨h1, Or.inr ⟨q, h2⟩⟩
    · rintro (h | ⟨h1, ⟨h2, h3, h4⟩ | ⟨_, h3⟩⟩)
      · exact Or.inl (Or.inl h)
      · exact Or.inl (Or.inr ⟨h1, h2, h3, h4⟩)
      · exact Or.inr ⟨h1, h3⟩
  · rw [if_neg q, e1]
    constructor
    · rintro (h | ⟨h1, h2, h3, h4⟩)
      · exact Or.inl h
      · exact Or.inr ⟨h1, Or.inl ⟨h2, h3, h4⟩⟩
    · rintro (h | ⟨h1, ⟨h2, h3, h4⟩ | ⟨h2, _⟩⟩)
      · exact Or.inl h
      · exact Or.inr ⟨h1, h2, h3, h4⟩
      · exact absurd h2 q
theorem dm_bh_bt {n : Nat} (hn : n ≤ 24) (c : Nat → an_I) (s : Int32) (j : Nat) : ∀ k, k ≤ 32 → (bt (dm_bh n c s k) j = true ↔ ∃ i, i < k ∧ bt s i = true ∧ dm_e n c i j) := by
  intro k
  induction k with
  | zero => intro _; simp [dm_bh, b_0]
  | succ k ih =>
    intro hk
    simp only [dm_bh]
    by_cases q : bt s k = true
    · rw [if_pos q, dm_nx_bt hn c k (by omega), ih (by omega)]
      constructor
      · rintro (⟨i, h1, h2, h3⟩ | h)
        · exact ⟨i, by omega, h2, h3⟩
        · exact ⟨k, by omega, q, h⟩
      · rintro ⟨i, h1, h2, h3⟩
        by_cases z : i = k
        · rw [z] at h3; exact Or.inr h3
        · exact Or.inl ⟨i, by omega, h2, h3⟩
    · rw [if_neg q, ih (by omega)]
      constructor
      · rintro ⟨i, h1, h2, h3⟩
        exact ⟨i, by omega, h2, h3⟩
      · rintro ⟨i, h1, h2, h3⟩
        by_cases z : i = k
        · rw [z] at h2; exact absurd h2 q
        · exact ⟨i, by omega, h2, h3⟩
/-- all but the hole -/
def dm_al (hole : Nat) : Int32 := an_1 hole ^^^ (-1)
theorem dm_al_bt {hole : Nat} (hh : hole < 24) {j : Nat} (hj : j < 32) : bt (dm_al hole) j = true ↔ j ≠ hole := by
  unfold dm_al
  rw [b_xor, b_m1 j hj, an_1_bt (by omega)]
  by_cases q : j = hole <;> simp [q]
def dm_rd (n : Nat) (c : Nat → an_I) (hole : Nat) (s : Int32) : Int32 := (s ||| dm_bh n c s n) &&& dm_al hole
def dm_go (n : Nat) (c : Nat → an_I) (hole : Nat) : Nat → Int32 → Int32
  | 0, s => s
  | k + 1, s => if dm_rd n c hole s = s then s else dm_go n c hole k (dm_rd n c hole s)
/-- what the class finds free of the hole -/
def dm_free (n : Nat) (c : Nat → an_I) (hole : Nat) : Int32 := dm_go n c hole 24 (dm_bit n 0 &&& dm_al hole)
/-- inside: bits below n, not the hole -/
def dm_in (n hole : Nat) (s : Int32) : Prop := ∀ j, bt s j = true → j < n ∧ j ≠ hole
def dm_C (n : Nat) (c : Nat → an_I) (hole : Nat) (s : Int32) : Prop := ∀ i, i < n → bt s i = true → ∀ j, j ≠ hole → dm_e n c i j → bt s j = true
section DM
variable {n : Nat} {c : Nat → an_I} {hole : Nat}
theorem dm_rd_bt (hn : n ≤ 24) (hh : hole < 24) {s : Int32} (hs : dm_in n hole s) (j : Nat) : bt (dm_rd n c hole s) j = true ↔ bt s j = true ∨ (j ≠ hole ∧ ∃ i, i < n ∧ bt s i = true ∧ dm_e n c i j) := by
  unfold dm_rd
  rw [b_and, b_or, Bool.and_eq_true, Bool.or_eq_true, dm_bh_bt hn c s j n (by omega)]
  constructor
  · rintro ⟨h1 | h1, h2⟩
    · exact Or.inl h1
    · obtain ⟨i, a1, a2, a3⟩ := h1
      exact Or.inr ⟨(dm_al_bt hh (by have := a3.1; omega)).mp h2, i, a1, a2, a3⟩
  · rintro (h | ⟨h1, i, a1, a2, a3⟩)
    · have := hs j h
      exact ⟨Or.inl h, (dm_al_bt hh (by omega)).mpr this.2⟩
    · exact ⟨Or.inr ⟨i, a1, a2, a3⟩, (dm_al_bt hh (by have := a3.1; omega)).mpr h1⟩
theorem dm_rd_in (hn : n ≤ 24) (hh : hole < 24) {s : Int32} (hs : dm_in n hole s) : dm_in n hole (dm_rd n c hole s) := by
  intro j hj
  rcases (dm_rd_bt hn hh hs j).mp hj with h | ⟨h1, i, _, _, h4⟩
  · exact hs j h
  · exact ⟨h4.1, h1⟩
theorem dm_rd_up (hn : n ≤ 24) (hh : hole < 24) {s : Int32} (hs : dm_in n hole s) : an_sub s (dm_rd n c hole s) := fun j hj => (dm_rd_bt hn hh hs j).mpr (Or.inl hj)
theorem dm_rd_C (hn : n ≤ 24) (hh : hole < 24) {s : Int32} (hs : dm_in n hole s) (k : dm_C n c hole s) : dm_rd n c hole s = s := by
  refine an_eq (fun j hj => ?_) (dm_rd_up hn hh hs)
  rcases (dm_rd_bt hn hh hs j).mp hj with h | ⟨h1, i, h2, h3, h4⟩
  · exact h
  · exact k i h2 h3 j h1 h4
theorem dm_go_C (hn : n ≤ 24) (hh : hole < 24) {s : Int32} (hs : dm_in n hole s) (k : dm_C n c hole s) : ∀ t, dm_go n c hole t s = s := by
  intro t
  cases t with
  | zero => rfl
  | succ t => simp only [dm_go]; rw [if_pos (dm_rd_C hn hh hs k)]
theorem dm_go_cl (hn : n ≤ 24) (hh : hole < 24) : ∀ t s, dm_in n hole s → 25 ≤ t + an_cnt s 24 → dm_C n c hole (dm_go n c hole t s) := by
  intro t
  induction t with
  | zero => intro s _ q; have := an_cnt_n s 24; omega
  | succ t ih =>
    intro s hs q
    simp only [dm_go]
    by_cases e : dm_rd n c hole s = s
    · rw [if_pos e]
      intro i hi hb j hj he
      have : bt (dm_rd n c hole s) j = true := (dm_rd_bt hn hh hs j).mpr (Or.inr ⟨hj, i, hi, hb, he⟩)
      rw [e] at this
      exact this
    · rw [if_neg e]
      by_cases z : an_cnt (dm_rd n c hole s) 24 ≤ an_cnt s 24
      · have k : dm_C n c hole (dm_rd n c hole s) := by
          intro i hi hb j hj he
          have hb' := an_cnt_eq (dm_rd_up (c := c) hn hh hs) 24 z i (by omega) hb
          exact (dm_rd_bt hn hh hs j).mpr (Or.inr ⟨hj, i, hi, hb', he⟩)
        rw [dm_go_C hn hh (dm_rd_in hn hh hs) k]
        exact k
      · exact ih _ (dm_rd_in hn hh hs) (by omega)
theorem dm_go_up (hn : n ≤ 24) (hh : hole < 24) : ∀ t s, dm_in n hole s → an_sub s (dm_go n c hole t s) := by
  intro t
  induction t with
  | zero => intro s _; exact an_sub_rf s
  | succ t ih =>
    intro s hs
    simp only [dm_go]
    split
    · exact an_sub_rf s
    · exact an_sub_tr (dm_rd_up hn hh hs) (ih _ (dm_rd_in hn hh hs))
theorem dm_go_R (hn : n ≤ 24) (hh : hole < 24) : ∀ t s, dm_in n hole s → (∀ j, bt s j = true → dm_R n c hole j) → ∀ j, bt (dm_go n c hole t s) j = true → dm_R n c hole j := by
  intro t
  induction t with
  | zero => intro s _ h j q; exact h j q
  | succ t ih =>
    intro s hs h j q
    simp only [dm_go] at q
    by_cases e : dm_rd n c hole s = s
    · rw [if_pos e] at q; exact h j q
    · rw [if_neg e] at q
      refine ih _ (dm_rd_in hn hh hs) (fun j q => ?_) j q
      rcases (dm_rd_bt hn hh hs j).mp q with w | ⟨h1, i, h2, h3, h4⟩
      · exact h j w
      · exact dm_R_s (h i h3) h2 h1 h4
theorem dm_free_bt (hn : n ≤ 24) (hh : hole < 24) (j : Nat) : bt (dm_free n c hole) j = true ↔ dm_R n c hole j := by
  have e0 : ∀ j, bt (dm_bit n 0 &&& dm_al hole) j = true ↔ (j = 0 ∧ 0 < n ∧ 0 ≠ hole) := by
    intro j
    rw [b_and, Bool.and_eq_true, dm_bit_bt hn]
    constructor
    · rintro ⟨⟨h1, h2⟩, h3⟩
      have hj : j = 0 := ((nI_eq (a := 0) (b := j) (by omega) (by omega)).mp (nI_0.trans h2)).symm
      subst hj
      exact ⟨rfl, h1, (dm_al_bt hh (by omega)).mp h3⟩
    · rintro ⟨h1, h2, h3⟩
      subst h1
      exact ⟨⟨h2, nI_0.symm⟩, (dm_al_bt hh (by omega)).mpr h3⟩
  have hs : dm_in n hole (dm_bit n 0 &&& dm_al hole) := by
    intro j hj
    obtain ⟨h1, h2, h3⟩ := (e0 j).mp hj
    subst h1
    exact ⟨h2, h3⟩
  have hr : ∀ j, bt (dm_bit n 0 &&& dm_al hole) j = true → dm_R n c hole j := by
    intro j hj
    obtain ⟨h1, h2, h3⟩ := (e0 j).mp hj
    subst h1
    exact dm_R_0 h2 h3
  have hc : dm_C n c hole (dm_free n c hole) := by
    by_cases q : 0 < n ∧ 0 ≠ hole
    · exact dm_go_cl hn hh 24 _ hs (by have := an_cnt_pos ((e0 0).mpr ⟨rfl, q⟩) 24 (by omega); omega)
    · have k : dm_C n c hole (dm_bit n 0 &&& dm_al hole) := fun i _ hb => absurd ((e0 i).mp hb).2 q
      unfold dm_free
      rw [dm_go_C hn hh hs k]
      exact k
  constructor
  · exact dm_go_R hn hh 24 _ hs hr j
  · intro h
    refine h (fun j => bt (dm_free n c hole) j = true) (fun h1 h2 => ?_) (fun i hi hb j hj he => hc i hi hb j hj he)
    exact dm_go_up hn hh 24 _ hs 0 ((e0 0).mpr ⟨rfl, h1, h2⟩)
end DM
/-! the reference -/
def dm_cb (f : Nat → Bool) : Nat → Nat
  | 0 => 0
  | n + 1 => dm_cb f n + (if f n = true then 1 else 0)
theorem dm_cb_n (f : Nat → Bool) : ∀ n, dm_cb f n ≤ n := by
  intro n
  induction n with
  | zero => exact Nat.le_refl _
  | succ n ih => simp only [dm_cb]; split <;> omega
theorem dm_cb_le {f g : Nat → Bool} (h : ∀ i, f i = true → g i = true) : ∀ n, dm_cb f n ≤ dm_cb g n := by
  intro n
  induction n with
  | zero => exact Nat.le_refl _
  | succ n ih =>
    simp only [dm_cb]
    by_cases q : f n = true
    · rw [if_pos q, if_pos (h n q)]; omega
    · rw [if_neg q]; omega
theorem dm_cb_eq {f g : Nat → Bool} (h : ∀ i, f i = true → g i = true) : ∀ n, dm_cb g n ≤ dm_cb f n → ∀ a, a < n → g a = true → f a = true := by
  intro n
  induction n with
  | zero => intro _ a ha; omega
  | succ n ih =>
    intro hc a ha hb
    have hn := dm_cb_le h n
    simp only [dm_cb] at hc
    by_cases q : f n = true
    · rw [if_pos q, if_pos (h n q)] at hc
      by_cases z : a = n
      · rw [z]; exact q
      · exact ih (by omega) a (by omega) hb
    · rw [if_neg q] at hc
      by_cases w : g n = true
      · rw [if_pos w] at hc; omega
      · by_cases z : a = n
        · rw [z] at hb; exact absurd hb w
        · exact ih (by rw [if_neg w] at hc; omega) a (by omega) hb
/-- instruction k is looked at -/
def dm_tk (n : Nat) (c : Nat → an_I) (hole : Nat) (o : Nat → Bool) (k : Nat) : Nat → Bool := fun j => o j || (o k && decide (k ≠ hole) && decide (dm_e n c k j))
def dm_tn (n : Nat) (c : Nat → an_I) (hole : Nat) (o : Nat → Bool) : Nat → Nat → Bool
  | 0 => o
  | k + 1 => dm_tk n c hole (dm_tn n c hole o k) k
def dm_rr (n : Nat) (c : Nat → an_I) (hole : Nat) : Nat → (Nat → Bool) → Nat → Bool
  | 0, o => o
  | t + 1, o => dm_rr n c hole t (dm_tn n c hole o n)
def dm_o0 (hole : Nat) : Nat → Bool := fun k => decide (k = 0) && decide (hole ≠ 0)
/-- closed, the hole may be in it -/
def dm_D (n : Nat) (c : Nat → an_I) (hole : Nat) (o : Nat → Bool) : Prop := ∀ i, i < n → o i = true → i ≠ hole → ∀ j, dm_e n c i j → o j = true
section DM2
variable {n : Nat} {c : Nat → an_I} {hole : Nat}
theorem dm_tk_iff (o : Nat → Bool) (k j : Nat) : dm_tk n c hole o k j = true ↔ o j = true ∨ (o k = true ∧ k ≠ hole ∧ dm_e n c k j) := by
  unfold dm_tk
  rw [Bool.or_eq_true, Bool.and_eq_true, Bool.and_eq_true, decide_eq_true_eq, decide_eq_true_eq, and_assoc]
theorem dm_tn_le (o : Nat → Bool) {a b : Nat} (h : a ≤ b) (j : Nat) (q : dm_tn n c hole o a j = true) : dm_tn n c hole o b j = true := by
  induction b with
  | zero => have e : a = 0 := by omega
            subst e; exact q
  | succ b ih =>
    by_cases e : a = b + 1
    · subst e; exact q
    · exact (dm_tk_iff _ _ _).mpr (Or.inl (ih (by omega)))
theorem dm_tn_D {o : Nat → Bool} (k : dm_D n c hole o) : ∀ t, t ≤ n → dm_tn n c hole o t = o := by
  intro t
  induction t with
  | zero => intro _; rfl
  | succ t ih =>
    intro ht
    funext j
    show dm_tk n c hole (dm_tn n c hole o t) t j = o j
    rw [ih (by omega)]
    cases q : o j with
    | true => exact (dm_tk_iff _ _ _).mpr (Or.inl q)
    | false =>
      cases w : dm_tk n c hole o t j with
      | false => rfl
      | true =>
        rcases (dm_tk_iff _ _ _).mp w with h | ⟨h1, h2, h3⟩
        · rw [h] at q; exact absurd q (by decide)
        · rw [k t (by omega) h1 h2 j h3] at q; exact absurd q (by decide)
theorem dm_tn_cnt {o : Nat → Bool} (hn : n ≤ 24) (e : dm_cb (dm_tn n c hole o n) 24 ≤ dm_cb o 24) : dm_D n c hole (dm_tn n c hole o n) := by
  intro i hi hb hh j he
  have h0 : o i = true := dm_cb_eq (fun j q => dm_tn_le o (Nat.zero_le n) j q) 24 e i (by omega) hb
  have h1 : dm_tn n c hole o i i = true := dm_tn_le o (Nat.zero_le i) i h0
  have h2 : dm_tn n c hole o (i + 1) j = true := (dm_tk_iff _ _ _).mpr (Or.inr ⟨h1, hh, he⟩)
  exact dm_tn_le o (by omega : i + 1 ≤ n) j h2
theorem dm_rr_D {o : Nat → Bool} (k : dm_D n c hole o) : ∀ t, dm_rr n c hole t o = o := by
  intro t
  induction t with
  | zero => rfl
  | succ t ih => simp only [dm_rr]; rw [dm_tn_D k n (Nat.le_refl n)]; exact ih
theorem dm_rr_cl (hn : n ≤ 24) : ∀ t o, 25 ≤ t + dm_cb o 24 → dm_D n c hole (dm_rr n c hole t o) := by
  intro t
  induction t with
  | zero => intro o q; have := dm_cb_n o 24; omega
  | succ t ih =>
    intro o q
    simp only [dm_rr]
    by_cases z : dm_cb (dm_tn n c hole o n) 24 ≤ dm_cb o 24
    · have k := dm_tn_cnt hn z
      rw [dm_rr_D k]
      exact k
    · exact ih _ (by omega)
theorem dm_rr_up : ∀ t o j, o j = true → dm_rr n c hole t o j = true := by
  intro t
  induction t with
  | zero => intro o j q; exact q
  | succ t ih => intro o j q; exact ih _ j (dm_tn_le o (Nat.zero_le n) j q)
/-- the hole, or reached without it -/
theorem dm_tn_R {o : Nat → Bool} (h : ∀ j, o j = true → j = hole ∨ dm_R n c hole j) : ∀ t, t ≤ n → ∀ j, dm_tn n c hole o t j = true → j = hole ∨ dm_R n c hole j := by
  intro t
  induction t with
  | zero => intro _ j q; exact h j q
  | succ t ih =>
    intro ht j q
    rcases (dm_tk_iff _ _ _).mp q with w | ⟨h1, h2, h3⟩
    · exact ih (by omega) j w
    · by_cases e : j = hole
      · exact Or.inl e
      · rcases ih (by omega) t h1 with w | w
        · exact absurd w h2
        · exact Or.inr (dm_R_s w (by omega) e h3)
theorem dm_rr_R : ∀ t o, (∀ j, o j = true → j = hole ∨ dm_R n c hole j) → ∀ j, dm_rr n c hole t o j = true → j = hole ∨ dm_R n c hole j := by
  intro t
  induction t with
  | zero => intro o h j q; exact h j q
  | succ t ih => intro o h j q; exact ih _ (dm_tn_R h n (Nat.le_refl n)) j q
/-- what the reference finds open is what is reached without the hole -/
theorem dm_rr_iff (hn : n ≤ 24) (h0 : 0 < n) {j : Nat} (hj : j ≠ hole) : dm_rr n c hole 25 (dm_o0 hole) j = true ↔ dm_R n c hole j := by
  constructor
  · intro q
    have h1 : ∀ j, dm_o0 hole j = true → j = hole ∨ dm_R n c hole j := fun j q => by
      unfold dm_o0 at q
      rw [Bool.and_eq_true, decide_eq_true_eq, decide_eq_true_eq] at q
      rw [q.1]
      exact Or.inr (dm_R_0 h0 q.2.symm)
    exact (dm_rr_R 25 (dm_o0 hole) h1 j q).resolve_left hj
  · intro h
    refine (h (fun j => j ≠ hole ∧ dm_rr n c hole 25 (dm_o0 hole) j = true) (fun _ h2 => ⟨h2, ?_⟩) (fun i hi hb j hj he => ⟨hj, ?_⟩)).2
    · refine dm_rr_up 25 _ 0 ?_
      unfold dm_o0
      rw [Bool.and_eq_true, decide_eq_true_eq, decide_eq_true_eq]
      exact ⟨rfl, h2.symm⟩
    · exact dm_rr_cl hn 25 (dm_o0 hole) (by omega) i hi hb.2 hb.1 j he
end DM2
