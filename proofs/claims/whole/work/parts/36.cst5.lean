/-! the analysis in the class: its sums, its rounds, its end -/
theorem an_and1 {x : Int32} {n : Nat} (hn : n < 32) : (x &&& an_1 n) ≠ 0 ↔ bt x n = true := by
  rw [an_and0]
  constructor
  · rintro ⟨b, h1, h2⟩
    rw [an_1_bt hn, decide_eq_true_eq] at h2
    rw [← h2]; exact h1
  · intro h
    exact ⟨n, h, an_1_self hn⟩
theorem an_sm_le (σ : an_T) (k p : Nat) : an_sm σ k p ≤ 2 := by
  unfold an_sm
  split
  · omega
  · split <;> split <;> omega
theorem an_sm_2 {σ : an_T} {k p : Nat} (hp : p < 2) (h : ¬ (an_rc σ.2.1 an_W &&& an_1 (24 + p)) = 0) : an_sm σ k p = 2 := if_pos ((an_and1 (by omega)).mp h)
theorem an_sm_1 {σ : an_T} {k p : Nat} (hp : p < 2) (h : (an_rc σ.2.1 an_W &&& an_1 (24 + p)) = 0) {ot : Int32} (ho : ot = if k = 2 then an_rc σ.2.1 (an_1 (25 - p)) else 0) (h2 : ¬ (an_rc σ.2.1 (an_1 (24 + p)) &&& (an_rc σ.2.1 σ.2.2 ||| ot)) = 0) : an_sm σ k p = 1 := by
  unfold an_sm
  rw [if_neg (fun q => (an_and1 (by omega)).mpr q h), if_pos (by rw [← ho]; exact h2)]
theorem an_sm_0 {σ : an_T} {k p : Nat} (hp : p < 2) (h : (an_rc σ.2.1 an_W &&& an_1 (24 + p)) = 0) {ot : Int32} (ho : ot = if k = 2 then an_rc σ.2.1 (an_1 (25 - p)) else 0) (h2 : (an_rc σ.2.1 (an_1 (24 + p)) &&& (an_rc σ.2.1 σ.2.2 ||| ot)) = 0) : an_sm σ k p = 0 := by
  unfold an_sm
  rw [if_neg (fun q => (an_and1 (by omega)).mpr q h), if_neg (fun q => q (by rw [← ho]; exact h2))]
/-- what the sums of m have written, r parameters' states, p parameters' reach -/
def cU (m k r p : Nat) (M M1 : fm_M) : Prop :=
  cA M1 m = cA M m ∧ M1 (kF m) 5 = an_rc (cA M m).2.1 an_W ∧
  (∀ b, bt (M1 (kF m) 6) b = true ↔ (an_R (cA M m).2.1 (cA M m).2.2 b ∨ ∃ q, q < p ∧ an_R (cA M m).2.1 (an_1 (24 + q)) b)) ∧
  (∀ q, q < r → M1 (kFs m) q = nI (an_sm (cA M m) k q) ∧ M1 (kFx m) q = bI (an_mx (cA M m) q)) ∧
  (∀ q, r ≤ q → q < 2 → M1 (kFs m) q = 0) ∧
  (∀ a j, ¬ (a = kFs m ∨ a = kFx m ∨ (a = kF m ∧ (j = 5 ∨ j = 6))) → M1 a j = M a j)
section CUU
variable {m k p : Nat} {M M1 : fm_M}
theorem cU_0 (hs : ∀ q, q < 2 → M (kFs m) q = 0) : cU m k 0 0 M (fm_up (fm_up M (kF m) 5 (an_rc (cA M m).2.1 an_W)) (kF m) 6 (an_rc (cA M m).2.1 (cA M m).2.2)) := by
  refine ⟨?_, ?_, fun b => ?_, fun q hq => absurd hq (by omega), fun q _ hq => ?_, fun a j h => ?_⟩
  · rw [cA_up (by show 21 + 15 * m ≠ _; omega) (by show 21 + 15 * m ≠ _; omega) (by show 21 + 15 * m ≠ _; omega) (by omega), cA_up (by show 21 + 15 * m ≠ _; omega) (by show 21 + 15 * m ≠ _; omega) (by show 21 + 15 * m ≠ _; omega) (by omega)]
  · rw [fm_up_b (by omega), fm_up_s]
  · rw [fm_up_s, an_rc_bt]
    constructor
    · exact Or.inl
    · rintro (h | ⟨q, hq, _⟩)
      · exact h
      · omega
  · rw [fm_up_a (by show 26 + 15 * m ≠ 21 + 15 * m; omega), fm_up_a (by show 26 + 15 * m ≠ 21 + 15 * m; omega)]
    exact hs q hq
  · rw [fm_up_n (fun z => h (Or.inr (Or.inr ⟨z.1, Or.inr z.2⟩))), fm_up_n (fun z => h (Or.inr (Or.inr ⟨z.1, Or.inl z.2⟩)))]
theorem cU_w (hu : cU m k p p M M1) : M1 (kF m) 5 = an_rc (cA M m).2.1 an_W := hu.2.1
theorem cU_x (hu : cU m k p p M M1) (hp : p < 2) {s : Nat} (hs : an_sm (cA M m) k p = s) : cU m k (p + 1) p M (fm_up (fm_up M1 (kFx m) p (bI (an_mx (cA M m) p))) (kFs m) p (nI s)) := by
  obtain ⟨h1, h2, h3, h4, h5, h6⟩ := hu
  refine ⟨?_, ?_, fun b => ?_, fun q hq => ?_, fun q h7 hq => ?_, fun a j h => ?_⟩
  · rw [cA_up (by show 26 + 15 * m ≠ _; omega) (by show 26 + 15 * m ≠ _; omega) (by show 26 + 15 * m ≠ _; omega) (by show ¬ (26 + 15 * m = _ ∧ _); omega), cA_up (by show 27 + 15 * m ≠ _; omega) (by show 27 + 15 * m ≠ _; omega) (by show 27 + 15 * m ≠ _; omega) (by show ¬ (27 + 15 * m = _ ∧ _); omega)]
    exact h1
  · rw [fm_up_a (by show 21 + 15 * m ≠ 26 + 15 * m; omega), fm_up_a (by show 21 + 15 * m ≠ 27 + 15 * m; omega)]
    exact h2
  · rw [fm_up_a (by show 21 + 15 * m ≠ 26 + 15 * m; omega), fm_up_a (by show 21 + 15 * m ≠ 27 + 15 * m; omega)]
    exact h3 b
  · by_cases z : q = p
    · subst z
      refine ⟨by rw [fm_up_s, hs], ?_⟩
      rw [fm_up_a (by show 27 + 15 * m ≠ 26 + 15 * m; omega), fm_up_s]
    · rw [fm_up_b z, fm_up_a (by show 26 + 15 * m ≠ 27 + 15 * m; omega), fm_up_a (by show 27 + 15 * m ≠ 26 + 15 * m; omega), fm_up_b z]
      exact h4 q (by omega)
  · rw [fm_up_b (by omega), fm_up_a (by show 26 + 15 * m ≠ 27 + 15 * m; omega)]
    exact h5 q (by omega) hq
  · rw [fm_up_a (fun z => h (Or.inl z)), fm_up_a (fun z => h (Or.inr (Or.inl z)))]
    exact h6 a j h
theorem cU_z (hu : cU m k p p M M1) (hp : p < 2) (hs : an_sm (cA M m) k p = 0) : cU m k (p + 1) p M (fm_up M1 (kFx m) p (bI (an_mx (cA M m) p))) := by
  have h := cU_x hu hp hs
  have e : fm_up (fm_up M1 (kFx m) p (bI (an_mx (cA M m) p))) (kFs m) p (nI 0) = fm_up M1 (kFx m) p (bI (an_mx (cA M m) p)) := by
    funext a j
    by_cases z : a = kFs m ∧ j = p
    · rw [z.1, z.2, fm_up_s, fm_up_a (by show 26 + 15 * m ≠ 27 + 15 * m; omega)]
      exact (hu.2.2.2.2.1 p (Nat.le_refl p) hp).symm
    · rw [fm_up_n z]
  rw [e] at h
  exact h
theorem cU_n (hv : cU m k (p + 1) p M M1) {ow : Int32} (ho : ow = an_rc (cA M m).2.1 (an_1 (24 + p))) : cU m k (p + 1) (p + 1) M (fm_up M1 (kF m) 6 (M1 (kF m) 6 ||| ow)) := by
  obtain ⟨h1, h2, h3, h4, h5, h6⟩ := hv
  refine ⟨?_, ?_, fun b => ?_, fun q hq => ?_, fun q h7 hq => ?_, fun a j h => ?_⟩
  · rw [cA_up (by show 21 + 15 * m ≠ _; omega) (by show 21 + 15 * m ≠ _; omega) (by show 21 + 15 * m ≠ _; omega) (by omega)]
    exact h1
  · rw [fm_up_b (by omega)]
    exact h2
  · rw [fm_up_s, b_or, Bool.or_eq_true, h3, ho, an_rc_bt]
    constructor
    · rintro ((h | ⟨q, hq, h⟩) | h)
      · exact Or.inl h
      · exact Or.inr ⟨q, by omega, h⟩
      · exact Or.inr ⟨p, by omega, h⟩
    · rintro (h | ⟨q, hq, h⟩)
      · exact Or.inl (Or.inl h)
      · by_cases z : q = p
        · subst z; exact Or.inr h
        · exact Or.inl (Or.inr ⟨q, by omega, h⟩)
  · rw [fm_up_a (by show 26 + 15 * m ≠ 21 + 15 * m; omega), fm_up_a (by show 27 + 15 * m ≠ 21 + 15 * m; omega)]
    exact h4 q hq
  · rw [fm_up_a (by show 26 + 15 * m ≠ 21 + 15 * m; omega)]
    exact h5 q h7 hq
  · rw [fm_up_n (fun z => h (Or.inr (Or.inr ⟨z.1, Or.inr z.2⟩)))]
    exact h6 a j h
end CUU
/-- the facts of m are those of the solution -/
def cOK (P : pr_T) (S : Nat → an_T) (m : Nat) (M : fm_M) : Prop :=
  cA M m = S m ∧ (P.1 m = 0 → ∀ q, q < 2 → M (kFs m) q = 0) ∧
  (P.1 m ≠ 0 → M (kF m) 5 = an_rc (S m).2.1 an_W ∧ (∀ b, bt (M (kF m) 6) b = true ↔ (an_R (S m).2.1 (S m).2.2 b ∨ ∃ q, q < P.2.1 m ∧ an_R (S m).2.1 (an_1 (24 + q)) b)) ∧
    ∀ q, q < P.2.1 m → M (kFs m) q = nI (an_sm (S m) (P.2.1 m) q) ∧ M (kFx m) q = bI (an_mx (S m) q))
theorem cA_cg {M M' : fm_M} {m : Nat} (h : ∀ a j, cFa m a → M' a j = M a j) : cA M' m = cA M m := by
  refine Prod.ext (funext fun r => ?_) (Prod.ext (funext fun b => funext fun g => ?_) ?_)
  · show (if r < 4 then M' (kFm m) r else 0) = (if r < 4 then M (kFm m) r else 0)
    rw [h (kFm m) r ⟨by show _ ≤ 22 + 15 * m; omega, by show 22 + 15 * m < _; omega⟩]
  · show (if b < 27 ∧ g < 2 then M' (kFr m g) b else 0) = (if b < 27 ∧ g < 2 then M (kFr m g) b else 0)
    by_cases z : b < 27 ∧ g < 2
    · rw [if_pos z, if_pos z, h (kFr m g) b ⟨by show _ ≤ 24 + 15 * m + g; omega, by show 24 + 15 * m + g < _; omega⟩]
    · rw [if_neg z, if_neg z]
  · exact h (kF m) 4 ⟨by show _ ≤ 21 + 15 * m; omega, by show 21 + 15 * m < _; omega⟩
theorem cOK_cg {P : pr_T} {S : Nat → an_T} {m : Nat} {M M' : fm_M} (k : cOK P S m M) (h : ∀ a j, cFa m a → M' a j = M a j) : cOK P S m M' := by
  obtain ⟨h1, h2, h3⟩ := k
  have e : ∀ j, M' (kFs m) j = M (kFs m) j := fun j => h (kFs m) j ⟨by show _ ≤ 26 + 15 * m; omega, by show 26 + 15 * m < _; omega⟩
  have e2 : ∀ j, M' (kFx m) j = M (kFx m) j := fun j => h (kFx m) j ⟨by show _ ≤ 27 + 15 * m; omega, by show 27 + 15 * m < _; omega⟩
  have e3 : ∀ j, M' (kF m) j = M (kF m) j := fun j => h (kF m) j ⟨by show _ ≤ 21 + 15 * m; omega, by show 21 + 15 * m < _; omega⟩
  refine ⟨(cA_cg h).trans h1, fun z q hq => (e q).trans (h2 z q hq), fun z => ?_⟩
  obtain ⟨a, b, c⟩ := h3 z
  refine ⟨(e3 5).trans a, fun i => by rw [e3 6]; exact b i, fun q hq => ?_⟩
  rw [e q, e2 q]
  exact c q hq
theorem cE_of {P : pr_T} {S : Nat → an_T} {m : Nat} {M : fm_M} (h : ∀ n, m < n → n < 5 → cOK P S n M) : cE P m (an_env P m S) M := by
  refine ⟨rfl, fun n p q => ⟨if_pos (by omega), if_pos (by omega)⟩, fun n h1 h2 h3 p hp => ?_⟩
  have c := ((h n h1 h2).2.2 h3).2.2 p hp
  have e1 : (an_env P m S).2.1 n p = an_sm (S n) (P.2.1 n) p := if_neg (by omega)
  have e2 : (an_env P m S).2.2 n p = (decide (an_sm (S n) (P.2.1 n) p = 2) || an_mx (S n) p) := if_neg (by omega)
  rw [e1, e2]
  exact ⟨c.1, an_sm_le _ _ _, _, c.2, rfl⟩
/-- where the rounds stand -/
def cG (P : pr_T) (m : Nat) (E : an_E) (M0 : fm_M) (t : Nat) (M1 : fm_M) : Prop :=
  (∀ a j, ¬ cFa m a → M1 a j = M0 a j) ∧ (∀ q, q < 2 → M1 (kFs m) q = 0) ∧ an_inv (an_s0 (P.2.1 m)) (P.1 m) (fun i => an_ok E i (P.2.2 m i)) (cA M1 m) ∧
  ∃ g : Bool, M1 (kF m) 7 = bI g ∧ (g = true → t ≤ an_wt (cA M1 m)) ∧ (g = false → ∀ i, i < P.1 m → an_ok E i (P.2.2 m i) (cA M1 m))
/-- the class's step -/
abbrev cF (P : pr_T) (m : Nat) (E : an_E) (i : Nat) : an_T → an_T := an_st (fun x y z n => an_cn E x y z n (E.1 n)) i (P.2.2 m i)
theorem cF_good (P : pr_T) (m : Nat) (E : an_E) {i : Nat} (hi : i < 24) : an_good (an_ok E i (P.2.2 m i)) (cF P m E i) :=
  an_st_good E (fun x y z n => an_cn_good E x y z n (E.1 n)) i (by omega) _
theorem cS_fa {m : Nat} {M M' : fm_M} {σ : an_T} (h : cS m M M' σ) {a j : Nat} (q : ¬ cFa m a) : M' a j = M a j := by
  unfold cFa at q
  exact cS_o h (by omega) (by omega) (by omega) (by omega)
theorem cG_n {P : pr_T} {m : Nat} {E : an_E} {M0 M1 M3 : fm_M} {t : Nat} (hw : pr_wf P) (hm : m < 5) (hG : cG P m E M0 t M1) (hg : M1 (kF m) 7 = bI true) (hc : cS m (fm_up M1 (kF m) 7 (nI 0)) M3 (an_pass (cF P m E) (P.1 m) (cA (fm_up M1 (kF m) 7 (nI 0)) m))) : cG P m E M0 (t + 1) M3 := by
  obtain ⟨h1, h2, h3, g, h4, h5, _⟩ := hG
  obtain ⟨wl, wi, wI⟩ := hw m hm
  have hgt : g = true := by
    rw [hg] at h4
    cases g
    · exact absurd h4 (by decide)
    · rfl
  have eA : cA (fm_up M1 (kF m) 7 (nI 0)) m = cA M1 m := cA_up (by show 21 + 15 * m ≠ _; omega) (by show 21 + 15 * m ≠ _; omega) (by show 21 + 15 * m ≠ _; omega) (by omega)
  have good : ∀ i, i < P.1 m → an_good (an_ok E i (P.2.2 m i)) (cF P m E i) := fun i hi => cF_good P m E (by omega)
  have hinv := an_inv_p good h3
  have htop : an_le (an_pass (cF P m E) (P.1 m) (cA M1 m)) an_top := hinv.2 an_top (an_s0_top wi) (fun i hi => an_top_ok E (by omega) (wI i hi))
  refine ⟨fun a j q => ?_, fun q hq => ?_, ?_, ?_⟩
  · rw [cS_fa hc q, fm_up_a (fun z => q ⟨by rw [z]; show _ ≤ 21 + 15 * m; omega, by rw [z]; show 21 + 15 * m < _; omega⟩)]
    exact h1 a j q
  · rw [cS_o hc (a := kFs m) (by show 26 + 15 * m ≠ _; omega) (by show 26 + 15 * m ≠ _; omega) (by show 26 + 15 * m ≠ _; omega) (by show 26 + 15 * m ≠ _; omega), fm_up_a (by show 26 + 15 * m ≠ 21 + 15 * m; omega)]
    exact h2 q hq
  · rw [hc.1, eA]
    exact hinv
  · have h7 := hc.2.2.2
    rw [eA, fm_up_s] at h7
    rw [hc.1, eA]
    rcases h7 with ⟨s, e⟩ | ⟨s, e⟩
    · refine ⟨false, e, fun z => absurd z (by decide), fun _ => ?_⟩
      exact an_pass_fixC (E := E) wl (fun x y z n => an_cn_good E x y z n (E.1 n)) (fun x y z n σ => an_cn_g E x y z n σ (E.1 n)) s
    · refine ⟨true, e, fun _ => ?_, fun z => absurd z (by decide)⟩
      have := an_wt_lt (an_pass_up (f := cF P m E) (ok := fun i => an_ok E i (P.2.2 m i)) (P.1 m) good (cA M1 m)) htop (fun z => s ⟨congrArg Prod.fst z, congrArg (fun q : an_T => q.2.1) z⟩)
      have := h5 hgt
      omega
/-- the end -/
theorem cG_e {P : pr_T} {m : Nat} {S : Nat → an_T} {M0 M1 M2 : fm_M} {t : Nat} (hn : P.1 m ≠ 0) (hG : cG P m (an_env P m S) M0 t M1) (ht : 2000 ≤ t ∨ M1 (kF m) 7 = bI false) (hu : cU m (P.2.1 m) (P.2.1 m) (P.2.1 m) M1 M2) :
    ∃ σ, an_is1 P (fun n => if n = m then σ else S n) m ∧ cOK P (fun n => if n = m then σ else S n) m M2 ∧ ∀ a j, ¬ cFa m a → M2 a j = M0 a j := by
  obtain ⟨h1, h2, h3, g, h4, h5, h6⟩ := hG
  have hgf : g = false := by
    cases g
    · rfl
    · rcases ht with ht | ht
      · have := h5 rfl
        have := an_wt_bd (cA M1 m)
        omega
      · rw [h4] at ht
        exact absurd ht (by decide)
  refine ⟨cA M1 m, ?_, ?_, fun a j q => ?_⟩
  · have e : an_env P m (fun n => if n = m then cA M1 m else S n) = an_env P m S := an_env_cg (fun n q _ => if_neg (by omega))
    unfold an_is1
    rw [if_neg hn, e]
    simp only [if_pos]
    exact ⟨h3, h6 hgf⟩
  · obtain ⟨u1, u2, u3, u4, _, _⟩ := hu
    unfold cOK
    simp only [if_pos]
    exact ⟨u1, fun z => absurd z hn, fun _ => ⟨u2, u3, u4⟩⟩
  · unfold cFa at q
    rw [hu.2.2.2.2.2 a j (fun w => by
      rcases w with w | w | ⟨w, _⟩
      · have : a = 26 + 15 * m := w
        omega
      · have : a = 27 + 15 * m := w
        omega
      · have : a = 21 + 15 * m := w
        omega)]
    exact h1 a j q
