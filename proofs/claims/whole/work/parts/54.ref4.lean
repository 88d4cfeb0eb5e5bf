/-! the analysis in the reference -/
def fm_fz (M : fm_M) (a b n : Nat) (v : Int32) : fm_M := fun c j => if c = a ∧ b ≤ j ∧ j < b + n then v else M c j
theorem fm_fz_0 (M : fm_M) (a b : Nat) (v : Int32) : fm_fz M a b 0 v = M := by
  funext c j
  exact if_neg (by omega)
theorem fm_fz_s (M : fm_M) (a b n : Nat) (v : Int32) : fm_up (fm_fz M a b n v) a (b + n) v = fm_fz M a b (n + 1) v := by
  funext c j
  unfold fm_up fm_fz
  by_cases h : c = a ∧ j = b + n
  · rw [if_pos h, if_pos (by omega)]
  · rw [if_neg h]
    by_cases k : c = a ∧ b ≤ j ∧ j < b + n
    · rw [if_pos k, if_pos (by omega)]
    · rw [if_neg k, if_neg (by omega)]
theorem fm_fz_o {M : fm_M} {a b n c j : Nat} {v : Int32} (h : ¬ (c = a ∧ b ≤ j ∧ j < b + n)) : fm_fz M a b n v c j = M c j := if_neg h
theorem fm_fz_i {M : fm_M} {a b n c j : Nat} {v : Int32} (h : c = a ∧ b ≤ j ∧ j < b + n) : fm_fz M a b n v c j = v := if_pos h
theorem fm_indd {Q : Nat → Prop} (h : ∀ d, (∀ e, e < d → Q e) → Q d) : ∀ d, Q d := fun d => Nat.strongRecOn d h
/-- all that is known of m, gone -/
def rZ (M : fm_M) (m : Nat) : fm_M := fm_up (fm_up (fm_up (fm_fz (fm_fz M 8 (4 * m) 4 (nI 0)) 9 (54 * m) 54 (nI 0)) 10 m (nI 0)) 11 (2 * m) (nI 0)) 11 (2 * m + 1) (nI 0)
/-- what the analysis of m may change -/
def rFa (m a j : Nat) : Prop := rW m a j ∨ (a = 11 ∧ (j = 2 * m ∨ j = 2 * m + 1))
theorem rZ_o {M : fm_M} {m a j : Nat} (h : ¬ rFa m a j) : rZ M m a j = M a j := by
  unfold rFa rW at h
  unfold rZ
  rw [fm_up_n (by omega), fm_up_n (by omega), fm_up_n (by omega), fm_fz_o (by omega), fm_fz_o (by omega)]
theorem rZ_A (M : fm_M) (m : Nat) : rA (rZ M m) m = an_z := by
  refine Prod.ext (funext fun r => ?_) (Prod.ext (funext fun a => funext fun g => ?_) ?_)
  · show (if r < 4 then rZ M m 8 (4 * m + r) else 0) = (0 : Int32)
    split
    · unfold rZ
      rw [fm_up_a (by decide), fm_up_a (by decide), fm_up_a (by decide), fm_fz_o (by omega), fm_fz_i (by omega)]
      rfl
    · rfl
  · show (if a < 27 ∧ g < 2 then rZ M m 9 (54 * m + 2 * a + g) else 0) = (0 : Int32)
    split
    · unfold rZ
      rw [fm_up_a (by decide), fm_up_a (by decide), fm_up_a (by decide), fm_fz_i (by omega)]
      rfl
    · rfl
  · show rZ M m 10 m = (0 : Int32)
    unfold rZ
    rw [fm_up_a (by decide), fm_up_a (by decide), fm_up_s]
    rfl
theorem rZ_s {M : fm_M} {m q : Nat} (h : q < 2) : rZ M m 11 (2 * m + q) = 0 := by
  unfold rZ
  rcases (by omega : q = 0 ∨ q = 1) with e | e <;> subst e
  · rw [fm_up_b (by omega), Nat.add_zero, fm_up_s]; rfl
  · rw [fm_up_s]; rfl
theorem rS_set {m x : Nat} (hx : x < 4) {M : fm_M} {s : Int32} (h : (rA M m).1 x = 0) : rS m M (fm_up M 8 (4 * m + x) s) (an_m (rA M m) x s) := by
  have h2 := rS_m2 (m := m) hx M s
  rw [h, an_0or] at h2
  exact h2
theorem an_s0_0 : an_h an_z an_W an_al an_W = an_s0 0 := by
  rw [← an_s1_0]
  exact an_s1_W (by omega)
theorem an_s0_s {p : Nat} (hp : p < 2) : an_h (an_m (an_s0 p) p (an_1 (24 + p))) (an_1 (24 + p)) an_al (an_1 (24 + p)) = an_s0 (p + 1) := by
  refine Prod.ext (funext fun r => ?_) (Prod.ext (funext fun a => funext fun g => ?_) rfl)
  · exact congrFun (congrArg Prod.fst (an_s1_s hp)) r
  · show (if a < 27 ∧ g < 2 ∧ bt (an_1 (24 + p)) a = true ∧ an_al a g = true then (if g < 2 then (if a = 26 then an_W else if 24 ≤ a ∧ a < 24 + p then an_1 a else 0) else 0) ||| an_1 (24 + p) else (if g < 2 then (if a = 26 then an_W else if 24 ≤ a ∧ a < 24 + p then an_1 a else 0) else 0)) = (if g < 2 then (if a = 26 then an_W else if 24 ≤ a ∧ a < 24 + (p + 1) then an_1 a else 0) else 0)
    have hb : bt (an_1 (24 + p)) a = true ↔ a = 24 + p := by rw [an_1_bt (by omega), decide_eq_true_eq]
    by_cases hg : g < 2
    · simp only [if_pos hg]
      by_cases z : a = 24 + p
      · subst z
        rw [if_pos ⟨by omega, hg, hb.mpr rfl, rfl⟩, if_neg (by omega), if_neg (by omega), if_neg (by omega), if_pos (by omega), an_0or]
      · rw [if_neg (fun q => z (hb.mp q.2.2.1))]
        by_cases w : a = 26
        · rw [if_pos w, if_pos w]
        · rw [if_neg w, if_neg w]
          by_cases y : 24 ≤ a ∧ a < 24 + p
          · rw [if_pos y, if_pos (by omega)]
          · rw [if_neg y, if_neg (by omega)]
    · rw [if_neg (fun q => hg q.2.1), if_neg hg, if_neg hg]
theorem an_s0_p {p : Nat} : (an_s0 p).1 p = 0 := if_neg (by omega)
/-- the reference's step -/
abbrev rF (P : pr_T) (m : Nat) (E : an_E) (i : Nat) : an_T → an_T := an_st (fun x y z n => an_rn E x y z n) i (P.2.2 m i)
theorem rF_good (P : pr_T) (m : Nat) (E : an_E) {i : Nat} (hi : i < 24) : an_good (an_ok E i (P.2.2 m i)) (rF P m E i) :=
  an_st_good E (fun x y z n => an_rn_good E x y z n) i (by omega) _
/-- the summaries of m are those of the solution -/
def rOK (P : pr_T) (S : Nat → an_T) (m : Nat) (M : fm_M) : Prop :=
  rA M m = S m ∧ (P.1 m = 0 → ∀ q, q < 2 → M 11 (2 * m + q) = 0) ∧ (P.1 m ≠ 0 → ∀ q, q < P.2.1 m → M 11 (2 * m + q) = nI (an_sm (S m) (P.2.1 m) q))
theorem rA_cg {M M' : fm_M} {m : Nat} (h : ∀ a j, rW m a j → M' a j = M a j) : rA M' m = rA M m := by
  refine Prod.ext (funext fun r => ?_) (Prod.ext (funext fun b => funext fun g => ?_) ?_)
  · show (if r < 4 then M' 8 (4 * m + r) else 0) = (if r < 4 then M 8 (4 * m + r) else 0)
    by_cases z : r < 4
    · rw [if_pos z, if_pos z, h _ _ (Or.inl ⟨rfl, by omega, by omega⟩)]
    · rw [if_neg z, if_neg z]
  · show (if b < 27 ∧ g < 2 then M' 9 (54 * m + 2 * b + g) else 0) = (if b < 27 ∧ g < 2 then M 9 (54 * m + 2 * b + g) else 0)
    by_cases z : b < 27 ∧ g < 2
    · rw [if_pos z, if_pos z, h _ _ (Or.inr (Or.inl ⟨rfl, by omega, by omega⟩))]
    · rw [if_neg z, if_neg z]
  · exact h 10 m (Or.inr (Or.inr ⟨rfl, rfl⟩))
theorem rOK_cg {P : pr_T} {S : Nat → an_T} {m : Nat} {M M' : fm_M} (k : rOK P S m M) (hi : P.2.1 m ≤ 2) (h : ∀ a j, rFa m a j → M' a j = M a j) : rOK P S m M' := by
  refine ⟨(rA_cg (fun a j q => h a j (Or.inl q))).trans k.1, fun z q hq => ?_, fun z q hq => ?_⟩
  · rw [h 11 (2 * m + q) (Or.inr ⟨rfl, by omega⟩)]
    exact k.2.1 z q hq
  · rw [h 11 (2 * m + q) (Or.inr ⟨rfl, by omega⟩)]
    exact k.2.2 z q hq
theorem rE_of {P : pr_T} {S : Nat → an_T} {m : Nat} {M : fm_M} (h : ∀ n, m < n → n < 5 → rOK P S n M) : rE P m (an_env P m S) M := by
  refine ⟨rfl, fun n p q => ⟨if_pos (by omega), if_pos (by omega)⟩, fun n h1 h2 h3 p hp => ?_⟩
  have c := (h n h1 h2).2.2 h3 p hp
  have e1 : (an_env P m S).2.1 n p = an_sm (S n) (P.2.1 n) p := if_neg (by omega)
  have e2 : (an_env P m S).2.2 n p = (decide (an_sm (S n) (P.2.1 n) p = 2) || an_mx (S n) p) := if_neg (by omega)
  rw [e1, e2, (h n h1 h2).1]
  exact ⟨c, an_sm_le _ _ _, rfl⟩
theorem rE_cg {P : pr_T} {m : Nat} {E : an_E} {M M' : fm_M} (hi : ∀ n, n < 5 → P.2.1 n ≤ 2) (h : rE P m E M) (k : ∀ a j, ¬ rFa m a j → M' a j = M a j) : rE P m E M' := by
  refine ⟨h.1, h.2.1, fun n h1 h2 h3 p h4 => ?_⟩
  have := hi n h2
  rw [k 11 (2 * n + p) (by unfold rFa rW; omega), rA_cg (M := M) (M' := M') (m := n) (fun a j q => k a j (by unfold rW at q; unfold rFa rW; omega))]
  exact h.2.2 n h1 h2 h3 p h4
def rG (P : pr_T) (m : Nat) (E : an_E) (M0 : fm_M) (d : Nat) (bf : Int32) (M1 : fm_M) : Prop :=
  (∀ a j, ¬ rFa m a j → M1 a j = M0 a j) ∧ (∀ q, q < 2 → M1 11 (2 * m + q) = 0) ∧ an_inv (an_s0 (P.2.1 m)) (P.1 m) (fun i => an_ok E i (P.2.2 m i)) (rA M1 m) ∧
  ((bf = -1 ∧ 1595 ≤ d) ∨ ∃ σ0, bf = nI (an_wt σ0) ∧ 1594 ≤ an_wt σ0 + d ∧ an_inv (an_s0 (P.2.1 m)) (P.1 m) (fun i => an_ok E i (P.2.2 m i)) σ0 ∧ rA M1 m = an_pass (rF P m E) (P.1 m) σ0)
section RGG
variable {P : pr_T} {m : Nat} {E : an_E} {M0 M1 M3 : fm_M} {d : Nat} {bf : Int32}
theorem rS_fa {M M' : fm_M} {σ : an_T} (h : rS m M M' σ) {a j : Nat} (q : ¬ rFa m a j) : M' a j = M a j := h.2 a j (fun w => q (Or.inl w))
theorem rG_pos (hw : pr_wf P) (hm : m < 5) (h : rG P m E M0 d bf M1) (k : ¬ nI (an_wt (rA M1 m)) ≤ bf) : 0 < d := by
  rcases h.2.2.2 with ⟨_, h2⟩ | ⟨σ0, h1, h2, _⟩
  · omega
  · have := an_wt_bd σ0
    omega
theorem rG_n (h : rG P m E M0 d bf M1) (k : ¬ nI (an_wt (rA M1 m)) ≤ bf) (hc : rS m M1 M3 (an_pass (rF P m E) (P.1 m) (rA M1 m))) (hn : P.1 m ≤ 24) : rG P m E M0 (d - 1) (nI (an_wt (rA M1 m))) M3 := by
  obtain ⟨h1, h2, h3, h4⟩ := h
  have good : ∀ i, i < P.1 m → an_good (an_ok E i (P.2.2 m i)) (rF P m E i) := fun i hi => rF_good P m E (by omega)
  refine ⟨fun a j q => (rS_fa hc q).trans (h1 a j q), fun q hq => ?_, ?_, Or.inr ⟨rA M1 m, rfl, ?_, h3, hc.1⟩⟩
  · rw [hc.2 11 _ (fun w => by unfold rW at w; omega)]
    exact h2 q hq
  · rw [hc.1]
    exact an_inv_p good h3
  · rcases h4 with ⟨_, a2⟩ | ⟨σ0, a1, a2, a3, a4⟩
    · omega
    · have b1 := an_wt_bd σ0
      have b2 := an_wt_bd (rA M1 m)
      rw [a1, nI_leI (by omega) (by omega)] at k
      omega
/-- the last round added nothing -/
theorem rG_e (hw : pr_wf P) (hm : m < 5) (h : rG P m E M0 d bf M1) (k : nI (an_wt (rA M1 m)) ≤ bf) : an_sol (an_s0 (P.2.1 m)) (P.1 m) (fun i => an_ok E i (P.2.2 m i)) (rA M1 m) := by
  obtain ⟨wl, wi, wI⟩ := hw m hm
  obtain ⟨h1, h2, h3, h4⟩ := h
  have good : ∀ i, i < P.1 m → an_good (an_ok E i (P.2.2 m i)) (rF P m E i) := fun i hi => rF_good P m E (by omega)
  rcases h4 with ⟨a1, _⟩ | ⟨σ0, a1, a2, a3, a4⟩
  · rw [a1] at k
    have b := an_wt_bd (rA M1 m)
    exact absurd (Int32.le_trans (nI_pos' (by omega)) k) (by decide)
  · have b1 := an_wt_bd σ0
    have b2 := an_wt_bd (rA M1 m)
    rw [a1, nI_leI (by omega) (by omega)] at k
    have htop : an_le (rA M1 m) an_top := h3.2 an_top (an_s0_top wi) (fun i hi => an_top_ok E (by omega) (wI i hi))
    have up : an_le σ0 (rA M1 m) := by rw [a4]; exact an_pass_up (f := rF P m E) (ok := fun i => an_ok E i (P.2.2 m i)) (P.1 m) good σ0
    have e := an_wt_eq up htop k
    refine ⟨h3, ?_⟩
    have fx := an_pass_fix good (σ := σ0) (by rw [← a4, e]; exact an_le_rf _)
    rw [e]
    exact fx
end RGG
/-- the sums -/
def rU (m k p : Nat) (M M1 : fm_M) : Prop := (∀ a j, ¬ (a = 11 ∧ (j = 2 * m ∨ j = 2 * m + 1)) → M1 a j = M a j) ∧ (∀ q, q < p → M1 11 (2 * m + q) = nI (an_sm (rA M m) k q))
theorem rU_A {m k p : Nat} {M M1 : fm_M} (h : rU m k p M M1) : rA M1 m = rA M m := rA_cg (fun a j q => h.1 a j (by unfold rW at q; omega))
theorem rU_s {m k p : Nat} {M M1 : fm_M} (h : rU m k p M M1) (hp : p < 2) : rU m k (p + 1) M (fm_up M1 11 (2 * m + p) (nI (an_sm (rA M m) k p))) := by
  refine ⟨fun a j q => ?_, fun q hq => ?_⟩
  · rw [fm_up_n (by omega)]
    exact h.1 a j q
  · by_cases e : q = p
    · subst e
      rw [fm_up_s]
    · rw [fm_up_b (by omega)]
      exact h.2 q (by omega)
theorem rG_end {P : pr_T} {m : Nat} {S : Nat → an_T} {M0 M1 M2 : fm_M} (hn : P.1 m ≠ 0) (hf : ∀ a j, ¬ rFa m a j → M1 a j = M0 a j) (hs : an_sol (an_s0 (P.2.1 m)) (P.1 m) (fun i => an_ok (an_env P m S) i (P.2.2 m i)) (rA M1 m)) (hu : rU m (P.2.1 m) (P.2.1 m) M1 M2) :
    ∃ σ, an_is1 P (fun n => if n = m then σ else S n) m ∧ rOK P (fun n => if n = m then σ else S n) m M2 ∧ ∀ a j, ¬ rFa m a j → M2 a j = M0 a j := by
  refine ⟨rA M1 m, ?_, ?_, fun a j q => ?_⟩
  · have e : an_env P m (fun n => if n = m then rA M1 m else S n) = an_env P m S := an_env_cg (fun n q _ => if_neg (by omega))
    unfold an_is1
    rw [if_neg hn, e]
    simp only [if_pos]
    exact hs
  · unfold rOK
    simp only [if_pos]
    exact ⟨rU_A hu, fun z => absurd z hn, fun _ => hu.2⟩
  · rw [hu.1 a j (fun w => q (Or.inr w))]
    exact hf a j q
theorem rZ_end {P : pr_T} {m : Nat} {S : Nat → an_T} {M : fm_M} (h : P.1 m = 0) : ∃ σ, an_is1 P (fun n => if n = m then σ else S n) m ∧ rOK P (fun n => if n = m then σ else S n) m (rZ M m) ∧ ∀ a j, ¬ rFa m a j → rZ M m a j = M a j := by
  refine ⟨an_z, ?_, ?_, fun a j q => rZ_o q⟩
  · unfold an_is1
    rw [if_pos h]
    simp only [if_pos]
  · unfold rOK
    simp only [if_pos]
    exact ⟨rZ_A M m, fun _ q hq => rZ_s hq, fun z => absurd h z⟩
theorem rG_0 {P : pr_T} {m : Nat} {E : an_E} {M M1 : fm_M} (c : rS m (rZ M m) M1 (an_s0 (P.2.1 m))) : rG P m E M 1595 (-1) M1 := by
  refine ⟨fun a j q => (rS_fa c q).trans (rZ_o q), fun q hq => ?_, ?_, Or.inl ⟨rfl, Nat.le_refl _⟩⟩
  · rw [c.2 11 _ (fun w => by unfold rW at w; omega)]
    exact rZ_s hq
  · rw [c.1]
    exact an_inv_0 _ _ _
/-- all methods known -/
def rT1 (P : pr_T) (S : Nat → an_T) (M : fm_M) (n : Nat) : Prop := an_is1 P S n ∧ rOK P S n M
def rT (P : pr_T) (M : fm_M) : Prop := ∃ S, ∀ n, n < 5 → rT1 P S M n
/-- the analysis changes these cells alone -/
def rFr (M M' : fm_M) : Prop := ∀ a j, ¬ (8 ≤ a ∧ a ≤ 11) → ¬ (a = 0 ∧ j = 8) → M' a j = M a j
def rD (P : pr_T) (d : Nat) (M M1 : fm_M) : Prop := (∀ a j, ¬ (8 ≤ a ∧ a ≤ 11) → M1 a j = M a j) ∧ ∃ S, ∀ n, 5 ≤ n + d → n < 5 → rT1 P S M1 n
theorem rD_P {P : pr_T} {d : Nat} {M M1 : fm_M} (h : rD P d M M1) (k : rP M P) : rP M1 P := rP_cg k (fun a j h1 h2 => h.1 a j (by omega))
theorem rD_0 {P : pr_T} {M : fm_M} : rD P 0 M M := ⟨fun _ _ _ => rfl, fun _ => an_z, fun n h1 h2 => absurd h1 (by omega)⟩
theorem rD_s {P : pr_T} {d : Nat} {M M1 M2 : fm_M} {S : Nat → an_T} {σ : an_T} (hi : ∀ n, n < 5 → P.2.1 n ≤ 2) (hd : d < 5) (hf : ∀ a j, ¬ (8 ≤ a ∧ a ≤ 11) → M1 a j = M a j) (hS : ∀ n, 5 ≤ n + d → n < 5 → rT1 P S M1 n)
    (g1 : an_is1 P (fun n => if n = 4 - d then σ else S n) (4 - d)) (g2 : rOK P (fun n => if n = 4 - d then σ else S n) (4 - d) M2) (g3 : ∀ a j, ¬ rFa (4 - d) a j → M2 a j = M1 a j) : rD P (d + 1) M M2 := by
  refine ⟨fun a j ha => ?_, fun n => if n = 4 - d then σ else S n, fun n h1 h2 => ?_⟩
  · rw [g3 a j (by unfold rFa rW; omega)]
    exact hf a j ha
  · by_cases e : n = 4 - d
    · rw [e]
      exact ⟨g1, g2⟩
    · obtain ⟨i1, i2⟩ := hS n (by omega) h2
      refine ⟨an_is1_cg (fun k h3 _ => (if_neg (by omega)).symm) h2 i1, ?_⟩
      have h := rOK_cg i2 (hi n h2) (fun a j q => g3 a j (by unfold rFa rW at q ⊢; omega))
      unfold rOK at h ⊢
      simp only [if_neg e]
      exact h
theorem rT_cg {P : pr_T} {M M' : fm_M} (hi : ∀ n, n < 5 → P.2.1 n ≤ 2) (h : rT P M) (k : ∀ a j, 8 ≤ a → a ≤ 11 → M' a j = M a j) : rT P M' := by
  obtain ⟨S, hS⟩ := h
  exact ⟨S, fun n hn => ⟨(hS n hn).1, rOK_cg (hS n hn).2 (hi n hn) (fun a j q => k a j (by unfold rFa rW at q; omega) (by unfold rFa rW at q; omega))⟩⟩
theorem rD_e {P : pr_T} {d : Nat} {M M1 : fm_M} (hi : ∀ n, n < 5 → P.2.1 n ≤ 2) (h : rD P d M M1) (hd : d = 5) : rT P (fm_up M1 0 8 (nI 1)) ∧ fm_up M1 0 8 (nI 1) 0 8 = 1 ∧ rFr M (fm_up M1 0 8 (nI 1)) := by
  obtain ⟨h1, S, h2⟩ := h
  refine ⟨rT_cg hi (M := M1) ⟨S, fun n hn => h2 n (by omega) hn⟩ (fun a j h3 _ => fm_up_a (by omega)), fm_up_s, fun a j h3 h4 => ?_⟩
  rw [fm_up_n h4]
  exact h1 a j h3
