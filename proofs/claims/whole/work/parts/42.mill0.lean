/-! THE MILL: all methods settled -/
abbrev cEs (M : fm_M) (m : Nat) : Nat → Prop := fun k => bt (M (kF m) 5) k = false ∧ bt (M (kF m) 6) k = false
/-- method n is settled -/
def cT1 (P : pr_T) (S : Nat → an_T) (M : fm_M) (n : Nat) : Prop := an_is1 P S n ∧ cOK P S n M ∧ ∀ q, q < P.1 n → fa_is P n (cEs M n) q (M (kPf n) q)
def cT (P : pr_T) (M : fm_M) : Prop := ∃ S, ∀ n, n < 5 → cT1 P S M n
def cFr (M M' : fm_M) : Prop := ∀ a j, (a < 15 ∨ isC a) → ¬ (a = 0 ∧ j = 4) → M' a j = M a j
def cD (P : pr_T) (d : Nat) (M M1 : fm_M) : Prop := (∀ a j, (a < 15 ∨ isC a) → M1 a j = M a j) ∧ ∃ S, ∀ n, 5 ≤ n + d → n < 5 → cT1 P S M1 n
theorem cD_P {P : pr_T} {d : Nat} {M M1 : fm_M} (h : cD P d M M1) (k : cP M P) : cP M1 P := cP_cg k (fun a j q => h.1 a j (Or.inr q))
theorem cD_0 {P : pr_T} {M : fm_M} : cD P 0 M M := ⟨fun _ _ _ => rfl, fun _ => an_z, fun n h1 h2 => absurd h1 (by omega)⟩
theorem cD_s {P : pr_T} {d : Nat} {M M1 M2 M3 : fm_M} {S : Nat → an_T} {σ : an_T} (hd : d < 5) (hf : ∀ a j, (a < 15 ∨ isC a) → M1 a j = M a j) (hS : ∀ n, 5 ≤ n + d → n < 5 → cT1 P S M1 n)
    (g1 : an_is1 P (fun n => if n = 4 - d then σ else S n) (4 - d)) (g2 : cOK P (fun n => if n = 4 - d then σ else S n) (4 - d) M2) (g3 : ∀ a j, ¬ cFa (4 - d) a → M2 a j = M1 a j)
    (c1 : pl_fr (4 - d) M2 M3) (c2 : ∀ q, q < P.1 (4 - d) → fa_is P (4 - d) (cEs M2 (4 - d)) q (M3 (kPf (4 - d)) q)) : cD P (d + 1) M M3 := by
  have isc : ∀ a, (a < 15 ∨ isC a) → a ≠ 29 + 15 * (4 - d) ∧ ¬ cFa (4 - d) a := by
    intro a ha
    unfold cFa
    rcases ha with h | ⟨n, t, h1, h2, e⟩
    · omega
    · omega
  refine ⟨fun a j ha => ?_, fun n => if n = 4 - d then σ else S n, fun n h1 h2 => ?_⟩
  · rw [c1 a j (isc a ha).1, g3 a j (isc a ha).2]
    exact hf a j ha
  · by_cases e : n = 4 - d
    · rw [e]
      have eF : ∀ j, M3 (kF (4 - d)) j = M2 (kF (4 - d)) j := fun j => c1 _ j (by show 21 + 15 * (4 - d) ≠ 29 + 15 * (4 - d); omega)
      refine ⟨g1, cOK_cg g2 (fun a j q => c1 a j (fun z => ?_)), ?_⟩
      · have : a = 29 + 15 * (4 - d) := z
        unfold cFa at q
        omega
      · have e2 : cEs M3 (4 - d) = cEs M2 (4 - d) := by
          funext k
          show (bt (M3 (kF (4 - d)) 5) k = false ∧ bt (M3 (kF (4 - d)) 6) k = false) = _
          rw [eF 5, eF 6]
        rw [e2]
        exact c2
    · obtain ⟨i1, i2, i3⟩ := hS n (by omega) h2
      have eM : ∀ a j, (cFa n a ∨ a = kPf n) → M3 a j = M1 a j := by
        intro a j q
        have q' : a ≠ 29 + 15 * (4 - d) ∧ ¬ (21 + 15 * (4 - d) ≤ a ∧ a < 28 + 15 * (4 - d)) := by
          rcases q with q | q
          · unfold cFa at q
            omega
          · have : a = 29 + 15 * n := q
            omega
        rw [c1 a j q'.1]
        exact g3 a j q'.2
      refine ⟨an_is1_cg (fun k h3 _ => (if_neg (by omega)).symm) h2 i1, ?_, ?_⟩
      · have h := cOK_cg i2 (fun a j q => eM a j (Or.inl q))
        unfold cOK at h ⊢
        simp only [if_neg e]
        exact h
      · have e2 : cEs M3 n = cEs M1 n := by
          funext k
          show (bt (M3 (kF n) 5) k = false ∧ bt (M3 (kF n) 6) k = false) = _
          rw [eM (kF n) 5 (Or.inl ⟨by show _ ≤ 21 + 15 * n; omega, by show 21 + 15 * n < _; omega⟩), eM (kF n) 6 (Or.inl ⟨by show _ ≤ 21 + 15 * n; omega, by show 21 + 15 * n < _; omega⟩)]
        intro q hq
        rw [e2, eM (kPf n) q (Or.inr rfl)]
        exact i3 q hq
theorem cT_cg {P : pr_T} {M M' : fm_M} (h : cT P M) (k : ∀ a j, 15 ≤ a → ¬ isC a → M' a j = M a j) : cT P M' := by
  obtain ⟨S, hS⟩ := h
  refine ⟨S, fun n hn => ?_⟩
  obtain ⟨i1, i2, i3⟩ := hS n hn
  have ni : ∀ a, (cFa n a ∨ a = kPf n) → 15 ≤ a ∧ ¬ isC a := by
    intro a q
    have : (21 + 15 * n ≤ a ∧ a < 28 + 15 * n) ∨ a = 29 + 15 * n := q
    refine ⟨by omega, ?_⟩
    rintro ⟨l, t, h1, h2, e⟩
    omega
  have eM : ∀ a j, (cFa n a ∨ a = kPf n) → M' a j = M a j := fun a j q => k a j (ni a q).1 (ni a q).2
  refine ⟨i1, cOK_cg i2 (fun a j q => eM a j (Or.inl q)), fun q hq => ?_⟩
  have e2 : cEs M' n = cEs M n := by
    funext l
    show (bt (M' (kF n) 5) l = false ∧ bt (M' (kF n) 6) l = false) = _
    rw [eM (kF n) 5 (Or.inl ⟨by show _ ≤ 21 + 15 * n; omega, by show 21 + 15 * n < _; omega⟩), eM (kF n) 6 (Or.inl ⟨by show _ ≤ 21 + 15 * n; omega, by show 21 + 15 * n < _; omega⟩)]
  rw [e2, eM (kPf n) q (Or.inr rfl)]
  exact i3 q hq
theorem cD_e {P : pr_T} {d : Nat} {M M1 : fm_M} (h : cD P d M M1) (hd : d = 5) : cT P (fm_up M1 0 4 (nI 0)) ∧ fm_up M1 0 4 (nI 0) 0 4 = 0 ∧ cFr M (fm_up M1 0 4 (nI 0)) := by
  obtain ⟨h1, S, h2⟩ := h
  refine ⟨cT_cg (M := M1) ⟨S, fun n hn => h2 n (by omega) hn⟩ (fun a j h3 _ => fm_up_a (by omega)), fm_up_s, fun a j h3 h4 => ?_⟩
  rw [fm_up_n h4]
  exact h1 a j h3
