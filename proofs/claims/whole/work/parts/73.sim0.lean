/-! THE TWO MACHINES SIDE BY SIDE: class memory c, reference memory d -/
abbrev sAp : Type := Nat → Nat → Nat → Prop
/-- the same reference in both, to an object that has been made -/
def sV (md : Nat) (a b : Int32) : Prop := ∃ c, c ≤ md ∧ a = nI c ∧ b = nI c
theorem sV_0 {md : Nat} : sV md (nI 0) (nI 0) := ⟨0, Nat.zero_le _, rfl, rfl⟩
theorem sV_m {md md' : Nat} {a b : Int32} (h : sV md a b) (k : md ≤ md') : sV md' a b := by
  obtain ⟨c, h1, h2, h3⟩ := h
  exact ⟨c, Nat.le_trans h1 k, h2, h3⟩
/-- an object's fields and count: cell c of the class, from b on in row a of the reference -/
def sC (md : Nat) (Mc Mr : fm_M) (c a b : Nat) : Prop := (∀ z, z < 2 → sV md (Mc 5 (c * 2 + z)) (Mr a (b + z))) ∧ (∀ z, z < 2 → Mc 6 (c * 2 + z) = Mr a (b + z + 2)) ∧ Mc 7 c = Mr a (b + 4)
theorem sC_cg {md md' : Nat} {Mc Mr Mc' Mr' : fm_M} {c a b : Nat} (h : sC md Mc Mr c a b) (hm : md ≤ md') (h1 : ∀ e j, ((e = 5 ∨ e = 6) ∧ c * 2 ≤ j ∧ j < c * 2 + 2) ∨ (e = 7 ∧ j = c) → Mc' e j = Mc e j) (h2 : ∀ j, b ≤ j → j < b + 5 → Mr' a j = Mr a j) : sC md' Mc' Mr' c a b := by
  refine ⟨fun z hz => ?_, fun z hz => ?_, ?_⟩
  · rw [h1 5 _ (by omega), h2 _ (by omega) (by omega)]
    exact sV_m (h.1 z hz) hm
  · rw [h1 6 _ (by omega), h2 _ (by omega) (by omega)]
    exact h.2.1 z hz
  · rw [h1 7 _ (by omega), h2 _ (by omega) (by omega)]
    exact h.2.2
/-- the place of frame f, of method q, can be come to without the site k -/
def sPl (P : pr_T) (Mc : fm_M) (f q k : Nat) : Prop := ∀ i, Mc 10 f = nI i → i < P.1 q → i = k ∨ dm_R (P.1 q) (P.2.2 q) k i
/-- reference v of frame f, of method q; K: what holds of the site if it isn't made -/
def sR (ap : sAp) (md : Nat) (Mc Mr : fm_M) (f q v : Nat) (K : Nat → Nat → Prop) : Prop :=
  ((∀ k, ¬ ap q v k) → sV md (Mc 12 (f * 4 + v)) (Mr 16 (4 * f + v))) ∧
  ∀ k, ap q v k → Mr 16 (4 * f + v) = nI 0 ∧ ((Mc 12 (f * 4 + v) = nI 0 ∧ K q k) ∨ (Mc 12 (f * 4 + v) = nI (401 + f * 4 + v) ∧ sC md Mc Mr (401 + f * 4 + v) 18 (5 * (4 * f + v))))
/-- frame f -/
def sF (ap : sAp) (md : Nat) (Mc Mr : fm_M) (f : Nat) (K : Nat → Nat → Prop) : Prop :=
  ∃ q t, q < 5 ∧ t < 4 ∧ Mc 9 f = nI q ∧ Mr 13 f = nI q ∧ Mc 10 f = Mr 14 f ∧ Mc 11 f = nI t ∧ Mr 15 f = nI t ∧ (∀ v, v < 4 → Mc 13 (f * 4 + v) = Mr 17 (4 * f + v)) ∧ (∀ v, v < 4 → sR ap md Mc Mr f q v K) ∧
    (0 < f → ∀ q', q' < 5 → Mc 9 (f - 1) = nI q' → ∀ k, ¬ ap q' t k)
/-- where frame f lies -/
def sFc (f a j : Nat) : Prop := (a = 9 ∧ (j = f ∨ j = f - 1)) ∨ ((a = 10 ∨ a = 11) ∧ j = f) ∨ ((a = 12 ∨ a = 13) ∧ f * 4 ≤ j ∧ j < f * 4 + 4) ∨ ((a = 5 ∨ a = 6) ∧ 802 + 8 * f ≤ j ∧ j < 810 + 8 * f) ∨ (a = 7 ∧ 401 + 4 * f ≤ j ∧ j < 405 + 4 * f)
def sFd (f a j : Nat) : Prop := ((a = 13 ∨ a = 14 ∨ a = 15) ∧ j = f) ∨ ((a = 16 ∨ a = 17) ∧ 4 * f ≤ j ∧ j < 4 * f + 4) ∨ (a = 18 ∧ 20 * f ≤ j ∧ j < 20 * f + 20)
theorem sR_cg {ap : sAp} {md md' : Nat} {Mc Mr Mc' Mr' : fm_M} {f q v : Nat} {K K' : Nat → Nat → Prop} (h : sR ap md Mc Mr f q v K) (hv : v < 4) (hm : md ≤ md') (h1 : ∀ a j, sFc f a j → Mc' a j = Mc a j) (h2 : ∀ a j, sFd f a j → Mr' a j = Mr a j) (hk : ∀ k, ap q v k → K q k → K' q k) : sR ap md' Mc' Mr' f q v K' := by
  have e1 : Mc' 12 (f * 4 + v) = Mc 12 (f * 4 + v) := h1 _ _ (Or.inr (Or.inr (Or.inl ⟨Or.inl rfl, by omega, by omega⟩)))
  have e2 : Mr' 16 (4 * f + v) = Mr 16 (4 * f + v) := h2 _ _ (Or.inr (Or.inl ⟨Or.inl rfl, by omega, by omega⟩))
  refine ⟨fun n => ?_, fun k a => ?_⟩
  · rw [e1, e2]
    exact sV_m (h.1 n) hm
  · rw [e1, e2]
    obtain ⟨g1, g2⟩ := h.2 k a
    refine ⟨g1, ?_⟩
    rcases g2 with ⟨g3, g4⟩ | ⟨g3, g4⟩
    · exact Or.inl ⟨g3, hk k a g4⟩
    · refine Or.inr ⟨g3, sC_cg g4 hm (fun e j q => h1 e j ?_) (fun j q1 q2 => h2 18 j (Or.inr (Or.inr ⟨rfl, by omega, by omega⟩)))⟩
      unfold sFc
      omega
theorem sF_cg {ap : sAp} {md md' : Nat} {Mc Mr Mc' Mr' : fm_M} {f : Nat} {K K' : Nat → Nat → Prop} (h : sF ap md Mc Mr f K) (hm : md ≤ md') (h1 : ∀ a j, sFc f a j → Mc' a j = Mc a j) (h2 : ∀ a j, sFd f a j → Mr' a j = Mr a j) (hk : ∀ q v k, q < 5 → Mc 9 f = nI q → ap q v k → K q k → K' q k) : sF ap md' Mc' Mr' f K' := by
  obtain ⟨q, t, g1, g2, g3, g4, g5, g6, g7, g8, g9, g10⟩ := h
  have c9 := h1 9 f (Or.inl ⟨rfl, Or.inl rfl⟩)
  have c9' := h1 9 (f - 1) (Or.inl ⟨rfl, Or.inr rfl⟩)
  have c10 := h1 10 f (Or.inr (Or.inl ⟨Or.inl rfl, rfl⟩))
  have c11 := h1 11 f (Or.inr (Or.inl ⟨Or.inr rfl, rfl⟩))
  have d13 := h2 13 f (Or.inl ⟨Or.inl rfl, rfl⟩)
  have d14 := h2 14 f (Or.inl ⟨Or.inr (Or.inl rfl), rfl⟩)
  have d15 := h2 15 f (Or.inl ⟨Or.inr (Or.inr rfl), rfl⟩)
  refine ⟨q, t, g1, g2, by rw [c9]; exact g3, by rw [d13]; exact g4, by rw [c10, d14]; exact g5, by rw [c11]; exact g6, by rw [d15]; exact g7, fun v hv => ?_, fun v hv => sR_cg (g9 v hv) hv hm h1 h2 (fun k a => hk q v k g1 g3 a), by rw [c9']; exact g10⟩
  rw [h1 13 _ (Or.inr (Or.inr (Or.inl ⟨Or.inr rfl, by omega, by omega⟩))), h2 17 _ (Or.inr (Or.inl ⟨Or.inr rfl, by omega, by omega⟩))]
  exact g8 v hv
/-- the numbers -/
def sNm (r md sh dn : Nat) (Mc Mr : fm_M) : Prop := (r ≤ 8 ∧ md ≤ dn ∧ sh ≤ dn ∧ dn ≤ 400) ∧ (Mc 4 9 = nI r ∧ Mr 0 14 = nI r) ∧ (Mc 4 14 = nI md ∧ Mr 0 22 = nI md) ∧ (Mc 4 12 = nI sh ∧ Mr 0 25 = nI sh) ∧ (Mc 4 13 = nI dn ∧ Mr 0 26 = nI dn) ∧ Mc 4 11 = Mr 0 24 ∧ Mc 4 15 = Mr 0 27
def sKp (Mc Mr : fm_M) : Prop := ∀ j, j < 32 → Mc 14 j = Mr 21 j
def sGl (md : Nat) (Mc Mr : fm_M) : Prop := ∀ g, g < 4 → sV md (Mc 8 g) (Mr 20 g)
def sOb (md : Nat) (Mc Mr : fm_M) : Prop := ∀ c, 0 < c → c ≤ md → sC md Mc Mr c 19 (5 * c)
def sFs (P : pr_T) (ap : sAp) (r md : Nat) (Mc Mr : fm_M) (K : Nat → Nat → Prop) : Prop := (∀ f, f + 1 < r → sF ap md Mc Mr f (sPl P Mc f)) ∧ (0 < r → sF ap md Mc Mr (r - 1) K)
/-- the machines stand at the same -/
def sS (P : pr_T) (ap : sAp) (r md sh dn : Nat) (Mc Mr : fm_M) (K : Nat → Nat → Prop) : Prop := sNm r md sh dn Mc Mr ∧ sKp Mc Mr ∧ sGl md Mc Mr ∧ sOb md Mc Mr ∧ sFs P ap r md Mc Mr K
section SCG
variable {P : pr_T} {ap : sAp} {r md sh dn : Nat} {Mc Mr Mc' Mr' : fm_M} {K : Nat → Nat → Prop}
theorem sNm_cg (h : sNm r md sh dn Mc Mr) (h1 : ∀ j, Mc' 4 j = Mc 4 j) (h2 : ∀ j, Mr' 0 j = Mr 0 j) : sNm r md sh dn Mc' Mr' := by
  unfold sNm
  simp only [h1, h2]
  exact h
theorem sKp_cg (h : sKp Mc Mr) (h1 : ∀ j, Mc' 14 j = Mc 14 j) (h2 : ∀ j, Mr' 21 j = Mr 21 j) : sKp Mc' Mr' := fun j hj => by rw [h1, h2]; exact h j hj
theorem sGl_cg {md' : Nat} (h : sGl md Mc Mr) (hm : md ≤ md') (h1 : ∀ j, Mc' 8 j = Mc 8 j) (h2 : ∀ j, Mr' 20 j = Mr 20 j) : sGl md' Mc' Mr' := fun j hj => by rw [h1, h2]; exact sV_m (h j hj) hm
theorem sOb_cg (h : sOb md Mc Mr) (h4 : md ≤ 400) (h1 : ∀ a j, ((a = 5 ∨ a = 6) ∧ j < 802) ∨ (a = 7 ∧ j < 401) → Mc' a j = Mc a j) (h2 : ∀ j, Mr' 19 j = Mr 19 j) : sOb md Mc' Mr' := fun c q1 q2 =>
  sC_cg (h c q1 q2) (Nat.le_refl _) (fun e j q => h1 e j (by omega)) (fun j _ _ => h2 j)
theorem sPl_cg {f q k : Nat} (h : sPl P Mc f q k) (h1 : Mc' 10 f = Mc 10 f) : sPl P Mc' f q k := fun i e hi => h i (h1 ▸ e) hi
/-- frames: all but the top one stay, the top one is given -/
theorem sFs_t {md' : Nat} {K' : Nat → Nat → Prop} (h : sFs P ap r md Mc Mr K) (hm : md ≤ md') (h1 : ∀ f a j, f + 1 < r → sFc f a j → Mc' a j = Mc a j) (h2 : ∀ f a j, f + 1 < r → sFd f a j → Mr' a j = Mr a j) (ht : 0 < r → sF ap md Mc Mr (r - 1) K → sF ap md' Mc' Mr' (r - 1) K') : sFs P ap r md' Mc' Mr' K' :=
  ⟨fun f hf => sF_cg (h.1 f hf) hm (fun a j => h1 f a j hf) (fun a j => h2 f a j hf) (fun q v k _ _ _ z => sPl_cg z (h1 f 10 f hf (Or.inr (Or.inl ⟨Or.inl rfl, rfl⟩)))), fun z => ht z (h.2 z)⟩
theorem sFs_cg {md' : Nat} (h : sFs P ap r md Mc Mr K) (h8 : r ≤ 8) (hm : md ≤ md') (h1 : ∀ a j, (9 ≤ a ∧ a ≤ 13) ∨ ((a = 5 ∨ a = 6) ∧ 802 ≤ j) ∨ (a = 7 ∧ 401 ≤ j) → Mc' a j = Mc a j) (h2 : ∀ a j, 13 ≤ a → a ≤ 18 → Mr' a j = Mr a j) : sFs P ap r md' Mc' Mr' K := by
  have g1 : ∀ f a j, sFc f a j → Mc' a j = Mc a j := fun f a j q => h1 a j (by unfold sFc at q; omega)
  have g2 : ∀ f a j, sFd f a j → Mr' a j = Mr a j := fun f a j q => h2 a j (by unfold sFd at q; omega) (by unfold sFd at q; omega)
  exact sFs_t h hm (fun f a j _ => g1 f a j) (fun f a j _ => g2 f a j) (fun _ z => sF_cg z hm (fun a j => g1 _ a j) (fun a j => g2 _ a j) (fun _ _ _ _ _ _ z => z))
end SCG
