/-! PLANS: what their methods find -/
/-- it answers b, which says whether p holds; the memory is M2 -/
def fm_br (p : Prop) (M2 : fm_M) : Option Int32 → fm_M → Prop := fun r M' => ∃ b : Bool, r = some (bI b) ∧ (b = true ↔ p) ∧ M' = M2
/-- it answers a number of which R holds; the memory is M2 -/
def fm_nr (R : Int32 → Prop) (M2 : fm_M) : Option Int32 → fm_M → Prop := fun r M' => ∃ v, r = some v ∧ R v ∧ M' = M2
section FM3
variable {S : fm_S} {Y : fm_Y} {X : fm_X} {M0 M : fm_M} {post : Option Int32 → fm_M → Prop} {pc : Nat} {ls : fm_L} {st : List fm_V}
variable {pq : Nat} {y : MethodName} {bytes : ByteArray} {maxL d1 index n : Nat} {ret : Option FieldType} {as : List fm_V} {stk : List fm_V}
theorem fm_callS_b {p : Prop} {M2 : fm_M} (hX : fm_Ctx S Y X) (hcs : fm_cs S.2.2.2 Y.1 index y bytes maxL ret n) (hstt : Cond.static y ∈ S.2.2.2) (hM : fm_ct S y bytes maxL ret d1 as M (fm_br p M2)) (hlen : as.length = n) (hstk : stk = as.reverse ++ st) (hdp : d1 + 1 ≤ Y.2.2.2.2) (hst8 : st.length ≤ 8) (hd : decode Y.2.1 pc = .ok (.invokestatic index, 3)) (hq : pc + 3 = pq)
    (k : ∀ b : Bool, (b = true ↔ p) → fm_G S Y X M0 post pq ls (.inl (bI b) :: st) M2) : fm_G S Y X M0 post pc ls stk M :=
  fm_callS hX hcs hstt hM hlen hstk hdp hst8 hd hq (fun r M1 h => by obtain ⟨b, h1, h2, h3⟩ := h; rw [h1, h3]; exact k b h2)
theorem fm_callS_n {R : Int32 → Prop} {M2 : fm_M} (hX : fm_Ctx S Y X) (hcs : fm_cs S.2.2.2 Y.1 index y bytes maxL ret n) (hstt : Cond.static y ∈ S.2.2.2) (hM : fm_ct S y bytes maxL ret d1 as M (fm_nr R M2)) (hlen : as.length = n) (hstk : stk = as.reverse ++ st) (hdp : d1 + 1 ≤ Y.2.2.2.2) (hst8 : st.length ≤ 8) (hd : decode Y.2.1 pc = .ok (.invokestatic index, 3)) (hq : pc + 3 = pq)
    (k : ∀ v, R v → fm_G S Y X M0 post pq ls (.inl v :: st) M2) : fm_G S Y X M0 post pc ls stk M :=
  fm_callS hX hcs hstt hM hlen hstk hdp hst8 hd hq (fun r M1 h => by obtain ⟨v, h1, h2, h3⟩ := h; rw [h1, h3]; exact k v h2)
variable {b ci : Nat} {lb : List (Option Nat)} {C : String} {T : u_T} {N : Nat}
theorem fm_callV_b {p : Prop} {M2 : fm_M} (hX : fm_Ctx S Y X) (hb1 : S.2.1[b]? = some (.inr (ci, lb))) (hc : S.1[ci]? = some (C, T, N)) (hcs : fm_cs S.2.2.2 Y.1 index y bytes maxL ret n) (hC : y.cls = C) (hinm : Cond.instanceMethod y ∈ S.2.2.2) (hsel : Cond.selects C y y ∈ S.2.2.2) (hM : fm_ct S y bytes maxL ret d1 (.inr b :: as) M (fm_br p M2)) (hlen : as.length = n) (hstk : stk = as.reverse ++ .inr b :: st) (hdp : d1 + 1 ≤ Y.2.2.2.2) (hst8 : st.length ≤ 8) (hd : decode Y.2.1 pc = .ok (.invokevirtual index, 3)) (hq : pc + 3 = pq)
    (k : ∀ b : Bool, (b = true ↔ p) → fm_G S Y X M0 post pq ls (.inl (bI b) :: st) M2) : fm_G S Y X M0 post pc ls stk M :=
  fm_callV hX hb1 hc hcs hC hinm hsel hM hlen hstk hdp hst8 hd hq (fun r M1 h => by obtain ⟨b, h1, h2, h3⟩ := h; rw [h1, h3]; exact k b h2)
theorem fm_callV_n {R : Int32 → Prop} {M2 : fm_M} (hX : fm_Ctx S Y X) (hb1 : S.2.1[b]? = some (.inr (ci, lb))) (hc : S.1[ci]? = some (C, T, N)) (hcs : fm_cs S.2.2.2 Y.1 index y bytes maxL ret n) (hC : y.cls = C) (hinm : Cond.instanceMethod y ∈ S.2.2.2) (hsel : Cond.selects C y y ∈ S.2.2.2) (hM : fm_ct S y bytes maxL ret d1 (.inr b :: as) M (fm_nr R M2)) (hlen : as.length = n) (hstk : stk = as.reverse ++ .inr b :: st) (hdp : d1 + 1 ≤ Y.2.2.2.2) (hst8 : st.length ≤ 8) (hd : decode Y.2.1 pc = .ok (.invokevirtual index, 3)) (hq : pc + 3 = pq)
    (k : ∀ v, R v → fm_G S Y X M0 post pq ls (.inl v :: st) M2) : fm_G S Y X M0 post pc ls stk M :=
  fm_callV hX hb1 hc hcs hC hinm hsel hM hlen hstk hdp hst8 hd hq (fun r M1 h => by obtain ⟨v, h1, h2, h3⟩ := h; rw [h1, h3]; exact k v h2)
end FM3
theorem fm_br1 {p : Prop} {M : fm_M} (h : p) : fm_br p M (some (nI 1)) M := ⟨true, rfl, ⟨fun _ => h, fun _ => rfl⟩, rfl⟩
theorem fm_br0 {p : Prop} {M : fm_M} (h : ¬ p) : fm_br p M (some (nI 0)) M := ⟨false, rfl, ⟨fun z => absurd z (by decide), fun z => absurd z h⟩, rfl⟩
theorem nI_m1 {k : Nat} (h : k < 2 ^ 31) : ¬ nI k = (-1 : Int32) := fun e => by
  have := nI_pos h
  rw [e] at this
  exact this (by decide)
theorem fa_k_le {P : pr_T} (hw : pr_wf P) {m i : Nat} (hm : m < 5) (hi : i < P.1 m) : fa_k P (P.2.2 m i) ≤ 2 := by
  unfold fa_k
  split
  · next h =>
    obtain ⟨n, hn, e⟩ := ((hw m hm).2.2 i hi).2.2.2.2.2 h
    rw [e, nI_clamp (by omega)]
    exact (hw n hn).2.1
  · omega
section PL
variable {n : Nat} {c : Nat → an_I} {r : Nat}
/-- the site found among the first i instructions -/
def fa_sv (c : Nat → an_I) (r i : Nat) (s : Int32) : Prop :=
  (s = -1 ∧ ∀ j, j < i → ¬ fa_df (c j) r) ∨ (∃ k, s = nI k ∧ k < i ∧ (c k).1 = 0 ∧ (c k).2.1 = r ∧ ∀ j, j < i → fa_df (c j) r → j = k)
theorem fa_sv_0 : fa_sv c r 0 (-1) := Or.inl ⟨rfl, fun j h => absurd h (by omega)⟩
theorem fa_sv_n {i : Nat} {s : Int32} (h : fa_sv c r i s) (hd : ¬ fa_df (c i) r) : fa_sv c r (i + 1) s := by
  rcases h with ⟨h1, h2⟩ | ⟨k, h1, h2, h3, h4, h5⟩
  · refine Or.inl ⟨h1, fun j hj => ?_⟩
    by_cases e : j = i
    · rw [e]; exact hd
    · exact h2 j (by omega)
  · refine Or.inr ⟨k, h1, by omega, h3, h4, fun j hj hf => ?_⟩
    by_cases e : j = i
    · rw [e] at hf; exact absurd hf hd
    · exact h5 j (by omega) hf
theorem fa_sv_y {i : Nat} {s : Int32} (hi : i < 2 ^ 30) (h : fa_sv c r i s) (hs : s = -1) (h0 : (c i).1 = 0) (hd : fa_df (c i) r) : fa_sv c r (i + 1) (nI i) := by
  rcases h with ⟨_, h2⟩ | ⟨k, h1, h2, _, _, _⟩
  · refine Or.inr ⟨i, rfl, by omega, h0, hd.2, fun j hj hf => ?_⟩
    by_cases e : j = i
    · exact e
    · exact absurd hf (h2 j (by omega))
  · rw [hs] at h1
    exact absurd h1.symm (nI_m1 (by omega))
theorem fa_sv_e1 {i : Nat} (hi : i < n) (hd : fa_df (c i) r) (h0 : ¬ (c i).1 = 0) : ¬ ∃ k, fa_nw n c r k := by
  rintro ⟨k, h1, h2, _, h4⟩
  exact h0 (by rw [h4 i hi hd]; exact h2)
theorem fa_sv_e2 {i : Nat} {s : Int32} (h : fa_sv c r i s) (hs : ¬ s = -1) (hi : i < n) (hd : fa_df (c i) r) : ¬ ∃ k, fa_nw n c r k := by
  rintro ⟨k, h1, h2, h3, h4⟩
  rcases h with ⟨a, _⟩ | ⟨l, _, l2, l3, l4, _⟩
  · exact hs a
  · have e1 := h4 i hi hd
    have e2 := h4 l (by omega) ⟨Or.inl (by omega), l4⟩
    omega
theorem fa_sv_end {s : Int32} (h : fa_sv c r n s) : (∃ k, s = nI k ∧ fa_nw n c r k) ∨ (s = -1 ∧ ¬ ∃ k, fa_nw n c r k) := by
  rcases h with ⟨h1, h2⟩ | ⟨k, h1, h2, h3, h4, h5⟩
  · refine Or.inr ⟨h1, ?_⟩
    rintro ⟨k, a1, a2, a3, _⟩
    exact h2 k a1 ⟨Or.inl (by omega), a3⟩
  · exact Or.inl ⟨k, h1, h2, h3, h4, h5⟩
/-- a jump leads in between -/
def fa_ji (n : Nat) (c : Nat → an_I) (f t : Nat) : Prop := ∃ q, q < n ∧ ((c q).1 = 14 ∨ (c q).1 = 15) ∧ nI f ≤ (c q).2.2.2.2 ∧ (c q).2.2.2.2 ≤ nI t
/-- the UNLOCK at j makes a pair with the LOCK at i -/
def fa_pt (n : Nat) (c : Nat → an_I) (i j : Nat) : Prop := i < j ∧ j < n ∧ (c j).1 = 11 ∧ (c j).2.1 = (c i).2.1 ∧ (∀ q, i < q → q < j → ¬ fa_in (c q)) ∧ ¬ fa_ji n c (i + 1) j
theorem fa_pt_uq {i j l : Nat} (h : fa_pt n c i j) (k : fa_pt n c i l) : j = l := by
  rcases Nat.lt_trichotomy j l with e | e | e
  · exact absurd (Or.inr (Or.inr (Or.inl h.2.2.1))) (k.2.2.2.2.1 j h.1 e)
  · exact e
  · exact absurd (Or.inr (Or.inr (Or.inl k.2.2.1))) (h.2.2.2.2.1 l k.1 e)
/-- which instructions the LOCKs of r among the first i, with their partners, are -/
def fa_lk (n : Nat) (c : Nat → an_I) (r : Nat) (free : Int32) (i q : Nat) : Prop := ∃ a j, a < i ∧ (c a).1 = 10 ∧ (c a).2.1 = r ∧ bt free a = false ∧ fa_pt n c a j ∧ (q = a ∨ q = j)
end PL
/-- plans of m: only its fates change -/
def pl_fr (m : Nat) (M M' : fm_M) : Prop := ∀ a j, a ≠ kPf m → M' a j = M a j
theorem pl_fr_P {m : Nat} {M M' : fm_M} {P : pr_T} (hm : m < 5) (h : pl_fr m M M') (k : cP M P) : cP M' P :=
  cP_cg k (fun a j q => h a j (fun z => by
    obtain ⟨n, t, h1, h2, e⟩ := q
    have : a = 29 + 15 * m := z
    omega))
