/-! the reference: what alone sets r -/
/-- f: the NEW found, n: how many set r, among the first i -/
def fa_ov (c : Nat → an_I) (r i : Nat) (f : Int32) (n : Nat) : Prop :=
  (n = 0 ∧ f = -1 ∧ ∀ j, j < i → ¬ fa_df (c j) r) ∨
  (n = 1 ∧ ∃ k, k < i ∧ fa_df (c k) r ∧ (∀ j, j < i → fa_df (c j) r → j = k) ∧ ((c k).1 = 0 → f = nI k) ∧ ((c k).1 ≠ 0 → f = -1)) ∨
  (2 ≤ n ∧ ∃ a b, a < i ∧ b < i ∧ a ≠ b ∧ fa_df (c a) r ∧ fa_df (c b) r)
section OV
variable {c : Nat → an_I} {r i n : Nat} {f : Int32}
theorem fa_ov_0 : fa_ov c r 0 (-1) 0 := Or.inl ⟨rfl, rfl, fun j h => absurd h (by omega)⟩
theorem fa_ov_n (h : fa_ov c r i f n) (hd : ¬ fa_df (c i) r) : fa_ov c r (i + 1) f n := by
  rcases h with ⟨h1, h2, h3⟩ | ⟨h1, k, h2, h3, h4, h5⟩ | ⟨h1, a, b, h2, h3, h4⟩
  · refine Or.inl ⟨h1, h2, fun j hj => ?_⟩
    by_cases e : j = i
    · rw [e]; exact hd
    · exact h3 j (by omega)
  · refine Or.inr (Or.inl ⟨h1, k, by omega, h3, fun j hj hf => ?_, h5⟩)
    by_cases e : j = i
    · rw [e] at hf; exact absurd hf hd
    · exact h4 j (by omega) hf
  · exact Or.inr (Or.inr ⟨h1, a, b, by omega, by omega, h4⟩)
theorem fa_ov_y {g : Int32} (h : fa_ov c r i f n) (hd : fa_df (c i) r) (h0 : (c i).1 = 0 → g = nI i) (h1 : (c i).1 ≠ 0 → g = f) : fa_ov c r (i + 1) g (n + 1) := by
  rcases h with ⟨a1, a2, a3⟩ | ⟨a1, k, a2, a3, _, _⟩ | ⟨a1, a, b, a2, a3, a4⟩
  · refine Or.inr (Or.inl ⟨by omega, i, by omega, hd, fun j hj hf => ?_, h0, fun z => (h1 z).trans a2⟩)
    by_cases e : j = i
    · exact e
    · exact absurd hf (a3 j (by omega))
  · exact Or.inr (Or.inr ⟨by omega, k, i, by omega, by omega, by omega, a3, hd⟩)
  · exact Or.inr (Or.inr ⟨by omega, a, b, by omega, by omega, a4⟩)
theorem fa_ov_e1 {m : Nat} (h : fa_ov c r m f 1) : (∃ k, f = nI k ∧ fa_nw m c r k) ∨ (f = -1 ∧ ¬ ∃ k, fa_nw m c r k) := by
  rcases h with ⟨h1, _⟩ | ⟨_, k, h2, h3, h4, h5, h6⟩ | ⟨h1, _⟩
  · omega
  · by_cases e : (c k).1 = 0
    · exact Or.inl ⟨k, h5 e, h2, e, h3.2, h4⟩
    · refine Or.inr ⟨h6 e, ?_⟩
      rintro ⟨l, l1, l2, l3, l4⟩
      exact e (by rw [l4 k h2 h3]; exact l2)
  · omega
theorem fa_ov_e0 {m : Nat} (h : fa_ov c r m f n) (hn : n ≠ 1) : ¬ ∃ k, fa_nw m c r k := by
  rintro ⟨k, l1, l2, l3, l4⟩
  rcases h with ⟨_, _, h3⟩ | ⟨h1, _⟩ | ⟨_, a, b, h2, h3, h4, h5, h6⟩
  · exact h3 k l1 ⟨Or.inl (by omega), l3⟩
  · exact hn h1
  · exact h4 ((l4 a h2 h5).trans (l4 b h3 h6).symm)
end OV
/-- only the open rows change -/
def fr12 (M M' : fm_M) : Prop := ∀ a j, a ≠ 12 → M' a j = M a j
theorem fr12_rf (M : fm_M) : fr12 M M := fun _ _ _ => rfl
theorem fr12_tr {M M' M'' : fm_M} (h : fr12 M M') (k : fr12 M' M'') : fr12 M M'' := fun a j q => (k a j q).trans (h a j q)
theorem fr12_P {M M' : fm_M} {P : pr_T} (h : fr12 M M') (k : rP M P) : rP M' P := rP_cg k (fun a j h1 h2 => h a j (by omega))
theorem fr12_A {M M' : fm_M} (h : fr12 M M') (m : Nat) : rA M' m = rA M m := rA_cg (fun a j q => h a j (by unfold rW at q; omega))
/-- it answers b, which says whether p holds; only the open rows change -/
def fm_xb (p : Prop) (M : fm_M) : Option Int32 → fm_M → Prop := fun r M' => ∃ b : Bool, r = some (bI b) ∧ (b = true ↔ p) ∧ fr12 M M'
theorem fm_callV_y {S : fm_S} {Y : fm_Y} {X : fm_X} {M0 M : fm_M} {post : Option Int32 → fm_M → Prop} {pc : Nat} {ls : fm_L} {st : List fm_V} {pq : Nat} {y : MethodName} {bytes : ByteArray} {maxL d1 index n : Nat} {ret : Option FieldType} {as : List fm_V} {stk : List fm_V} {b ci : Nat} {lb : List (Option Nat)} {C : String} {T : u_T} {N : Nat} {p : Prop}
    (hX : fm_Ctx S Y X) (hb1 : S.2.1[b]? = some (.inr (ci, lb))) (hc : S.1[ci]? = some (C, T, N)) (hcs : fm_cs S.2.2.2 Y.1 index y bytes maxL ret n) (hC : y.cls = C) (hinm : Cond.instanceMethod y ∈ S.2.2.2) (hsel : Cond.selects C y y ∈ S.2.2.2) (hM : fm_ct S y bytes maxL ret d1 (.inr b :: as) M (fm_xb p M)) (hlen : as.length = n) (hstk : stk = as.reverse ++ .inr b :: st) (hdp : d1 + 1 ≤ Y.2.2.2.2) (hst8 : st.length ≤ 8) (hd : decode Y.2.1 pc = .ok (.invokevirtual index, 3)) (hq : pc + 3 = pq)
    (k : ∀ (b : Bool) (M1 : fm_M), ((b = true ↔ p) ∧ fr12 M M1) → fm_G S Y X M0 post pq ls (.inl (bI b) :: st) M1) : fm_G S Y X M0 post pc ls stk M :=
  fm_callV hX hb1 hc hcs hC hinm hsel hM hlen hstk hdp hst8 hd hq (fun r M1 h => by obtain ⟨b, h1, h2, h3⟩ := h; rw [h1]; exact k b M1 ⟨h2, h3⟩)
theorem fm_xb1 {p : Prop} {M M1 : fm_M} (h : p) (f : fr12 M M1) : fm_xb p M (some (nI 1)) M1 := ⟨true, rfl, ⟨fun _ => h, fun _ => rfl⟩, f⟩
theorem fm_xb0 {p : Prop} {M M1 : fm_M} (h : ¬ p) (f : fr12 M M1) : fm_xb p M (some (nI 0)) M1 := ⟨false, rfl, ⟨fun z => absurd z (by decide), fun z => absurd z h⟩, f⟩
theorem fm_xbb {p : Prop} {M M1 : fm_M} {b : Bool} (h : b = true ↔ p) (f : fr12 M M1) : fm_xb p M (some (bI b)) M1 := ⟨b, rfl, h, f⟩
