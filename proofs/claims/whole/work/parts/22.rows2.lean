/-! CALLS by the kind of what they answer; leaves; switches -/
/-- it answers v, the memory is M2 behind it -/
def fm_rv (v : Int32) (M2 : fm_M) : Option Int32 → fm_M → Prop := fun r M' => r = some v ∧ M' = M2
/-- it answers nothing, the memory is M2 behind it -/
def fm_vv (M2 : fm_M) : Option Int32 → fm_M → Prop := fun r M' => r = none ∧ M' = M2
/-- it answers nothing, R holds of the memory behind it -/
def fm_vr (R : fm_M → Prop) : Option Int32 → fm_M → Prop := fun r M' => r = none ∧ R M'
/-- it answers a number, R holds of it and of the memory behind it -/
def fm_ir (R : Int32 → fm_M → Prop) : Option Int32 → fm_M → Prop := fun r M' => ∃ v, r = some v ∧ R v M'
section FM2
variable {S : fm_S} {Y : fm_Y} {X : fm_X} {M0 M : fm_M} {post : Option Int32 → fm_M → Prop} {pc : Nat} {ls : fm_L} {st : List fm_V}
variable {pq : Nat} {y : MethodName} {bytes : ByteArray} {maxL d1 index n : Nat} {ret : Option FieldType} {as : List fm_V} {stk : List fm_V}
theorem fm_callS_i {v : Int32} {M2 : fm_M} (hX : fm_Ctx S Y X) (hcs : fm_cs S.2.2.2 Y.1 index y bytes maxL ret n) (hstt : Cond.static y ∈ S.2.2.2) (hM : fm_ct S y bytes maxL ret d1 as M (fm_rv v M2)) (hlen : as.length = n) (hstk : stk = as.reverse ++ st) (hdp : d1 + 1 ≤ Y.2.2.2.2) (hst8 : st.length ≤ 8) (hd : decode Y.2.1 pc = .ok (.invokestatic index, 3)) (hq : pc + 3 = pq)
    (k : fm_G S Y X M0 post pq ls (.inl v :: st) M2) : fm_G S Y X M0 post pc ls stk M :=
  fm_callS hX hcs hstt hM hlen hstk hdp hst8 hd hq (fun r M1 h => by rw [h.1, h.2]; exact k)
theorem fm_callS_v {M2 : fm_M} (hX : fm_Ctx S Y X) (hcs : fm_cs S.2.2.2 Y.1 index y bytes maxL ret n) (hstt : Cond.static y ∈ S.2.2.2) (hM : fm_ct S y bytes maxL ret d1 as M (fm_vv M2)) (hlen : as.length = n) (hstk : stk = as.reverse ++ st) (hdp : d1 + 1 ≤ Y.2.2.2.2) (hst8 : st.length ≤ 8) (hd : decode Y.2.1 pc = .ok (.invokestatic index, 3)) (hq : pc + 3 = pq)
    (k : fm_G S Y X M0 post pq ls st M2) : fm_G S Y X M0 post pc ls stk M :=
  fm_callS hX hcs hstt hM hlen hstk hdp hst8 hd hq (fun r M1 h => by rw [h.1, h.2]; exact k)
theorem fm_callS_r {R : fm_M → Prop} (hX : fm_Ctx S Y X) (hcs : fm_cs S.2.2.2 Y.1 index y bytes maxL ret n) (hstt : Cond.static y ∈ S.2.2.2) (hM : fm_ct S y bytes maxL ret d1 as M (fm_vr R)) (hlen : as.length = n) (hstk : stk = as.reverse ++ st) (hdp : d1 + 1 ≤ Y.2.2.2.2) (hst8 : st.length ≤ 8) (hd : decode Y.2.1 pc = .ok (.invokestatic index, 3)) (hq : pc + 3 = pq)
    (k : ∀ M1, R M1 → fm_G S Y X M0 post pq ls st M1) : fm_G S Y X M0 post pc ls stk M :=
  fm_callS hX hcs hstt hM hlen hstk hdp hst8 hd hq (fun r M1 h => by rw [h.1]; exact k M1 h.2)
theorem fm_callS_x {R : Int32 → fm_M → Prop} (hX : fm_Ctx S Y X) (hcs : fm_cs S.2.2.2 Y.1 index y bytes maxL ret n) (hstt : Cond.static y ∈ S.2.2.2) (hM : fm_ct S y bytes maxL ret d1 as M (fm_ir R)) (hlen : as.length = n) (hstk : stk = as.reverse ++ st) (hdp : d1 + 1 ≤ Y.2.2.2.2) (hst8 : st.length ≤ 8) (hd : decode Y.2.1 pc = .ok (.invokestatic index, 3)) (hq : pc + 3 = pq)
    (k : ∀ v M1, R v M1 → fm_G S Y X M0 post pq ls (.inl v :: st) M1) : fm_G S Y X M0 post pc ls stk M :=
  fm_callS hX hcs hstt hM hlen hstk hdp hst8 hd hq (fun r M1 h => by obtain ⟨v, h1, h2⟩ := h; rw [h1]; exact k v M1 h2)
variable {b ci : Nat} {lb : List (Option Nat)} {C : String} {T : u_T} {N : Nat}
theorem fm_callV_i {v : Int32} {M2 : fm_M} (hX : fm_Ctx S Y X) (hb1 : S.2.1[b]? = some (.inr (ci, lb))) (hc : S.1[ci]? = some (C, T, N)) (hcs : fm_cs S.2.2.2 Y.1 index y bytes maxL ret n) (hC : y.cls = C) (hinm : Cond.instanceMethod y ∈ S.2.2.2) (hsel : Cond.selects C y y ∈ S.2.2.2) (hM : fm_ct S y bytes maxL ret d1 (.inr b :: as) M (fm_rv v M2)) (hlen : as.length = n) (hstk : stk = as.reverse ++ .inr b :: st) (hdp : d1 + 1 ≤ Y.2.2.2.2) (hst8 : st.length ≤ 8) (hd : decode Y.2.1 pc = .ok (.invokevirtual index, 3)) (hq : pc + 3 = pq)
    (k : fm_G S Y X M0 post pq ls (.inl v :: st) M2) : fm_G S Y X M0 post pc ls stk M :=
  fm_callV hX hb1 hc hcs hC hinm hsel hM hlen hstk hdp hst8 hd hq (fun r M1 h => by rw [h.1, h.2]; exact k)
theorem fm_callV_v {M2 : fm_M} (hX : fm_Ctx S Y X) (hb1 : S.2.1[b]? = some (.inr (ci, lb))) (hc : S.1[ci]? = some (C, T, N)) (hcs : fm_cs S.2.2.2 Y.1 index y bytes maxL ret n) (hC : y.cls = C) (hinm : Cond.instanceMethod y ∈ S.2.2.2) (hsel : Cond.selects C y y ∈ S.2.2.2) (hM : fm_ct S y bytes maxL ret d1 (.inr b :: as) M (fm_vv M2)) (hlen : as.length = n) (hstk : stk = as.reverse ++ .inr b :: st) (hdp : d1 + 1 ≤ Y.2.2.2.2) (hst8 : st.length ≤ 8) (hd : decode Y.2.1 pc = .ok (.invokevirtual index, 3)) (hq : pc + 3 = pq)
    (k : fm_G S Y X M0 post pq ls st M2) : fm_G S Y X M0 post pc ls stk M :=
  fm_callV hX hb1 hc hcs hC hinm hsel hM hlen hstk hdp hst8 hd hq (fun r M1 h => by rw [h.1, h.2]; exact k)
theorem fm_callV_r {R : fm_M → Prop} (hX : fm_Ctx S Y X) (hb1 : S.2.1[b]? = some (.inr (ci, lb))) (hc : S.1[ci]? = some (C, T, N)) (hcs : fm_cs S.2.2.2 Y.1 index y bytes maxL ret n) (hC : y.cls = C) (hinm : Cond.instanceMethod y ∈ S.2.2.2) (hsel : Cond.selects C y y ∈ S.2.2.2) (hM : fm_ct S y bytes maxL ret d1 (.inr b :: as) M (fm_vr R)) (hlen : as.length = n) (hstk : stk = as.reverse ++ .inr b :: st) (hdp : d1 + 1 ≤ Y.2.2.2.2) (hst8 : st.length ≤ 8) (hd : decode Y.2.1 pc = .ok (.invokevirtual index, 3)) (hq : pc + 3 = pq)
    (k : ∀ M1, R M1 → fm_G S Y X M0 post pq ls st M1) : fm_G S Y X M0 post pc ls stk M :=
  fm_callV hX hb1 hc hcs hC hinm hsel hM hlen hstk hdp hst8 hd hq (fun r M1 h => by rw [h.1]; exact k M1 h.2)
theorem fm_callV_x {R : Int32 → fm_M → Prop} (hX : fm_Ctx S Y X) (hb1 : S.2.1[b]? = some (.inr (ci, lb))) (hc : S.1[ci]? = some (C, T, N)) (hcs : fm_cs S.2.2.2 Y.1 index y bytes maxL ret n) (hC : y.cls = C) (hinm : Cond.instanceMethod y ∈ S.2.2.2) (hsel : Cond.selects C y y ∈ S.2.2.2) (hM : fm_ct S y bytes maxL ret d1 (.inr b :: as) M (fm_ir R)) (hlen : as.length = n) (hstk : stk = as.reverse ++ .inr b :: st) (hdp : d1 + 1 ≤ Y.2.2.2.2) (hst8 : st.length ≤ 8) (hd : decode Y.2.1 pc = .ok (.invokevirtual index, 3)) (hq : pc + 3 = pq)
    (k : ∀ v M1, R v M1 → fm_G S Y X M0 post pq ls (.inl v :: st) M1) : fm_G S Y X M0 post pc ls stk M :=
  fm_callV hX hb1 hc hcs hC hinm hsel hM hlen hstk hdp hst8 hd hq (fun r M1 h => by obtain ⟨v, h1, h2⟩ := h; rw [h1]; exact k v M1 h2)
/-- where a tableswitch goes -/
def fm_tsel (dflt lo hi : Int) (offs : Array Int) (v : Int) : Int := if v < lo ∨ hi < v then dflt else offs.getD (v - lo).toNat dflt
theorem fm_table (hX : fm_Ctx S Y X) {dflt lo hi : Int} {offs : Array Int} {len : Nat} {x : Int32} {off : Int} {tgt : Nat} (hd : decode Y.2.1 pc = .ok (.tableswitch dflt lo hi offs, len)) (hsz : (offs.size : Int) = hi - lo + 1) (hs : fm_tsel dflt lo hi offs x.toInt = off) (ht : (pc : Int) + off = (tgt : Int))
    (k : fm_G S Y X M0 post tgt ls st M) : fm_G S Y X M0 post pc ls (.inl x :: st) M := by
  unfold fm_tsel at hs
  by_cases h : x.toInt < lo ∨ hi < x.toInt
  · rw [if_pos h] at hs
    exact fm_tableOut hX hd h (by rw [hs]; exact ht) k
  · rw [if_neg h] at hs
    have hlt : (x.toInt - lo).toNat < offs.size := by omega
    refine fm_tableIn hX hd (fun z => h (Or.inl z)) (fun z => h (Or.inr z)) (off := off) ?_ ht k
    rw [← hs, Array.getElem?_eq_getElem hlt]
    simp [Array.getD, hlt]
end FM2
theorem fm_b1 {p : Prop} [Decidable p] (h : p) : nI 1 = bI (decide p) := by rw [decide_eq_true h]; rfl
theorem fm_b0 {p : Prop} [Decidable p] (h : ¬ p) : nI 0 = bI (decide p) := by rw [decide_eq_false h]; rfl
theorem fm_rvi {v w : Int32} {M2 : fm_M} (h : w = v) : fm_rv v M2 (some w) M2 := ⟨congrArg some h, rfl⟩
theorem fm_arg {p : Nat} (h : p < 2) : (16777216 : Int32) <<< (nI p &&& 31) = an_1 (24 + p) := by
  rcases (by omega : p = 0 ∨ p = 1) with e | e <;> subst e <;> decide +kernel
theorem fm_Wc : (67108864 : Int32) = an_W := by decide +kernel
theorem fm_up_a {M : fm_M} {k j a b : Nat} {x : Int32} (h : a ≠ k) : fm_up M k j x a b = M a b := fm_up_n (fun z => h z.1)
theorem fm_up_b {M : fm_M} {k j a b : Nat} {x : Int32} (h : b ≠ j) : fm_up M k j x a b = M a b := fm_up_n (fun z => h z.2)
/-- a local is forgotten -/
theorem fm_drop {S : fm_S} {Y : fm_Y} {X : fm_X} {M0 M : fm_M} {post : Option Int32 → fm_M → Prop} {pc : Nat} {ls ls1 : fm_L} {st : List fm_V} (k : Nat) (hs : ls.set k none = ls1) (h : fm_G S Y X M0 post pc ls1 st M) : fm_G S Y X M0 post pc ls st M := by
  subst hs
  refine fm_less (fun i v hv => ?_) h
  by_cases e : k = i
  · subst e
    rw [List.getElem?_set] at hv
    split at hv
    · split at hv
      · simp at hv
      · simp at hv
    · exact hv
  · rw [List.getElem?_set_ne e] at hv
    exact hv
theorem cP_up {M : fm_M} {P : pr_T} {a j : Nat} {x : Int32} (h : cP M P) (hn : ∀ n t, n < 5 → t < 6 → a ≠ 15 + 15 * n + t) : cP (fm_up M a j x) P :=
  cP_cg h (fun b i q => by
    obtain ⟨n, t, h1, h2, e⟩ := q
    exact fm_up_a (fun z => hn n t h1 h2 (z ▸ e)))
theorem an_hb_t {row : Nat → Int32} {who : Int32} {i : Nat} (h : bt who i = true) : an_hb row who (i + 1) = an_hb row who i ||| row i := if_pos h
theorem an_hb_f {row : Nat → Int32} {who : Int32} {i : Nat} (h : bt who i = false) : an_hb row who (i + 1) = an_hb row who i := if_neg (by rw [h]; decide)
theorem an_rcn_b {h : Nat → Nat → Int32} {n : Nat} {s : Int32} (e : an_rnd h s = s) : an_rcn h (n + 1) s = s := if_pos e
theorem an_rcn_n {h : Nat → Nat → Int32} {n : Nat} {s : Int32} (e : ¬ an_rnd h s = s) : an_rcn h (n + 1) s = an_rcn h n (an_rnd h s) := if_neg e
theorem cHn_27 (σ : an_T) (who s : Int32) (f : Nat) : an_h σ who (cHn f 27) s = an_h σ who (fun _ g => decide (g = f)) s := by
  refine Prod.ext rfl (Prod.ext (funext fun a => funext fun g => ?_) rfl)
  show (if a < 27 ∧ g < 2 ∧ bt who a = true ∧ cHn f 27 a g = true then σ.2.1 a g ||| s else σ.2.1 a g) = (if a < 27 ∧ g < 2 ∧ bt who a = true ∧ decide (g = f) = true then σ.2.1 a g ||| s else σ.2.1 a g)
  by_cases z : a < 27
  · have e : cHn f 27 a g = decide (g = f) := by unfold cHn; rw [decide_eq_true z, Bool.true_and]
    rw [e]
  · rw [if_neg (fun q => z q.1), if_neg (fun q => z q.1)]
theorem cHn_0 (σ : an_T) (who s : Int32) (f : Nat) : an_h σ who (cHn f 0) s = σ := an_h_0 (fun a g _ _ _ hs => by simp [cHn] at hs)
/-- in both rows -/
theorem an_h_both (σ : an_T) (who s : Int32) : an_h (an_h σ who (fun _ g => decide (g = 0)) s) who (fun _ g => decide (g = 1)) s = an_h σ who an_al s := by
  refine an_h_cat (fun a g ha hg => ?_)
  simp only [decide_eq_true_eq, an_al]
  constructor
  · rintro (⟨a1, _⟩ | ⟨a1, _⟩) <;> exact ⟨a1, trivial⟩
  · rintro ⟨a1, _⟩
    rcases (by omega : g = 0 ∨ g = 1) with e | e
    · exact Or.inl ⟨a1, e⟩
    · exact Or.inr ⟨a1, e⟩
theorem an_lo (i : Nat) : bt 16777215 i = decide (i < 24) := by
  rcases Nat.lt_or_ge i 32 with h | h
  · exact (by decide +kernel : ∀ i, i < 32 → bt 16777215 i = decide (i < 24)) i h
  · rw [b_big h, decide_eq_false (by omega)]
/-- sites in one field, the others in both -/
theorem an_h_hold (σ : an_T) (who s : Int32) (f : Nat) : an_h (an_h σ (who &&& 16777215) (fun _ g => decide (g = f)) s) (who &&& ((who &&& 16777215) ^^^ (-1))) an_al s = an_h σ who (fun a g => decide (23 < a) || decide (g = f)) s := by
  refine an_h_cat (fun a g ha hg => ?_)
  rw [b_and, b_and, b_xor, b_and, an_lo, b_m1 a (by omega)]
  simp only [decide_eq_true_eq, an_al, Bool.and_eq_true, Bool.or_eq_true]
  by_cases z : a < 24
  · cases bt who a <;> simp [z] <;> omega
  · cases bt who a <;> simp [z] <;> omega
