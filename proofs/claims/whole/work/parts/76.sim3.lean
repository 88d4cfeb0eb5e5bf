/-! THE TWO MACHINES: an instruction -/
/-- the fates, the same in both; ap: what is taken apart -/
def sH (P : pr_T) (ap : sAp) (Fc : Nat → Nat → Int32) (Fr : Nat → Nat → Nat) : Prop := pr_wf P ∧ (∀ m v k, ap m v k → fa_ap P m v k) ∧
  ∀ m i, m < 5 → i < P.1 m → Fr m i ≤ 2 ∧ Fc m i = nI (Fr m i) ∧ (Fr m i = 1 ↔ ∃ v k, ap m v k ∧ (i = k ∨ fa_wk (P.2.2 m i) v)) ∧ (Fr m i = 2 → (P.2.2 m i).1 = 10 ∨ (P.2.2 m i).1 = 11)
def sK0 (P : pr_T) (i : Nat) : Nat → Nat → Prop := fun q k => i = k ∨ dm_R (P.1 q) (P.2.2 q) k i
/-- both have counted the instruction and gone on to the next place -/
def sIx (P : pr_T) (ap : sAp) (Fc : Nat → Nat → Int32) (Fr : Nat → Nat → Nat) (r md sh dn : Nat) (Mc Mr : fm_M) (q i t : Nat) : Prop :=
  sH P ap Fc Fr ∧ sS P ap r md sh dn Mc Mr (sK0 P i) ∧ 0 < r ∧ q < 5 ∧ Mc 9 (r - 1) = nI q ∧ i < P.1 q ∧ Mc 10 (r - 1) = nI (i + 1) ∧ md < dn ∧ sh < dn ∧ t < 4 ∧ Mc 11 (r - 1) = nI t
def sRes (P : pr_T) (ap : sAp) (r dn : Nat) (Mc Mr : fm_M) : Prop := ∃ r' md' sh', r' ≤ r + 1 ∧ sS P ap r' md' sh' dn Mc Mr (sPl P Mc (r' - 1))
theorem fm_up_id {M : fm_M} {a j : Nat} : fm_up M a j (M a j) = M := by
  funext b k
  unfold fm_up
  by_cases h : b = a ∧ k = j
  · rw [if_pos h, h.1, h.2]
  · rw [if_neg h]
section SIN
variable {P : pr_T} {ap : sAp} {Fc : Nat → Nat → Int32} {Fr : Nat → Nat → Nat} {r md sh dn : Nat} {Mc Mr : fm_M} {q i t : Nat}
theorem sPl_1 {Mc : fm_M} {f k : Nat} (hn : P.1 q ≤ 24) (hi : i < P.1 q) (hk : k ≠ i) (h : sK0 P i q k) (h1 : (P.2.2 q i).1 ≠ 14) (h2 : (P.2.2 q i).1 ≠ 17) (e : Mc 10 f = nI (i + 1)) : sPl P Mc f q k := by
  intro j ej hj
  rw [e, nI_eq (by omega) (by omega)] at ej
  subst ej
  by_cases z : i + 1 = k
  · exact Or.inl z
  · rcases h with h | h
    · exact absurd h.symm hk
    · exact Or.inr (dm_R_s h hi z ⟨hj, Or.inl ⟨h1, h2, rfl⟩⟩)
theorem sPl_2 {Mc : fm_M} {f k : Nat} (hi : i < P.1 q) (hk : k ≠ i) (h : sK0 P i q k) (h1 : (P.2.2 q i).1 = 14 ∨ (P.2.2 q i).1 = 15) (e : Mc 10 f = (P.2.2 q i).2.2.2.2) : sPl P Mc f q k := by
  intro j ej hj
  rw [e] at ej
  by_cases z : j = k
  · exact Or.inl z
  · rcases h with h | h
    · exact absurd h.symm hk
    · exact Or.inr (dm_R_s h hi z ⟨hj, Or.inr ⟨h1, ej⟩⟩)
/-- no NEW of what is taken apart -/
def sNo (P : pr_T) (ap : sAp) (q i : Nat) : Prop := ∀ v k, ap q v k → k ≠ i
theorem sNo_op (H : sH P ap Fc Fr) (h : (P.2.2 q i).1 ≠ 0) : sNo P ap q i := fun v k a e => by
  subst e
  exact h (H.2.1 q v k a).2.1.2.1
theorem sS_f1 (H : sH P ap Fc Fr) {md' sh' : Nat} {Mc' Mr' : fm_M} (hq : q < 5) (hi : i < P.1 q) (h : sS P ap r md' sh' dn Mc' Mr' (sK0 P i)) (e9 : Mc' 9 (r - 1) = nI q) (e10 : Mc' 10 (r - 1) = nI (i + 1)) (hn : sNo P ap q i) (h1 : (P.2.2 q i).1 ≠ 14) (h2 : (P.2.2 q i).1 ≠ 17) : sS P ap r md' sh' dn Mc' Mr' (sPl P Mc' (r - 1)) :=
  sS_K h (fun _ q' v k hq' e9' a z => by
    have eq : q' = q := (nI_eq (by omega) (by omega)).mp (e9'.symm.trans e9)
    subst eq
    exact sPl_1 (H.1 q' hq).1 hi (hn v k a) z h1 h2 e10)
theorem sS_f2 {md' sh' : Nat} {Mc' Mr' : fm_M} (hq : q < 5) (hi : i < P.1 q) (h : sS P ap r md' sh' dn Mc' Mr' (sK0 P i)) (e9 : Mc' 9 (r - 1) = nI q) (e10 : Mc' 10 (r - 1) = (P.2.2 q i).2.2.2.2) (hn : sNo P ap q i) (h1 : (P.2.2 q i).1 = 14 ∨ (P.2.2 q i).1 = 15) : sS P ap r md' sh' dn Mc' Mr' (sPl P Mc' (r - 1)) :=
  sS_K h (fun _ q' v k hq' e9' a z => by
    have eq : q' = q := (nI_eq (by omega) (by omega)).mp (e9'.symm.trans e9)
    subst eq
    exact sPl_2 hi (hn v k a) z h1 e10)
theorem sRes_1 (H : sH P ap Fc Fr) {md' sh' : Nat} {Mc' Mr' : fm_M} (hq : q < 5) (hi : i < P.1 q) (h : sS P ap r md' sh' dn Mc' Mr' (sK0 P i)) (e9 : Mc' 9 (r - 1) = nI q) (e10 : Mc' 10 (r - 1) = nI (i + 1)) (hn : sNo P ap q i) (h1 : (P.2.2 q i).1 ≠ 14) (h2 : (P.2.2 q i).1 ≠ 17) : sRes P ap r dn Mc' Mr' :=
  ⟨r, md', sh', by omega, sS_f1 H hq hi h e9 e10 hn h1 h2⟩
/-- what an instruction sets otherwise than by its own NEW isn't taken apart -/
theorem sNa_d (H : sH P ap Fc Fr) (hi : i < P.1 q) (h : (1 ≤ (P.2.2 q i).1 ∧ (P.2.2 q i).1 ≤ 3) ∨ (P.2.2 q i).1 = 13 ∨ (P.2.2 q i).1 = 16) : ∀ k, ¬ ap q (P.2.2 q i).2.1 k := fun k a => by
  have w := (H.2.1 q _ k a).2.1
  have e := w.2.2.2 i hi ⟨by omega, rfl⟩
  subst e
  have := w.2.1
  omega
theorem sNa_h (H : sH P ap Fc Fr) (hi : i < P.1 q) {v : Nat} (h : fa_hd (fa_k P (P.2.2 q i)) (P.2.2 q i) v) : ∀ k, ¬ ap q v k := fun k a => ((H.2.1 q _ k a).2.2 i hi).1 h
theorem sVar (h : sS P ap r md sh dn Mc Mr (sK0 P i)) (h0 : 0 < r) (hq : q < 5) (e9 : Mc 9 (r - 1) = nI q) {v : Nat} (hv : v < 4) (hn : ∀ k, ¬ ap q v k) : sV md (Mc 12 ((r - 1) * 4 + v)) (Mr 16 (4 * (r - 1) + v)) := by
  obtain ⟨q', t, g1, g2, g3, g4, g5, g6, g7, g8, g9, g10⟩ := h.2.2.2.2.2 h0
  have eq : q' = q := (nI_eq (by omega) (by omega)).mp (g3.symm.trans e9)
  subst eq
  exact (g9 v hv).1 hn
theorem sMad (H : sH P ap Fc Fr) (h : sS P ap r md sh dn Mc Mr (sK0 P i)) (h0 : 0 < r) (hq : q < 5) (hi : i < P.1 q) (e9 : Mc 9 (r - 1) = nI q) {v k : Nat} (hv : v < 4) (ha : ap q v k) (hk : fa_wk (P.2.2 q i) v) : Mc 12 ((r - 1) * 4 + v) = nI (401 + (r - 1) * 4 + v) := by
  obtain ⟨q', t, g1, g2, g3, g4, g5, g6, g7, g8, g9, g10⟩ := h.2.2.2.2.2 h0
  have eq : q' = q := (nI_eq (by omega) (by omega)).mp (g3.symm.trans e9)
  subst eq
  have w := H.2.1 q' v k ha
  rcases ((g9 v hv).2 k ha).2 with ⟨_, z⟩ | ⟨z, _⟩
  · rcases z with z | z
    · subst z
      have := w.2.1.2.1
      rcases hk with y | y | y
      · omega
      · omega
      · omega
    · exact absurd z ((w.2.2 i hi).2 hk)
  · exact z
theorem sInt (h : sS P ap r md sh dn Mc Mr (sK0 P i)) (h0 : 0 < r) {v : Nat} (hv : v < 4) : Mc 13 ((r - 1) * 4 + v) = Mr 17 (4 * (r - 1) + v) := by
  obtain ⟨q', t, g1, g2, g3, g4, g5, g6, g7, g8, g9, g10⟩ := h.2.2.2.2.2 h0
  exact g8 v hv
theorem sPlc (h : sS P ap r md sh dn Mc Mr (sK0 P i)) (h0 : 0 < r) : Mc 10 (r - 1) = Mr 14 (r - 1) := by
  obtain ⟨q', t, g1, g2, g3, g4, g5, g6, g7, g8, g9, g10⟩ := h.2.2.2.2.2 h0
  exact g5
/-- field and lock instructions, of an object or of parts -/
theorem sFld (X : sIx P ap Fc Fr r md sh dn Mc Mr q i t) {c a b : Nat} (hc : sCell ap r md Mc c a b) (ho : (P.2.2 q i).1 = 3 ∨ (P.2.2 q i).1 = 4 ∨ (P.2.2 q i).1 = 5 ∨ (P.2.2 q i).1 = 6) : sRes P ap r dn (cm_wof Mc r (P.2.2 q i).1 (P.2.2 q i).2.1 (P.2.2 q i).2.2.1 (P.2.2 q i).2.2.2.1 c) (rm_fl Mr r a b (P.2.2 q i)) := by
  obtain ⟨H, h, h0, hq, e9, hi, e10, hmd, hsh, ht, et⟩ := X
  obtain ⟨w1, w2, w3, w4, w5, w6⟩ := (H.1 q hq).2.2 i hi
  clear w6
  have hz := w5 (by omega) (by omega)
  have g := sCell_get h h0 hc
  have hc0 := (sCell_b hc).2.2.2
  have no := sNo_op (Fc := Fc) (Fr := Fr) H (i := i) (q := q) (by omega)
  unfold cm_wof
  rw [if_neg hc0]
  rcases ho with o | o | o | o
  · rw [if_pos o, rm_fl_3 o]
    exact sRes_1 H hq hi (sS_ref h h0 w2 (g.1 _ hz) (fun q' hq' e9' => by
      rw [(nI_eq (by omega) (by omega)).mp (e9'.symm.trans e9)]
      exact sNa_d H hi (by omega))) (by rw [fm_up_a (by decide)]; exact e9) (by rw [fm_up_a (by decide)]; exact e10) no (by omega) (by omega)
  · rw [if_neg (by omega), if_neg (by omega), if_pos o, rm_fl_4 o]
    exact sRes_1 H hq hi (sS_setr h h0 hc hz (sVar h h0 hq e9 w3 (sNa_h H hi (Or.inl ⟨Or.inr o, rfl⟩)))) (by rw [fm_up_a (by decide)]; exact e9) (by rw [fm_up_a (by decide)]; exact e10) no (by omega) (by omega)
  · rw [if_neg (by omega), if_pos o, rm_fl_5 o, g.2.1 _ hz]
    exact sRes_1 H hq hi (sS_int h h0 w2 _) (by rw [fm_up_a (by decide)]; exact e9) (by rw [fm_up_a (by decide)]; exact e10) no (by omega) (by omega)
  · rw [if_neg (by omega), if_neg (by omega), if_neg (by omega), rm_fl_6 o, sInt h h0 w3]
    exact sRes_1 H hq hi (sS_seti h h0 hc hz _) (by rw [fm_up_a (by decide)]; exact e9) (by rw [fm_up_a (by decide)]; exact e10) no (by omega) (by omega)
theorem sCell_18 {c a b : Nat} (hc : sCell ap r md Mc c a b) (h4 : md ≤ 400) : (c < 401 ↔ a ≠ 18) := by
  rcases hc with ⟨rfl, rfl, c1, c2⟩ | ⟨v, q, k, hv, hq, e9, ha, rfl, rfl, rfl, e12⟩
  · exact ⟨fun _ => by decide, fun _ => by omega⟩
  · exact ⟨fun z => absurd z (by omega), fun z => absurd rfl z⟩
theorem sub_1 (x : Int32) : x + -1 = x - nI 1 := by
  rw [Int32.sub_eq_add_neg]
  rfl
theorem sLck (X : sIx P ap Fc Fr r md sh dn Mc Mr q i t) {c a b : Nat} (hc : sCell ap r md Mc c a b) (ho : (P.2.2 q i).1 = 10 ∨ (P.2.2 q i).1 = 11) : sRes P ap r dn (cm_cnt Mc (P.2.2 q i).1 c) (rm_fl Mr r a b (P.2.2 q i)) := by
  obtain ⟨H, h, h0, hq, e9, hi, e10, hmd, hsh, ht, et⟩ := X
  have g := sCell_get h h0 hc
  have hc0 := (sCell_b hc).2.2.2
  have ha0 := (sCell_b hc).2.2.1
  have hn := h.1.1
  have no := sNo_op (Fc := Fc) (Fr := Fr) H (i := i) (q := q) (by omega)
  have e18 : (if c < 401 then nI 1 else nI 0) = (if a = 18 then nI 0 else nI 1) := by
    by_cases z : a = 18
    · rw [if_pos z, if_neg (fun y => (sCell_18 hc (by omega)).mp y z)]
    · rw [if_neg z, if_pos ((sCell_18 hc (by omega)).mpr z)]
  have key : ∀ u : Int32, sRes P ap r dn (fm_up (fm_up Mc 7 c u) 4 15 (Mc 4 15 + (if c < 401 then nI 1 else nI 0))) (fm_up (fm_up Mr a (b + 4) u) 0 27 (Mr 0 27 + (if a = 18 then nI 0 else nI 1))) := fun u => by
    rw [e18, h.1.2.2.2.2.2.2]
    exact sRes_1 H hq hi (sS_lock (sS_setn h h0 hc u) _) (by rw [fm_up_a (by decide), fm_up_a (by decide)]; exact e9) (by rw [fm_up_a (by decide), fm_up_a (by decide)]; exact e10) no (by omega) (by omega)
  unfold cm_cnt
  rw [if_neg hc0]
  rcases ho with o | o
  · rw [if_neg (by omega), if_pos o, rm_fl_k o, g.2.2]
    exact key _
  · by_cases z : Mr a (b + 4) = 0
    · rw [if_pos ⟨o, g.2.2.trans z⟩, rm_fl_u o z]
      exact sRes_1 H hq hi (sS_fail h _) (by rw [fm_up_a (by decide)]; exact e9) (by rw [fm_up_a (by decide)]; exact e10) no (by omega) (by omega)
    · rw [if_neg (fun y => z (g.2.2.symm.trans y.2)), if_neg (by omega), rm_fl_v o z, g.2.2, sub_1]
      exact key _
end SIN
