/-! THE LAW: what a helper and the reference answer together -/
section JH
variable {P : pr_T} {Mc Mr Mc1 Mr1 : fm_M} {k b : Int32} {x : Int64}
theorem jh_par (J : jI P Mc Mr) {v w : Int32} (h : lp_par v w Mc k x Mc1) (hr : (∃ m j, m < 5 ∧ j ≤ 2 ∧ v = nI m ∧ w = nI j ∧ b = 1 ∧ Mr1 = rp_par Mr m j) ∨ (¬ (inR 5 v ∧ inR 3 w) ∧ b = 0 ∧ Mr1 = fm_up Mr 0 0 (nI 1))) : Mr1 0 0 = k ∧ (k = 0 → x = 1 ∧ b = 1) ∧ ∃ P1, jI P1 Mc1 Mr1 := by
  rcases h with ⟨m, j, hm, hj, rfl, rfl, rfl, rfl, rfl⟩ | ⟨hn, rfl, rfl⟩
  · rcases hr with ⟨m', j', hm', hj', e1, e2, rfl, rfl⟩ | ⟨hn, -, -⟩
    · have := (nI_eq (by omega) (by omega)).mp e1
      subst this
      have := (nI_eq (by omega) (by omega)).mp e2
      subst this
      refine ⟨?_, fun _ => ⟨rfl, rfl⟩, _, jI_par J hj⟩
      unfold rp_par
      rw [fm_up_b (by decide), fm_up_a (by decide), fm_up_s]
      rfl
    · exact absurd ⟨⟨m, hm, rfl⟩, j, by omega, rfl⟩ hn
  · rcases hr with ⟨m', j', hm', hj', e1, e2, rfl, rfl⟩ | ⟨-, rfl, rfl⟩
    · exact absurd ⟨⟨m', hm', e1⟩, j', by omega, e2⟩ hn
    · exact ⟨fm_up_s, fun z => absurd z (by decide), P, jI_t J _⟩
theorem jh_clr (J : jI P Mc Mr) {v : Int32} (h : lp_clr P v Mc k x Mc1) (hr : (∃ m, m < 5 ∧ v = nI m ∧ b = nI (P.1 m) ∧ Mr1 = rp_clr Mr m) ∨ (¬ inR 5 v ∧ b = 0 ∧ Mr1 = fm_up Mr 0 0 (nI 1))) : Mr1 0 0 = k ∧ (k = 0 → x = b.toInt64) ∧ ∃ P1, jI P1 Mc1 Mr1 := by
  rcases h with ⟨m, hm, rfl, rfl, rfl, rfl⟩ | ⟨hn, rfl, rfl⟩
  · rcases hr with ⟨m', hm', e1, rfl, rfl⟩ | ⟨hn, -, -⟩
    · have := (nI_eq (by omega) (by omega)).mp e1
      subst this
      refine ⟨?_, fun _ => rfl, _, jI_clr J⟩
      unfold rp_clr
      rw [fm_up_b (by decide), fm_up_a (by decide), fm_up_s]
      rfl
    · exact absurd ⟨m, hm, rfl⟩ hn
  · rcases hr with ⟨m', hm', e1, rfl, rfl⟩ | ⟨-, rfl, rfl⟩
    · exact absurd ⟨m', hm', e1⟩ hn
    · exact ⟨fm_up_s, fun z => absurd z (by decide), P, jI_t J _⟩
theorem jh_shn (J : jI P Mc Mr) {sh : Nat} {v : Int32} (h : lp_shn sh v Mc k x Mc1) (hr : (∃ j, j < 32 ∧ j < sh ∧ v = nI j ∧ b = Mr 21 j ∧ Mr1 = fm_up Mr 0 0 (nI 0)) ∨ (¬ (∃ j, j < 32 ∧ j < sh ∧ v = nI j) ∧ b = 0 ∧ Mr1 = fm_up Mr 0 0 (nI 1))) : Mr1 0 0 = k ∧ (k = 0 → x = b.toInt64) ∧ ∃ P1, jI P1 Mc1 Mr1 := by
  rcases h with ⟨j, hj, hjs, rfl, rfl, rfl, rfl⟩ | ⟨hn, rfl, rfl⟩
  · rcases hr with ⟨j', hj', hjs', e1, rfl, rfl⟩ | ⟨hn, -, -⟩
    · have := (nI_eq (by omega) (by omega)).mp e1
      subst this
      refine ⟨fm_up_s, fun _ => ?_, P, jI_t J _⟩
      have hk := J.2.2.2.2.2.1 j hj
      rw [hk]
    · exact absurd ⟨j, hj, hjs, rfl⟩ hn
  · rcases hr with ⟨j', hj', hjs', e1, rfl, rfl⟩ | ⟨-, rfl, rfl⟩
    · exact absurd ⟨j', hj', hjs', e1⟩ hn
    · exact ⟨fm_up_s, fun z => absurd z (by decide), P, jI_t J _⟩
theorem okI_uq {o x y z n : Int32} {I J : an_I} (h : okI o x y z n I) (k : okI o x y z n J) : I = J := by
  obtain ⟨a1, a2, a3, a4, a5, w⟩ := h
  obtain ⟨b1, b2, b3, b4, b5, u⟩ := k
  obtain ⟨i1, i2, i3, i4, i5⟩ := I
  obtain ⟨j1, j2, j3, j4, j5⟩ := J
  have lt : ∀ {I : an_I}, an_wf I → I.1 < 19 ∧ I.2.1 < 4 ∧ I.2.2.1 < 4 ∧ I.2.2.2.1 < 4 := fun {I} w => ⟨Nat.lt_succ_of_le w.1, w.2.1, w.2.2.1, w.2.2.2.1⟩
  obtain ⟨w1, w2, w3, w4⟩ := lt w
  obtain ⟨u1, u2, u3, u4⟩ := lt u
  dsimp only at *
  have e1 := (nI_eq (by omega) (by omega)).mp (a1.symm.trans b1)
  have e2 := (nI_eq (by omega) (by omega)).mp (a2.symm.trans b2)
  have e3 := (nI_eq (by omega) (by omega)).mp (a3.symm.trans b3)
  have e4 := (nI_eq (by omega) (by omega)).mp (a4.symm.trans b4)
  have e5 := a5.symm.trans b5
  rw [e1, e2, e3, e4, e5]
theorem jh_put (J : jI P Mc Mr) {v p q r z n : Int32} (h : lp_put P v p q r z n Mc k x Mc1) (hr : (∃ m J, m < 5 ∧ v = nI m ∧ okI p q r z n J ∧ ((P.1 m = 24 ∧ b = 0 ∧ Mr1 = fm_up Mr 0 0 (nI 2)) ∨ (P.1 m < 24 ∧ b = nI (P.1 m) ∧ Mr1 = rp_put Mr P m J))) ∨ (¬ (inR 5 v ∧ ∃ J, okI p q r z n J) ∧ b = 0 ∧ Mr1 = fm_up Mr 0 0 (nI 1))) : Mr1 0 0 = k ∧ (k = 0 → x = b.toInt64) ∧ ∃ P1, jI P1 Mc1 Mr1 := by
  rcases h with ⟨m, I, hm, rfl, hI, h⟩ | ⟨hn, rfl, rfl⟩
  · rcases hr with ⟨m', I', hm', e1, hI', hr⟩ | ⟨hn, -, -⟩
    · have := (nI_eq (by omega) (by omega)).mp e1
      subst this
      have := okI_uq hI hI'
      subst this
      rcases h with ⟨h24, rfl, rfl, rfl⟩ | ⟨h24, rfl, rfl⟩
      · rcases hr with ⟨g, -, -⟩ | ⟨-, rfl, rfl⟩
        · omega
        · refine ⟨?_, fun _ => rfl, _, jI_put J hm h24 hI.2.2.2.2.2⟩
          unfold rp_put
          rw [fm_up_b (by decide), fm_up_a (by decide), fm_up_a (by decide), fm_up_a (by decide), fm_up_a (by decide), fm_up_a (by decide), fm_up_a (by decide), fm_up_s]
          rfl
      · rcases hr with ⟨-, rfl, rfl⟩ | ⟨g, -, -⟩
        · exact ⟨fm_up_s, fun z => absurd z (by decide), P, jI_t J _⟩
        · omega
    · exact absurd ⟨⟨m, hm, rfl⟩, I, hI⟩ hn
  · rcases hr with ⟨m', I', hm', e1, hI', -⟩ | ⟨-, rfl, rfl⟩
    · exact absurd ⟨⟨m', hm', e1⟩, I', hI'⟩ hn
    · exact ⟨fm_up_s, fun z => absurd z (by decide), P, jI_t J _⟩
end JH
/-! the law's rows: both systems, the array of one long, the script -/
def LW (adC adR : Nat → Nat) (tA : Nat → ClassId) (o : Nat) (tL : ClassId) (f : Nat → Int64) (Mc Mr : fm_M) : va_W := fm_W adR tA shR Mr ++ hW o tL f adC tA Mc
def ll_C (xs : Nat → Int32) (L b : Nat) (tL : ClassId) (X : cn_X) : Prop := lc_C wsL "EscapeMillLaw" b_L_law 7 tL X ∧ va_X b L xs (cn_s X) (cn_s X).heap ∧ b < (cn_s X).heap.size ∧ (∀ q, cn_A X q → (cn_s X).heap.size ≤ q) ∧ hZ (cn_s X) ∧ X.1.2.1.stackTraces = false ∧ 10 ≤ (cn_R X).frames ∧ 356 ≤ (cn_R X).locals
abbrev ll_lv (adC adR : Nat → Nat) (o b : Nat) (i : Int32) : List (Nat × Value) := [(4, .int i), (3, .ref o), (2, .ref (adR 0)), (1, .ref (adC 0)), (0, .ref b)]
theorem lv_tl {la : Array Slot} {n : Nat} {q : Nat × Value} {l : List (Nat × Value)} (h : lv_has la n (q :: l)) : lv_has la n l := ⟨h.1, h.2.1, fun z hz => h.2.2 z (List.mem_cons_of_mem _ hz)⟩
theorem cn_wide {X : cn_X} {pc : Nat} {la : Array Slot} {st : List Value} {ws : va_W} {cells slots c1 s1 : Nat} (h1 : cells ≤ c1) (h2 : slots ≤ s1) (k : cn_G X pc la st ws c1 s1) : cn_G X pc la st ws cells slots := by
  obtain ⟨⟨p, l, e, R, s, m, args, below⟩, meth, c, D, tA, A, Q⟩ := X
  intro H locs g2 g3 g4
  exact W.widen h1 h2 (k H locs g2 g3 g4)
section LL
variable {xs : Nat → Int32} {L b : Nat} {tL : ClassId} {X : cn_X} {pc : Nat} {la : Array Slot} {st : List Value} {ws : va_W} {cells slots : Nat} {adC adR : Nat → Nat} {o : Nat} {f : Nat → Int64} {Mc Mr : fm_M}
theorem ll_sld {i : Nat} {v : Int32} (C : ll_C xs L b tL X) (hd : decode b_L_law pc = .ok (.iaload, 1)) (hi : i < L) (hL : L < 2 ^ 31) (hv : v = nI i) (kk : cn_G X (pc + 1) la (.int (xs i) :: st) ws cells slots) : cn_G X pc la (.int v :: .ref b :: st) ws cells slots := by
  obtain ⟨⟨p, l, e, R, s, m, args, below⟩, meth, c, D, tA, A, Q⟩ := X
  obtain ⟨⟨hx, hb, -⟩, hX, hbl, hA, -⟩ := C
  subst hv
  intro H locs g2 g3 g4
  have hcl : (nI i).toNatClampNeg = i := nI_clamp (by omega)
  refine va_sld hx hb hX hbl (fun z => absurd (hA b z) (by show ¬ s.heap.size ≤ b; have : b < s.heap.size := hbl; omega)) g4 (i := nI i) (fun z => z.elim (nI_pos (by omega)) (fun h => by rw [hcl] at h; omega)) hd ?_
  rw [hcl]
  exact kk H locs g2 g3 g4
theorem ll_slen (C : ll_C xs L b tL X) (hd : decode b_L_law pc = .ok (.arraylength, 1)) (kk : cn_G X (pc + 1) la (.int (nI L) :: st) ws cells slots) : cn_G X pc la (.ref b :: st) ws cells slots := by
  obtain ⟨⟨p, l, e, R, s, m, args, below⟩, meth, c, D, tA, A, Q⟩ := X
  obtain ⟨⟨hx, hb, -⟩, hX, hbl, hA, -⟩ := C
  intro H locs g2 g3 g4
  exact va_slen hx hb hX hbl (fun z => absurd (hA b z) (by show ¬ s.heap.size ≤ b; have : b < s.heap.size := hbl; omega)) g4 hd (kk H locs g2 g3 g4)
/-- the j-th number of the call at i -/
theorem ll_arg {i j : Nat} {kc : Int} {lv : List (Nat × Value)} {p0 p1 : Nat} (C : ll_C xs L b tL X) (hl : lv_has la 7 lv) (h0 : lv[p0]? = some (0, .ref b)) (h4 : lv[p1]? = some (4, .int (nI i))) (hi : i + j < L) (hL : L < 2 ^ 30) (d0 : decode b_L_law pc = .ok (.aload_n 0, 1)) (d1 : decode b_L_law (pc + 1) = .ok (.iload 4, 2)) (d2 : decode b_L_law (pc + 3) = .ok (.iconst kc, 1)) (hk : Int32.ofInt kc = nI j) (d3 : decode b_L_law (pc + 4) = .ok (.iadd, 1)) (d4 : decode b_L_law (pc + 5) = .ok (.iaload, 1)) (kk : cn_G X (pc + 6) la (.int (xs (i + j)) :: st) ws cells slots) : cn_G X pc la st ws cells slots := by
  refine lc_aload_n C.1.b d0 rfl hl p0 h0 ?_
  refine lc_iload C.1.b d1 hl p1 h4 ?_
  refine lc_iconst C.1.b d2 hk ?_
  refine lc_iadd C.1.b d3 (nI_add i j) ?_
  exact ll_sld C d4 hi (by omega) rfl kk
theorem ll_arg6 {i j : Nat} {kc : Int} {lv : List (Nat × Value)} {p0 p1 : Nat} (C : ll_C xs L b tL X) (hl : lv_has la 7 lv) (h0 : lv[p0]? = some (0, .ref b)) (h4 : lv[p1]? = some (4, .int (nI i))) (hi : i + j < L) (hL : L < 2 ^ 30) (d0 : decode b_L_law pc = .ok (.aload_n 0, 1)) (d1 : decode b_L_law (pc + 1) = .ok (.iload 4, 2)) (d2 : decode b_L_law (pc + 3) = .ok (.bipush kc, 2)) (hk : (Int8.ofInt kc).toInt32 = nI j) (d3 : decode b_L_law (pc + 5) = .ok (.iadd, 1)) (d4 : decode b_L_law (pc + 6) = .ok (.iaload, 1)) (kk : cn_G X (pc + 7) la (.int (xs (i + j)) :: st) ws cells slots) : cn_G X pc la st ws cells slots := by
  refine lc_aload_n C.1.b d0 rfl hl p0 h0 ?_
  refine lc_iload C.1.b d1 hl p1 h4 ?_
  refine lc_bipush C.1.b d2 hk ?_
  refine lc_iadd C.1.b d3 (nI_add i j) ?_
  exact ll_sld C d4 hi (by omega) rfl kk
/-- the class is called -/
theorem ll_E {y : MethodName} {bytes : ByteArray} {maxL d1 index na : Nat} {ret : Option FieldType} {as : List fm_V} {post1 : Option Int32 → fm_M → Prop} {stk : List Value} (C : ll_C xs L b tL X) (hM : fm_ct SC y bytes maxL ret d1 (.inr 0 :: as) Mc post1) (hcs : fm_cs wsL "EscapeMillLaw" index y bytes maxL ret na) (hinm : Cond.instanceMethod y ∈ wsL) (hsel : Cond.selects "EscapeMill" y y ∈ wsL) (hlen : as.length = na) (hstk : stk = (as.map (fm_v adC)).reverse ++ .ref (adC 0) :: st) (hd1 : d1 ≤ 9) (hd2 : 19 + maxL + 46 * d1 ≤ 356) (hcc : cells ≤ (cn_R X).cells) (hss : slots ≤ (cn_R X).slots) (hsz : la.size = 7) (hst8 : (st.map fun v => v.category).sum ≤ 8) (hd : decode b_L_law pc = .ok (.invokevirtual index, 3))
    (kk : ∀ r M1, post1 r M1 → cn_G X (pc + 3) la ((r.map Value.int).toList ++ st) (LW adC adR (cn_tA X) o tL f M1 Mr) cells slots) : cn_G X pc la stk (LW adC adR (cn_tA X) o tL f Mc Mr) cells slots := by
  refine cn_eq (ws' := (fm_W adR (cn_tA X) shR Mr ++ [(o, .inl (tL, 1, .inr (.inl f)))]) ++ fm_W adC (cn_tA X) shC Mc) (by unfold LW hW; rw [List.append_assoc]) ?_
  refine lc_callV (sh := shC) (b := 0) C.1 wsL_good (fun w h => wsL_A h) hM rfl rfl hcs hinm hsel hlen hstk (by have := C.2.2.2.2.2.2.1; omega) (by have := C.2.2.2.2.2.2.2; omega) hcc hss hsz hst8 hd (fun r M1 hp => ?_)
  refine cn_eq (ws' := LW adC adR (cn_tA X) o tL f M1 Mr) (by unfold LW hW; rw [List.append_assoc]) ?_
  exact kk r M1 hp
theorem lc_swap0 {b9 c9 : va_W} (kk : cn_G X pc la st (c9 ++ b9) cells slots) : cn_G X pc la st (b9 ++ c9) cells slots := by
  have h := lc_swap (X := X) (pc := pc) (la := la) (st := st) (cells := cells) (slots := slots) (a := []) (b := b9) (c := c9) kk
  exact h
/-- the reference is called -/
theorem ll_R {y : MethodName} {bytes : ByteArray} {maxL d1 index na : Nat} {ret : Option FieldType} {as : List fm_V} {post1 : Option Int32 → fm_M → Prop} {stk : List Value} (C : ll_C xs L b tL X) (hM : fm_ct SR y bytes maxL ret d1 (.inr 0 :: as) Mr post1) (hcs : fm_cs wsL "EscapeMillLaw" index y bytes maxL ret na) (hinm : Cond.instanceMethod y ∈ wsL) (hsel : Cond.selects "EscapeMillModel" y y ∈ wsL) (hlen : as.length = na) (hstk : stk = (as.map (fm_v adR)).reverse ++ .ref (adR 0) :: st) (hd1 : d1 ≤ 9) (hd2 : 19 + maxL + 46 * d1 ≤ 356) (hcc : cells ≤ (cn_R X).cells) (hss : slots ≤ (cn_R X).slots) (hsz : la.size = 7) (hst8 : (st.map fun v => v.category).sum ≤ 8) (hd : decode b_L_law pc = .ok (.invokevirtual index, 3))
    (kk : ∀ r M1, post1 r M1 → cn_G X (pc + 3) la ((r.map Value.int).toList ++ st) (LW adC adR (cn_tA X) o tL f Mc M1) cells slots) : cn_G X pc la stk (LW adC adR (cn_tA X) o tL f Mc Mr) cells slots := by
  refine cn_eq (ws' := fm_W adR (cn_tA X) shR Mr ++ hW o tL f adC (cn_tA X) Mc) (by unfold LW; rfl) ?_
  refine lc_swap0 ?_
  refine lc_callV (sh := shR) (b := 0) (wp := hW o tL f adC (cn_tA X) Mc) C.1 wsL_good (fun w h => wsL_A h) hM rfl rfl hcs hinm hsel hlen hstk (by have := C.2.2.2.2.2.2.1; omega) (by have := C.2.2.2.2.2.2.2; omega) hcc hss hsz hst8 hd (fun r M1 hp => ?_)
  refine lc_swap0 ?_
  have z := kk r M1 hp
  unfold LW at z
  exact z
theorem lh_blind {D : va_G} {ad : Nat → Nat} {tA : Nat → ClassId} {tL : ClassId} {o sz : Nat} {as : List fm_V} {f : Nat → Int64} {M : fm_M} : FrameBlind (lh_Pc D ad tA tL o sz as f M) := by
  intro a U g mk q
  obtain ⟨q0, q1, qP, qK, qD, qZ⟩ := q
  exact ⟨q0, q1, qP, va_K.moved (u := U) (U := U.calling g mk a) (Vm.Alike.refl U.vm) qK, qD, hZ_call qZ⟩
/-- a helper is called -/
theorem ll_H {y : MethodName} {bytes : ByteArray} {maxL index na : Nat} {hh : List (Nat × Nat × Nat × Nat)} {as : List fm_V} {post1 : Int32 → Int64 → fm_M → Prop} {stk : List Value} (C : ll_C xs L b tL X) (hM : lh_ct y bytes maxL hh as Mc post1) (hcode : Cond.codeWith y bytes maxL (some .int) hh ∈ wsL) (hlink : Cond.methodLink "EscapeMillLaw" index y ∈ wsL) (hini : Cond.initialized y.cls ∈ wsL) (hstt : Cond.static y ∈ wsL) (hdc : y.cls ≠ "java/lang/invoke/MethodHandle" ∧ y.cls ≠ "java/lang/invoke/VarHandle" ∧ (parseMethodDescriptor y.desc).map (fun d => d.parameters.length) = some na) (hmL : maxL ≤ 27) (hlen : as.length + 1 = na) (hstk : stk = (as.map (fm_v adC) ++ [Value.ref o]).reverse ++ st) (hcc : cells + 1 ≤ (cn_R X).cells) (hss : slots + 6 ≤ (cn_R X).slots) (hsz : la.size = 7) (hst8 : (st.map fun v => v.category).sum ≤ 8) (hd : decode b_L_law pc = .ok (.invokestatic index, 3))
    (kk : ∀ (k : Int32) (f1 : Nat → Int64) (M1 : fm_M), post1 k (f1 0) M1 → cn_G X (pc + 3) la (.int k :: st) (LW adC adR (cn_tA X) o tL f1 M1 Mr) (cells + 1) (slots + 6)) : cn_G X pc la stk (LW adC adR (cn_tA X) o tL f Mc Mr) cells slots := by
  subst hstk
  obtain ⟨⟨p, l, e, R, s, m, args, below⟩, meth, c, D, tA, A, Q⟩ := X
  obtain ⟨⟨hx, hb, hml, hown, hts, hK, hA⟩, hX, hbl, hAo, hz, hst, hfr, hlo⟩ := C
  intro H locs g2 g3 g4
  have hfr' : 10 ≤ R.frames := hfr
  have hlo' : 356 ≤ R.locals := hlo
  have hrun := va_runSW (R := R) (e := e) (below := below) (meth := meth) (H := H) (locs := locs) (cells := cells) (slots := slots) (nL := 7) (As := as.map (fm_v adC) ++ [Value.ref o]) (rest := st) (g := F0 m pc la ((as.map (fm_v adC) ++ [Value.ref o]).reverse ++ st)) (hh := hh) (bytes := bytes) (maxL := maxL) (ret := some .int) ⟨hx, hb, hml, hown, hts⟩ (hM l D adC tA tL o H.size f hst) rfl rfl (by show 7 + 1 ≤ R.frames; omega) (by show 8 + (maxL + 11) + 208 ≤ R.locals; omega) (pay_in hts (fun u hu => by
      have hm : u ∈ wsL := (List.mem_cons.mp hu).elim (fun e => e ▸ hcode) id
      exact ⟨hm, good_of_word (List.all_eq_true.mp wsL_good u hm)⟩)) List.mem_cons_self (hts _ hini) (hts _ hlink) (hts _ hstt) hdc ⟨lh_blind, fun U hU hW => ⟨rfl, by rw [hU], by rw [hU]; exact cn_lastP g2, va_K.moved hW.alike hK, (cn_last g3).weaken (fun _ _ _ _ => trivial), hZ_move hW (fun q cell h => by
      rw [hU, g4.2.1 q (Array.getElem?_eq_some_iff.mp h).1 (fun z => absurd (hAo q z) (Nat.not_le.mpr (Array.getElem?_eq_some_iff.mp h).1))]
      exact h) hz⟩⟩ rfl (by simpa using hlen) hsz rfl (lv_room hst8) hd ⟨hcc, hss⟩
  intro T2 hT Xs
  obtain ⟨v, st₀, t, T', L', h0, X', hL, e1, e2, ⟨⟨k, f1, M1, hv, hp, hP1, hD1⟩, hz2, hk⟩, stp⟩ := hrun T2 hT Xs
  have hv : v = some (.int k) := by injection hv
  subst hv
  rw [h0] at hz2 hk
  have hfree : ∀ q, va_A (hW o tL f adC tA Mc) H.size q → A q := fun q h => by
    rcases h with ⟨k, e, h⟩ | h
    · exact (cn_last g3).2 k _ h
    · exact hA q (Nat.le_trans g4.1 h)
  obtain ⟨j1, j2⟩ := cn_join (H1 := t.heap) g2 g3 hk hfree hP1 hD1
  obtain ⟨t2, a1, b1⟩ := kk k f1 M1 hp T'.heap (locs ++ L') (by rw [e1]; exact j1) j2 ⟨Nat.le_trans g4.1 (by rw [e1]; exact hz2), fun q h1 h2 => by rw [e1, hk q (Nat.lt_of_lt_of_le h1 g4.1) (fun z => h2 (hfree q z))]; exact g4.2.1 q h1 h2, fun q hq => by
      rcases List.mem_append.mp hq with h | h
      · exact g4.2.2 q h
      · exact hfree _ (hL q h)⟩ T' rfl X'
  exact ⟨t2, stp t2 a1, b1⟩
end LL
theorem lg_cmp_0 (x : Int64) : lg_cmp x x = 0 := by simp [lg_cmp]
theorem LW_at {adC adR : Nat → Nat} {tA : Nat → ClassId} {o : Nat} {tL : ClassId} {f : Nat → Int64} {Mc Mr : fm_M} : (LW adC adR tA o tL f Mc Mr)[23]? = some (o, .inl (tL, 1, .inr (.inl f))) := by
  unfold LW hW
  have h : (fm_W adR tA shR Mr).length = 23 := by
    unfold fm_W
    rw [List.length_mapIdx]
    rfl
  rw [List.getElem?_append_right (by omega), h]
  rfl
