/-! THE LAW: its start -/
theorem eZ_call (a : Array Value) (U : State) (g : JFrame) (mk : MethodId) (h : eZ U) : eZ (State.calling U g mk a) := ⟨va_AO.moved (u := U) (U := U.calling g mk a) (Vm.Alike.refl U.vm) h.1, va_AO.moved (u := U) (U := U.calling g mk a) (Vm.Alike.refl U.vm) h.2.1, va_AO.moved (u := U) (U := U.calling g mk a) (Vm.Alike.refl U.vm) h.2.2.1, va_AOA.moved (u := U) (U := U.calling g mk a) (Vm.Alike.refl U.vm) h.2.2.2.1, va_Nw.same rfl rfl h.2.2.2.2.1, va_Nw.same rfl rfl h.2.2.2.2.2.1, va_Nw.same rfl rfl h.2.2.2.2.2.2.1, va_Nw.same rfl rfl h.2.2.2.2.2.2.2⟩
theorem eZ_move {V U : State} (hW : V.WarmedH U.vm) (h : eZ V) : eZ U := ⟨va_AO.moved hW.alike h.1, va_AO.moved hW.alike h.2.1, va_AO.moved hW.alike h.2.2.1, va_AOA.moved hW.alike h.2.2.2.1, va_Nw.warmM hW h.2.2.2.2.1, va_Nw.warmM hW h.2.2.2.2.2.1, va_Nw.warmM hW h.2.2.2.2.2.2.1, va_Nw.warmM hW h.2.2.2.2.2.2.2⟩
section LS
variable {Ts : List Cond} {own : String} {cc : ByteArray} {n : Nat} {tL : ClassId} {X : cn_X} {pc : Nat} {la : Array Slot} {st : List Value} {ws : va_W} {cells slots : Nat}
theorem lc_new {ci N index : Nat} {E : String} {T : u_T} {ty : Nat → FieldType} {fs : List Value} (C : lc_C Ts own cc n tL X) (hd : decode cc pc = .ok (.new index, 3)) (hin1 : ∀ w ∈ u_ws E T N, w ∈ Ts) (hty : ∀ k, k < N → parseFieldDescriptor (T k).2.2.1 = some (ty k)) (hcl : Cond.classLink own index E ∈ Ts) (hinst : Cond.instantiable E N ∈ Ts) (hini : Cond.initialized E ∈ Ts) (hcv : vwA[ci]? = some (E, T, N)) (hfs : ∀ j, j < N → defaultValue (ty j) = vp_V fs j) (hc : cells + 1 ≤ (cn_R X).cells) (hs : slots + N ≤ (cn_R X).slots)
    (kk : ∀ q, cn_G X (pc + 3) la (.ref q :: st) (ws ++ [(q, .inr (ci, fs))]) (cells + 1) (slots + N)) : cn_G X pc la st ws cells slots := by
  obtain ⟨⟨p, l, e, R, s, m, args, below⟩, meth, c, D, tA, A, Q⟩ := X
  obtain ⟨hx, hb, hml, hown, hts, hK, hA⟩ := C
  intro H locs g2 g3 g4
  exact va_new hx hb hts hin1 ty hty hown (hts _ hcl) (hts _ hinst) (hts _ hini) hK g2 g3 g4 hA hcv hfs hc hs hd (fun q H1 q1 q2 q3 => kk q H1 locs q1 q2 q3)
theorem lc_newl {k : Int32} (C : lc_C Ts own cc n tL X) (hd : decode cc pc = .ok (.newarray .long, 2)) (hw : Cond.arrayClass .long ∈ Ts) (hk : k = nI 1) (hc : cells + 1 ≤ (cn_R X).cells) (hs : slots + 1 ≤ (cn_R X).slots)
    (kk : ∀ q, cn_G X (pc + 2) la (.ref q :: st) (ws ++ [(q, .inl (tL, 1, .inr (.inl (fun _ => 0))))]) (cells + 1) (slots + 1)) : cn_G X pc la (.int k :: st) ws cells slots := by
  obtain ⟨⟨p, l, e, R, s, m, args, below⟩, meth, c, D, tA, A, Q⟩ := X
  obtain ⟨hx, hb, hml, hown, hts, hK, hA⟩ := C
  subst hk
  intro H locs g2 g3 g4
  refine va_newa (atype := .long) (ty := .long) (a0 := (1, .inr (.inl (fun _ => 0)))) hx hb (hts _ hw) rfl hK g2 g3 g4 hA (fun cA => rfl) (by decide) (by decide) (by decide) hc hs hd (fun q cA H1 hK1 q1 q2 q3 => ?_)
  have hcA : cA = tL := va_RA_uq (hK1.2 (fm_tys SC tA ++ [(tL, FieldType.long)]).length (cA, FieldType.long) (by simp)).2 (hK.2 6 _ fm_tys_6).2
  subst hcA
  exact kk q H1 locs q1 q2 q3
theorem lc_init {y : MethodName} {bytes : ByteArray} {maxL d mc ms ci index b : Nat} {fs : List Value} {Z : State → Prop} {post : (Nat → ClassId) → Nat → va_W → Prop} (C : lc_C Ts own cc n tL X) (hgd : Ts.all goodWord = true) (hsub : ∀ w ∈ wsI, w ∈ Ts) (hcs : fm_cs Ts own index y bytes maxL none 0) (hinm : Cond.instanceMethod y ∈ Ts) (hy1 : y.name = "<init>") (hM : cn_ct wsI y bytes maxL d mc ms ci fs Z post) (hZb : ∀ a U g mk, Z U → Z (State.calling U g mk a)) (hZ : ∀ U, (cn_s X).WarmedH U.vm → Z U) (hdp : d + 1 ≤ (cn_R X).frames) (hlo : 64 + 64 * d ≤ (cn_R X).locals) (hsz : la.size = n) (hst8 : (st.map fun v => v.category).sum ≤ 8) (hc : cells + mc ≤ (cn_R X).cells) (hs : slots + ms ≤ (cn_R X).slots) (hd : decode cc pc = .ok (.invokespecial index, 3))
    (kk : ∀ w1, post (cn_tA X) b w1 → cn_G X (pc + 3) la st (ws ++ w1) (cells + mc) (slots + ms)) : cn_G X pc la (.ref b :: st) (ws ++ [(b, .inr (ci, fs))]) cells slots := by
  obtain ⟨⟨p, l, e, R, s, m, args, below⟩, meth, c, D, tA, A, Q⟩ := X
  obtain ⟨hx, hb, hml, hown, hts, hK, hA⟩ := C
  obtain ⟨hcode, hlink, hini, hdc, hmL⟩ := hcs
  intro H locs g2 g3 g4
  have hK0 : va_K D vwA (fm_tys SC tA) s := va_K_front hK
  have hrun := va_runI (R := R) (e := e) (below := below) (meth := meth) (H := H) (locs := locs) (cells := cells) (slots := slots) (nL := n) (b := b) (As := []) (rest := st) (g := F0 m pc la (.ref b :: st)) ⟨hx, hb, hml, hown, hts⟩ (hM l D tA b H.size) ⟨callB_of 0 hts (lc_goodIn hgd hsub hcode) rfl rfl rfl (hts _ hini) (hts _ hlink) hdc ⟨hdp, by show 8 + (maxL + 11) + 64 * d ≤ R.locals; have : 64 + 64 * d ≤ R.locals := hlo; omega⟩, hy1, hts _ hinm⟩ ⟨cn_blind hZb, fun U hU hW => ⟨rfl, by rw [hU], by rw [hU]; exact cn_lastP g2, va_K.moved hW.alike hK0, (cn_last g3).weaken (fun _ _ _ _ => trivial), hZ U hW⟩⟩ rfl rfl hsz rfl (lv_room hst8) hd ⟨hc, hs⟩
  intro T hT Xs
  obtain ⟨v, st₀, t, T', L, h0, X', hL, e1, e2, ⟨⟨w1, hv, hp, hP1, hK1, hD1⟩, hz, hk⟩, stp⟩ := hrun T hT Xs
  have hv : v = none := by injection hv
  subst hv
  rw [h0] at hz hk
  have hfree : ∀ q, va_A [(b, (.inr (ci, fs) : va_E))] H.size q → A q := fun q h => by
    rcases h with ⟨k, e, h⟩ | h
    · have hk0 : k < 1 := (List.getElem?_eq_some_iff.mp h).1
      rw [show k = 0 by omega] at h
      cases h
      exact g3.2 ws.length _ (cn_end _ _ _)
    · exact hA q (Nat.le_trans g4.1 h)
  obtain ⟨j1, j2⟩ := cn_join (H1 := t.heap) g2 g3 hk hfree hP1 hD1
  obtain ⟨t2, a1, b1⟩ := kk w1 hp T'.heap (locs ++ L) (by rw [e1]; exact j1) j2 ⟨Nat.le_trans g4.1 (by rw [e1]; exact hz), fun q h1 h2 => by rw [e1, hk q (Nat.lt_of_lt_of_le h1 g4.1) (fun z => h2 (hfree q z))]; exact g4.2.1 q h1 h2, fun q hq => by
      rcases List.mem_append.mp hq with h | h
      · exact g4.2.2 q h
      · exact hfree _ (hL q h)⟩ T' rfl X'
  exact ⟨t2, stp t2 a1, b1⟩
end LS
set_option maxRecDepth 100000 in
set_option maxHeartbeats 4000000 in
theorem cR_flat (tA : Nat → ClassId) (h0 q1 q2 q3 q4 q5 q6 q7 q8 q9 q10 q11 q12 q13 q14 q15 q16 q17 q18 q19 q20 q21 q22 : Nat) : ∃ ad : Nat → Nat, ad 0 = h0 ∧ cW_R tA h0 q1 q2 q3 q4 q5 q6 q7 q8 q9 q10 q11 q12 q13 q14 q15 q16 q17 q18 q19 q20 q21 q22 = fm_W ad tA shR (fun _ _ => 0) := by
  obtain ⟨ad, e0, e1, e2, e3, e4, e5, e6, e7, e8, e9, e10, e11, e12, e13, e14, e15, e16, e17, e18, e19, e20, e21, e22⟩ : ∃ ad : Nat → Nat, ad 0 = h0 ∧ ad 1 = q1 ∧ ad 2 = q2 ∧ ad 3 = q3 ∧ ad 4 = q4 ∧ ad 5 = q5 ∧ ad 6 = q6 ∧ ad 7 = q7 ∧ ad 8 = q8 ∧ ad 9 = q9 ∧ ad 10 = q10 ∧ ad 11 = q11 ∧ ad 12 = q12 ∧ ad 13 = q13 ∧ ad 14 = q14 ∧ ad 15 = q15 ∧ ad 16 = q16 ∧ ad 17 = q17 ∧ ad 18 = q18 ∧ ad 19 = q19 ∧ ad 20 = q20 ∧ ad 21 = q21 ∧ ad 22 = q22 := ⟨fun k => ([h0, q1, q2, q3, q4, q5, q6, q7, q8, q9, q10, q11, q12, q13, q14, q15, q16, q17, q18, q19, q20, q21, q22] : List Nat).getD k 0, rfl, rfl, rfl, rfl, rfl, rfl, rfl, rfl, rfl, rfl, rfl, rfl, rfl, rfl, rfl, rfl, rfl, rfl, rfl, rfl, rfl, rfl, rfl⟩
  refine ⟨ad, e0, ?_⟩
  subst e0
  subst e1
  subst e2
  subst e3
  subst e4
  subst e5
  subst e6
  subst e7
  subst e8
  subst e9
  subst e10
  subst e11
  subst e12
  subst e13
  subst e14
  subst e15
  subst e16
  subst e17
  subst e18
  subst e19
  subst e20
  subst e21
  subst e22
  rw [fm_W_k]
  rfl
set_option maxRecDepth 100000 in
set_option maxHeartbeats 4000000 in
theorem law_start {xs : Nat → Int32} {L b : Nat} {tL : ClassId} {X : cn_X} {la : Array Slot} (C : ll_C xs L b tL X) (hz : eZ (cn_s X)) (hL : L < 2 ^ 30) (hl : lv_has la 7 [(0, .ref b)]) (hcc : 200 + L / 7 ≤ (cn_R X).cells) (hss : 8000 + 6 * (L / 7) ≤ (cn_R X).slots) (hret : ∀ (pc : Nat) (la : Array Slot) (ws : va_W) (cells slots : Nat), cells ≤ (cn_R X).cells → slots ≤ (cn_R X).slots → decode b_L_law pc = .ok (.ireturn, 1) → cn_G X pc la [.int 1] ws cells slots) : cn_G X 0 la [] [] 0 0 := by
  have hf := C.2.2.2.2.2.2.1
  have ho := C.2.2.2.2.2.2.2
  refine lc_new (ci := 4) (fs := [.null, .null, .null, .null, .int 0]) C.1 d_L_law_0 (fun w h => wsL_A (usE w h)) tyE kL_E inL_E (wsL_A (iA_0 (mem_i 0 rfl))) rfl (by decide +kernel) (by omega) (by omega) (fun q => ?_)
  refine lc_dup C.1.b d_L_law_3 rfl ?_
  refine lc_init (ws := []) (y := y_E_init) (b := q) (d := 2) C.1 wsL_good (fun w h => wsL_I h) cL_30 iL_E_init rfl k_E_init eZ_call (fun U h => eZ_move h hz) (by omega) (by omega) hl.1 (Nat.le_of_ble_eq_true rfl) (by omega) (by omega) d_L_law_4 (fun w1 hw1 => ?_)
  have hw2 : ∃ ad : Nat → Nat, ad 0 = q ∧ w1 = fm_W ad (cn_tA X) shC (fun _ _ => 0) := hw1
  clear hw1
  obtain ⟨adC, e0, e1⟩ := hw2
  rw [e1]
  subst e0
  refine lc_astore_n C.1.b d_L_law_7 rfl hl (by decide) rfl (fun la1 hl1 => ?_)
  refine lc_new (ci := 5) (fs := [.int 0, .null, .null, .null, .null, .null, .null, .null, .int 0, .null, .null, .null, .null, .null, .int 0, .null, .null, .null, .null, .null, .null, .null, .int 0, .null, .int 0, .int 0, .int 0, .int 0, .null, .null]) C.1 d_L_law_8 (fun w h => wsL_A (usR w h)) tyR kL_R inL_R (wsL_A (iA_0 (mem_i 5 rfl))) rfl (by decide +kernel) (by omega) (by omega) (fun q => ?_)
  refine lc_dup C.1.b d_L_law_11 rfl ?_
  refine lc_init (y := y_R_init) (b := q) (d := 1) C.1 wsL_good (fun w h => wsL_I h) cL_33 iL_R_init rfl k_R_init (fun _ _ _ _ _ => trivial) (fun _ _ => trivial) (by omega) (by omega) hl1.1 (Nat.le_of_ble_eq_true rfl) (by omega) (by omega) d_L_law_12 (fun w1 hw1 => ?_)
  have hw2 : ∃ q1 q2 q3 q4 q5 q6 q7 q8 q9 q10 q11 q12 q13 q14 q15 q16 q17 q18 q19 q20 q21 q22, w1 = cW_R (cn_tA X) q q1 q2 q3 q4 q5 q6 q7 q8 q9 q10 q11 q12 q13 q14 q15 q16 q17 q18 q19 q20 q21 q22 := hw1
  clear hw1
  obtain ⟨q1, q2, q3, q4, q5, q6, q7, q8, q9, q10, q11, q12, q13, q14, q15, q16, q17, q18, q19, q20, q21, q22, e2⟩ := hw2
  obtain ⟨adR, e3, eR⟩ := cR_flat (cn_tA X) q q1 q2 q3 q4 q5 q6 q7 q8 q9 q10 q11 q12 q13 q14 q15 q16 q17 q18 q19 q20 q21 q22
  rw [e2, eR]
  subst e3
  refine lc_astore_n C.1.b d_L_law_15 rfl hl1 (by decide) rfl (fun la2 hl2 => ?_)
  refine lc_iconst (v := nI 1) C.1.b d_L_law_16 (by decide) ?_
  refine lc_newl C.1 d_L_law_17 aL_long rfl (by omega) (by omega) (fun o => ?_)
  refine cn_eq (ws' := ([] ++ fm_W adC (cn_tA X) shC (fun _ _ => 0)) ++ (fm_W adR (cn_tA X) shR (fun _ _ => 0) ++ [(o, .inl (tL, 1, .inr (.inl (fun _ => 0))))])) (by rw [List.append_assoc]) ?_
  refine lc_swap ?_
  refine cn_eq (ws' := LW adC adR (cn_tA X) o tL (fun _ => 0) (fun _ _ => 0) (fun _ _ => 0)) (by unfold LW hW; rw [List.nil_append, List.append_assoc]) ?_
  refine lc_astore_n C.1.b d_L_law_19 rfl hl2 (by decide) rfl (fun la3 hl3 => ?_)
  refine lc_iconst (v := nI 0) C.1.b d_L_law_20 (by decide) ?_
  refine lc_istore C.1.b d_L_law_21 hl3 (by decide) rfl (fun la4 hl4 => ?_)
  exact law_loop C hL hret (L / 7) 0 _ _ pr_0 _ _ _ la4 (by omega) (by omega) (by omega) (by omega) j_start hl4
