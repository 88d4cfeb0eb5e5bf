/-! THE CONSTRUCTOR OF EscapeMill -/
/-- behind a call: what was before, and the callee's world -/
theorem cn_join {A0 : Nat → Prop} {D : va_G} {cl : List vw_C} {ws wc w1 : va_W} {H H1 : Heap} (hP : va_P D cl (ws ++ wc) H) (hD : va_D A0 (ws ++ wc))
    (hk : ∀ q : Nat, q < H.size → ¬ va_A wc H.size q → H1[q]? = H[q]?) (hF : ∀ q, va_A wc H.size q → A0 q) (hP1 : va_P D cl w1 H1) (hD1 : va_D (va_A wc H.size) w1) : va_P D cl (ws ++ w1) H1 ∧ va_D A0 (ws ++ w1) := by
  have hL : ∀ (k : Nat) (q : Nat × va_E), ws[k]? = some q → (ws ++ wc)[k]? = some q := fun k q h => by
    rw [List.getElem?_append_left (List.getElem?_eq_some_iff.mp h).1]; exact h
  have hR : ∀ (k : Nat) (q : Nat × va_E), wc[k]? = some q → (ws ++ wc)[ws.length + k]? = some q := fun k q h => by
    rw [List.getElem?_append_right (by omega), show ws.length + k - ws.length = k by omega]; exact h
  have apart : ∀ (k : Nat) (q : Nat × va_E), ws[k]? = some q → q.1 < H.size ∧ ¬ va_A wc H.size q.1 := by
    intro k q hq
    have hl := (hP k q (hL k q hq)).lt
    refine ⟨hl, fun h => ?_⟩
    rcases h with ⟨k2, e, h⟩ | h
    · have hij := hD.1 k (ws.length + k2) q (q.1, e) (hL k q hq) (hR k2 (q.1, e) h) rfl
      have := (List.getElem?_eq_some_iff.mp hq).1
      omega
    · omega
  refine ⟨va_P.app (fun k q hq => ?_) hP1, va_D.app ⟨fun i j x y hx hy h => hD.1 i j x y (hL i x hx) (hL j y hy) h, fun k q hq => hD.2 k q (hL k q hq)⟩ (hD1.weaken (fun k q _ h => hF q.1 h)) (fun i j x y hx hy hxy => ?_)⟩
  · obtain ⟨g1, g2⟩ := apart k q hq
    exact (hP k q (hL k q hq)).kept (hk q.1 g1 g2)
  · exact (apart i x hx).2 (by rw [hxy]; exact hD1.2 j y hy)
theorem cn_last {A0 : Nat → Prop} {ws wc : va_W} (hD : va_D A0 (ws ++ wc)) : va_D A0 wc := by
  have hR : ∀ (k : Nat) (q : Nat × va_E), wc[k]? = some q → (ws ++ wc)[ws.length + k]? = some q := fun k q h => by
    rw [List.getElem?_append_right (by omega), show ws.length + k - ws.length = k by omega]; exact h
  exact ⟨fun i j x y hx hy h => by have := hD.1 _ _ x y (hR i x hx) (hR j y hy) h; omega, fun k q hq => hD.2 _ q (hR k q hq)⟩
theorem cn_lastP {D : va_G} {cl : List vw_C} {ws wc : va_W} {H : Heap} (hP : va_P D cl (ws ++ wc) H) : va_P D cl wc H := fun k q h => hP (ws.length + k) q (by
    rw [List.getElem?_append_right (by omega), show ws.length + k - ws.length = k by omega]; exact h)
theorem cn_end (ws : va_W) (x : Nat × va_E) (r : va_W) : (ws ++ x :: r)[ws.length]? = some x := by simp
theorem cn_blind {D : va_G} {tA : Nat → ClassId} {sz h0 : Nat} {Z : State → Prop} {ws : va_W} (hZb : ∀ a U g mk, Z U → Z (State.calling U g mk a)) : FrameBlind (cn_Pc D tA sz h0 Z ws) := by
  intro a U g mk q
  obtain ⟨q0, q1, qP, qK, qD, qZ⟩ := q
  exact ⟨q0, q1, qP, va_K.moved (u := U) (U := U.calling g mk a) (Vm.Alike.refl U.vm) qK, qD, hZb a U g mk qZ⟩
section CN3
variable {Ts : List Cond} {own : String} {cc : ByteArray} {n : Nat} {X : cn_X} {pc : Nat} {la : Array Slot} {st : List Value} {ws : va_W} {cells slots : Nat}
theorem cn_getr {ci j index h0 i0 : Nat} {fs : List Value} {v : Value} (C : cn_C Ts own cc n X) (hd : decode cc pc = .ok (.getfield index, 3)) (hf : fm_fl Ts own index vwA ci j) (he : ws[i0]? = some (h0, .inr (ci, fs))) (hv : fs[j]? = some v) (kk : cn_G X (pc + 3) la (v :: st) ws cells slots) : cn_G X pc la (.ref h0 :: st) ws cells slots := by
  obtain ⟨⟨p, l, e, R, s, m, args, below⟩, meth, c, D, tA, A, Q⟩ := X
  obtain ⟨hx, hb, hml, hown, hts, hK, hin, hA, hfr, hlo, hr, hlk⟩ := C
  intro H locs g2 g3 g4
  obtain ⟨C, T, n, hc, hjn, hin1, hlink, howner⟩ := hf
  exact va_get hx hb hts hin1 hown hK g2 i0 he hc j hjn (hts _ hlink) (fun x h => by rw [howner] at h; exact h) hv hd (kk H locs g2 g3 g4)
theorem cn_newq {t N index : Nat} {E : String} {k : Int32} (C : cn_C Ts own cc n X) (hd : decode cc pc = .ok (.anewarray index, 3)) (hcl : Cond.classLink own index E ∈ Ts) (hov : va_AO E X.1.2.2.2.2.1) (ht : tyA[t]? = some (.object E)) (hk : k = nI N) (hN : N < 5000) (hc : cells + 1 ≤ (cn_R X).cells) (hs : slots + N ≤ (cn_R X).slots)
    (kk : ∀ q, cn_G X (pc + 3) la (.ref q :: st) (ws ++ [(q, .inl (cn_tA X t, N, .inr (.inr (.inr (.inr (fun _ => none))))))]) (cells + 1) (slots + N)) : cn_G X pc la (.int k :: st) ws cells slots := by
  obtain ⟨⟨p, l, e, R, s, m, args, below⟩, meth, c, D, tA, A, Q⟩ := X
  obtain ⟨hx, hb, hml, hown, hts, hK, hin, hA, hfr, hlo, hr, hlk⟩ := C
  subst hk
  intro H locs g2 g3 g4
  refine va_newq hx hb hown (hts _ hcl) hov hK g2 g3 g4 hA (nI_pos (by omega)) (nI_clamp (by omega)) (by omega) hc hs hd (fun q cA H1 hK1 q1 q2 q3 => ?_)
  have hcA : cA = tA t := va_RA_uq (hK1.2 (fm_tys SC tA).length (cA, .object E) (by simp)).2 (hK.2 t _ (fm_tys_at (S := SC) (tA := tA) ht)).2
  subst hcA
  exact kk q H1 locs q1 q2 q3
theorem cn_new {ci N index : Nat} {E : String} {T : u_T} {ty : Nat → FieldType} {fs : List Value} (C : cn_C Ts own cc n X) (hd : decode cc pc = .ok (.new index, 3)) (hin1 : ∀ w ∈ u_ws E T N, w ∈ Ts) (hty : ∀ k, k < N → parseFieldDescriptor (T k).2.2.1 = some (ty k)) (hcl : Cond.classLink own index E ∈ Ts) (hinst : Cond.instantiable E N ∈ Ts) (hini : Cond.initialized E ∈ Ts) (hcv : vwA[ci]? = some (E, T, N)) (hfs : ∀ j, j < N → defaultValue (ty j) = vp_V fs j) (hc : cells + 1 ≤ (cn_R X).cells) (hs : slots + N ≤ (cn_R X).slots)
    (kk : ∀ q, cn_G X (pc + 3) la (.ref q :: st) (ws ++ [(q, .inr (ci, fs))]) (cells + 1) (slots + N)) : cn_G X pc la st ws cells slots := by
  obtain ⟨⟨p, l, e, R, s, m, args, below⟩, meth, c, D, tA, A, Q⟩ := X
  obtain ⟨hx, hb, hml, hown, hts, hK, hin, hA, hfr, hlo, hr, hlk⟩ := C
  intro H locs g2 g3 g4
  exact va_new hx hb hts hin1 ty hty hown (hts _ hcl) (hts _ hinst) (hts _ hini) hK g2 g3 g4 hA hcv hfs hc hs hd (fun q H1 q1 q2 q3 => kk q H1 locs q1 q2 q3)
theorem cn_astq {t i0 i1 ci a N b j : Nat} {r : vw_C} {vs : List Value} {f : Nat → Option Nat} {k : Int32} (C : cn_C Ts own cc n X) (hd : decode cc pc = .ok (.aastore, 1)) (ha : ws[i0]? = some (a, .inl (cn_tA X t, N, .inr (.inr (.inr (.inr f)))))) (ht : tyA[t]? = some (.object r.1)) (hv : ws[i1]? = some (b, .inr (ci, vs))) (hc : vwA[ci]? = some r) (hk : k = nI j) (hj : j < N) (hN : N < 5000)
    (kk : cn_G X (pc + 1) la st (ws.set i0 (a, .inl (cn_tA X t, N, .inr (.inr (.inr (.inr (va_up f j (some b)))))))) cells slots) : cn_G X pc la (.ref b :: .int k :: .ref a :: st) ws cells slots := by
  obtain ⟨⟨p, l, e, R, s, m, args, below⟩, meth, c, D, tA, A, Q⟩ := X
  obtain ⟨hx, hb, hml, hown, hts, hK, hin, hA, hfr, hlo, hr, hlk⟩ := C
  subst hk
  intro H locs g2 g3 g4
  have hcl : (nI j).toNatClampNeg = j := nI_clamp (by omega)
  refine va_astq hx hb hK g2 g3 g4 i0 t i1 ci ha (fm_tys_at (S := SC) (tA := tA) ht) hv hc (i := nI j) (fun z => z.elim (nI_pos (by omega)) (fun h => by rw [hcl] at h; omega)) hd (fun H1 locs1 q1 q2 q3 => ?_)
  rw [hcl] at q1 q2
  exact kk H1 locs1 q1 q2 q3
theorem cn_istore {i : Nat} {x : Int32} {k : Fin 4} {lv lv' : List (Nat × Value)} (C : cn_C Ts own cc n X) (hd : decode cc pc = .ok (.istore_n k, 1)) (hi : (k : Nat) = i) (hl : lv_has la n lv) (hn : i < n) (he : (i, Value.int x) :: lv.filter (fun q => !(q.1 == i) && !(q.1 + 1 == i && q.2.category == 2)) = lv') (kk : ∀ la1, lv_has la1 n lv' → cn_G X (pc + 1) la1 st ws cells slots) : cn_G X pc la (.int x :: st) ws cells slots := by
  obtain ⟨⟨p, l, e, R, s, m, args, below⟩, meth, c, D, tA, A, Q⟩ := X
  obtain ⟨hx, hb, -⟩ := C
  intro H locs g2 g3 g4
  exact lv_istore_n hx hb hd hi hl hn he (fun la1 hl1 => kk la1 hl1 H locs g2 g3 g4)
theorem cn_iinc {i k : Nat} {d : Int} {x v : Int32} {lv lv' : List (Nat × Value)} (C : cn_C Ts own cc n X) (hd : decode cc pc = .ok (.iinc i d, 3)) (hl : lv_has la n lv) (hk : lv[k]? = some (i, .int x)) (hv : x + Int32.ofInt d = v) (hn : i < n) (he : (i, Value.int v) :: lv.filter (fun q => !(q.1 == i) && !(q.1 + 1 == i && q.2.category == 2)) = lv') (kk : ∀ la1, lv_has la1 n lv' → cn_G X (pc + 3) la1 st ws cells slots) : cn_G X pc la st ws cells slots := by
  obtain ⟨⟨p, l, e, R, s, m, args, below⟩, meth, c, D, tA, A, Q⟩ := X
  obtain ⟨hx, hb, -⟩ := C
  intro H locs g2 g3 g4
  exact lv_iinc hx hb hd hl hk hv hn he (fun la1 hl1 => kk la1 hl1 H locs g2 g3 g4)
theorem cn_goto {off : Int} {tgt : Nat} (C : cn_C Ts own cc n X) (hd : decode cc pc = .ok (.goto off, 3)) (ht : (pc : Int) + off = (tgt : Int)) (kk : cn_G X tgt la st ws cells slots) : cn_G X pc la st ws cells slots := by
  obtain ⟨⟨p, l, e, R, s, m, args, below⟩, meth, c, D, tA, A, Q⟩ := X
  obtain ⟨hx, hb, -⟩ := C
  intro H locs g2 g3 g4
  exact lv_goto hx hb hd ht (kk H locs g2 g3 g4)
theorem cn_icmpge {x y : Int32} {off : Int} {tgt : Nat} (C : cn_C Ts own cc n X) (hd : decode cc pc = .ok (.if_icmp .ge off, 3)) (ht : (pc : Int) + off = (tgt : Int)) (kt : y ≤ x → cn_G X tgt la st ws cells slots) (kf : ¬ y ≤ x → cn_G X (pc + 3) la st ws cells slots) : cn_G X pc la (.int y :: .int x :: st) ws cells slots := by
  obtain ⟨⟨p, l, e, R, s, m, args, below⟩, meth, c, D, tA, A, Q⟩ := X
  obtain ⟨hx, hb, -⟩ := C
  intro H locs g2 g3 g4
  exact lv_icmp_ge hx hb hd ht (fun z => kt z H locs g2 g3 g4) (fun z => kf z H locs g2 g3 g4)
/-- a constructor of a nest mate is called -/
theorem cn_init {y : MethodName} {bytes : ByteArray} {d mc ms ci index b : Nat} {host : String} {fs : List Value} {Z : State → Prop} {post : (Nat → ClassId) → Nat → va_W → Prop} (C : cn_C Ts own cc n X) (hgd : Ts.all goodWord = true) (hcode : Cond.code y bytes 1 none ∈ Ts) (hini : Cond.initialized y.cls ∈ Ts) (hinm : Cond.instanceMethod y ∈ Ts) (hl : va_Nw (.methodLinkNest own index y host) X.1.2.2.2.2.1) (hy1 : y.name = "<init>") (hdc : y.cls ≠ "java/lang/invoke/MethodHandle" ∧ y.cls ≠ "java/lang/invoke/VarHandle" ∧ (parseMethodDescriptor y.desc).map (fun d => d.parameters.length) = some 0) (hM : cn_ct Ts y bytes 1 d mc ms ci fs Z post) (hZb : ∀ a U g mk, Z U → Z (State.calling U g mk a)) (hZ : ∀ U, X.1.2.2.2.2.1.WarmedH U.vm → Z U) (hdp : d + 1 ≤ (cn_R X).frames) (hlo : 20 + 64 * d ≤ (cn_R X).locals) (hsz : la.size = n) (hst8 : (st.map fun v => v.category).sum ≤ 8) (hc : cells + mc ≤ (cn_R X).cells) (hs : slots + ms ≤ (cn_R X).slots) (hd : decode cc pc = .ok (.invokespecial index, 3))
    (kk : ∀ w1, post (cn_tA X) b w1 → cn_G X (pc + 3) la st (ws ++ w1) (cells + mc) (slots + ms)) : cn_G X pc la (.ref b :: st) (ws ++ [(b, .inr (ci, fs))]) cells slots := by
  obtain ⟨⟨p, l, e, R, s, m, args, below⟩, meth, c, D, tA, A, Q⟩ := X
  obtain ⟨hx, hb, hml, hown, hts, hK, hin, hA, hf, hlo0, hr, hlk⟩ := C
  intro H locs g2 g3 g4
  have hrun := va_runIN (R := R) (e := e) (below := below) (meth := meth) (H := H) (locs := locs) (cells := cells) (slots := slots) (nL := n) (b := b) (As := []) (rest := st) (g := F0 m pc la (.ref b :: st)) ⟨hx, hb, hml, hown, hts⟩ (hM l D tA b H.size) ⟨va_cnB 0 hts (fm_good hgd hcode) rfl rfl rfl hl (hts _ hini) hdc ⟨hdp, by show 8 + (1 + 11) + 64 * d ≤ R.locals; have : 20 + 64 * d ≤ R.locals := hlo; omega⟩, hy1, hts _ hinm⟩ ⟨cn_blind hZb, fun U hU hW => ⟨rfl, by rw [hU], by rw [hU]; exact cn_lastP g2, va_K.moved hW.alike hK, (cn_last g3).weaken (fun _ _ _ _ => trivial), hZ U hW⟩⟩ rfl rfl hsz rfl (lv_room hst8) hd ⟨hc, hs⟩
  intro T hT Xs
  obtain ⟨v, st₀, t, T', L, h0, X', hL, e1, e2, ⟨⟨w1, hv, hp, hP1, hK1, hD1⟩, hz, hk⟩, stp⟩ := hrun T hT Xs
  have hv : v = none := by injection hv
  subst hv
  rw [h0] at hz hk
  have hfree : ∀ q, va_A [(b, (.inr (ci, fs) : va_E))] H.size q → A q := fun q h => by
    rcases h with ⟨k, e, h⟩ | h
    · have hk0 : k < 1 := (List.getElem?_eq_some_iff.mp h).1
      rw [show k = 0 by omega] at h
      cases h
      exact g3.2 ws.length _ (cn_end _ _ _)
    · exact hA q (Nat.le_trans g4.1 h)
  obtain ⟨j1, j2⟩ := cn_join (H1 := t.heap) g2 g3 hk hfree hP1 hD1
  obtain ⟨t2, a1, b1⟩ := kk w1 hp T'.heap (locs ++ L) (by rw [e1]; exact j1) j2 ⟨Nat.le_trans g4.1 (by rw [e1]; exact hz), fun q h1 h2 => by rw [e1, hk q (Nat.lt_of_lt_of_le h1 g4.1) (fun z => h2 (hfree q z))]; exact g4.2.1 q h1 h2, fun q hq => by
      rcases List.mem_append.mp hq with h | h
      · exact g4.2.2 q h
      · exact hfree _ (hL q h)⟩ T' rfl X'
  exact ⟨t2, stp t2 a1, b1⟩
end CN3
/-- what the tables must hold besides -/
def eZ (U : State) : Prop := va_AO nC U ∧ va_AO nF U ∧ va_AO nP U ∧ va_AOA .int U ∧ va_Nw (.methodLinkNest "EscapeMill" 29 y_M_init "EscapeMill") U ∧ va_Nw (.methodLinkNest "EscapeMill" 38 y_C_init "EscapeMill") U ∧ va_Nw (.methodLinkNest "EscapeMill" 39 y_F_init "EscapeMill") U ∧ va_Nw (.methodLinkNest "EscapeMill" 40 y_P_init "EscapeMill") U
def cEh (tA : Nat → ClassId) (h0 a1 a2 a3 mq : Nat) (f g h : Nat → Option Nat) : va_W := [(h0, .inr (4, [.ref a1, .ref a2, .ref a3, .ref mq, .int 0])), (a1, .inl (tA 2, 5, .inr (.inr (.inr (.inr f))))), (a2, .inl (tA 3, 5, .inr (.inr (.inr (.inr g))))), (a3, .inl (tA 4, 5, .inr (.inr (.inr (.inr h)))))]
theorem cE_five {ad : Nat → Nat} {k0 k1 k2 k3 k4 x0 x1 x2 x3 x4 : Nat} (h0 : ad k0 = x0) (h1 : ad k1 = x1) (h2 : ad k2 = x2) (h3 : ad k3 = x3) (h4 : ad k4 = x4) : va_up (va_up (va_up (va_up (va_up (fun _ => none) 0 (some x0)) 1 (some x1)) 2 (some x2)) 3 (some x3)) 4 (some x4) = fun i => (([k0, k1, k2, k3, k4] : List Nat)[i]?).map ad := by
  funext i
  subst h0; subst h1; subst h2; subst h3; subst h4
  match i with
  | 0 => rfl
  | 1 => rfl
  | 2 => rfl
  | 3 => rfl
  | 4 => rfl
  | j + 5 => simp [va_up]
theorem cE_two {ad : Nat → Nat} {k0 k1 : Nat} {r : Nat → Nat} (h0 : ad k0 = r 0) (h1 : ad k1 = r 1) : (fun i => if i < 2 then some (r i) else none) = fun i => (([k0, k1] : List Nat)[i]?).map ad := by
  funext i
  match i with
  | 0 => simp [h0]
  | 1 => simp [h1]
  | j + 2 => simp
/-- the world of a shape, cell by cell, field by field -/
def fm_fk (ad : Nat → Nat) (M : fm_M) (k : Nat) : Nat → List (Option Nat) → List Value
  | _, [] => []
  | j, f :: r => fm_f ad M k j f :: fm_fk ad M k (j + 1) r
theorem fm_f_k (ad : Nat → Nat) (M : fm_M) (k : Nat) : ∀ (l : List (Option Nat)) (j : Nat), l.mapIdx (fun i f => fm_f ad M k (j + i) f) = fm_fk ad M k j l
  | [], _ => rfl
  | c :: r, j => by
    rw [List.mapIdx_cons]
    have h := fm_f_k ad M k r (j + 1)
    have e : (fun (i : Nat) (f : Option Nat) => fm_f ad M k (j + (i + 1)) f) = (fun (i : Nat) (f : Option Nat) => fm_f ad M k (j + 1 + i) f) := by
      funext i f
      rw [show j + (i + 1) = j + 1 + i by omega]
    rw [e, h]
    rfl
def fm_ck (ad : Nat → Nat) (tA : Nat → ClassId) (M : fm_M) (k : Nat) (c : fm_C) : va_E := match c with
  | .inl (t, n, rf) => .inl (tA t, n, if t < 2 then .inl (M k) else .inr (.inr (.inr (.inr (fun i => (rf[i]?).map ad)))))
  | .inr (ci, l) => .inr (ci, fm_fk ad M k 0 l)
theorem fm_c_k (ad : Nat → Nat) (tA : Nat → ClassId) (M : fm_M) (k : Nat) (c : fm_C) : fm_cell ad tA M k c = fm_ck ad tA M k c := by
  rcases c with ⟨t, n, rf⟩ | ⟨ci, l⟩
  · rfl
  · have h := fm_f_k ad M k l 0
    simp only [Nat.zero_add] at h
    show (Sum.inr (ci, l.mapIdx (fm_f ad M k)) : va_E) = _
    rw [show l.mapIdx (fm_f ad M k) = fm_fk ad M k 0 l from h]
    rfl
def fm_Wk (ad : Nat → Nat) (tA : Nat → ClassId) (M : fm_M) : Nat → List fm_C → va_W
  | _, [] => []
  | k, c :: r => (ad k, fm_ck ad tA M k c) :: fm_Wk ad tA M (k + 1) r
theorem fm_W_k' (ad : Nat → Nat) (tA : Nat → ClassId) (M : fm_M) : ∀ (l : List fm_C) (k : Nat), l.mapIdx (fun i c => (ad (k + i), fm_cell ad tA M (k + i) c)) = fm_Wk ad tA M k l
  | [], _ => rfl
  | c :: r, k => by
    rw [List.mapIdx_cons]
    have h := fm_W_k' ad tA M r (k + 1)
    have e : (fun (i : Nat) (c : fm_C) => (ad (k + (i + 1)), fm_cell ad tA M (k + (i + 1)) c)) = (fun (i : Nat) (c : fm_C) => (ad (k + 1 + i), fm_cell ad tA M (k + 1 + i) c)) := by
      funext i c
      rw [show k + (i + 1) = k + 1 + i by omega]
    rw [e, h, fm_c_k]
    rfl
theorem fm_W_k {ad : Nat → Nat} {tA : Nat → ClassId} {Sh : List fm_C} {M : fm_M} : fm_W ad tA Sh M = fm_Wk ad tA M 0 Sh := by
  rw [← fm_W_k' ad tA M Sh 0]
  simp only [Nat.zero_add]
  rfl

set_option maxRecDepth 100000 in
set_option maxHeartbeats 4000000 in
theorem cE_turn {X : cn_X} {la : Array Slot} {h0 a1 a2 a3 mq i cells slots : Nat} {f g h : Nat → Option Nat} {R : va_W} (C : cn_C wsI "EscapeMill" b_E_init 2 X) (hZ : eZ X.1.2.2.2.2.1) (hl : lv_has la 2 [(1, .int (nI i)), (0, .ref h0)]) (hi : i < 5) (hRf : (cn_R X).frames = 2) (hRl : (cn_R X).locals = 128) (hc : cells + 15 ≤ (cn_R X).cells) (hs : slots + 224 ≤ (cn_R X).slots)
    (kk : ∀ (c q1 q2 q3 q4 q5 f0 r1 r2 : Nat) (r : Nat → Nat) (r3 r4 p s1 : Nat), cn_G X 90 la [] (cEh (cn_tA X) h0 a1 a2 a3 mq (va_up f i (some c)) (va_up g i (some f0)) (va_up h i (some p)) ++ (R ++ (cW_C (cn_tA X) c q1 q2 q3 q4 q5 ++ (cW_F (cn_tA X) f0 r1 r2 r r3 r4 ++ cW_P (cn_tA X) p s1)))) (cells + 15) (slots + 224)) : cn_G X 51 la [] (cEh (cn_tA X) h0 a1 a2 a3 mq f g h ++ R) cells slots := by
  refine cn_aload C d_E_init_51 rfl hl 1 rfl ?_
  refine cn_getr (i0 := 0) (v := .ref a1) C d_E_init_52 (fl_I fE_11) rfl rfl ?_
  refine cn_iload C d_E_init_55 rfl hl 0 rfl ?_
  refine cn_new (ci := 0) (fs := [.null, .null, .null, .null, .null, .int 0, .int 0]) C d_E_init_56 (fun w h => wA_in (usC w h)) tyC (wI_in (mem_i 10 rfl)) (wI_in (mem_i 15 rfl)) (wA_in (iA_0 (mem_i 2 rfl))) rfl (by decide) (by omega) (by omega) (fun c => ?_)
  refine cn_dup C d_E_init_59 rfl ?_
  refine cn_init (y := y_C_init) (b := c) C wsI_good (wI_in (mem_i 19 rfl)) (wA_in (iA_0 (mem_i 2 rfl))) (wI_in (mem_i 23 rfl)) hZ.2.2.2.2.2.1 rfl ⟨by decide, by decide, by decide +kernel⟩ k_C_init (fun _ _ _ _ _ => trivial) (fun _ _ => trivial) (by omega) (by omega) hl.1 (Nat.le_of_ble_eq_true rfl) (by omega) (by omega) d_E_init_60 (fun w1 hw1 => ?_)
  obtain ⟨q1, q2, q3, q4, q5, rfl⟩ := hw1
  refine cn_astq (t := 2) (i0 := 1) (i1 := (cEh (cn_tA X) h0 a1 a2 a3 mq f g h ++ R).length) (ci := 0) C d_E_init_63 rfl rfl (cn_end _ _ _) rfl rfl hi (by omega) ?_
  refine cn_eq (ws' := cEh (cn_tA X) h0 a1 a2 a3 mq (va_up f i (some c)) g h ++ (R ++ cW_C (cn_tA X) c q1 q2 q3 q4 q5)) (by rw [List.append_assoc]; rfl) ?_
  refine cn_aload C d_E_init_64 rfl hl 1 rfl ?_
  refine cn_getr (i0 := 0) (v := .ref a2) C d_E_init_65 (fl_I fE_17) rfl rfl ?_
  refine cn_iload C d_E_init_68 rfl hl 0 rfl ?_
  refine cn_new (ci := 1) (fs := [.null, .null, .null, .null, .int 0, .int 0, .int 0, .int 0]) C d_E_init_69 (fun w h => wA_in (usF w h)) tyF (wI_in (mem_i 11 rfl)) (wI_in (mem_i 16 rfl)) (wA_in (iA_0 (mem_i 3 rfl))) rfl (by decide) (by omega) (by omega) (fun f0 => ?_)
  refine cn_dup C d_E_init_72 rfl ?_
  refine cn_init (y := y_F_init) (b := f0) C wsI_good (wI_in (mem_i 20 rfl)) (wA_in (iA_0 (mem_i 3 rfl))) (wI_in (mem_i 24 rfl)) hZ.2.2.2.2.2.2.1 rfl ⟨by decide, by decide, by decide +kernel⟩ k_F_init (fun a U g mk h => va_AOA.moved (u := U) (U := U.calling g mk a) (Vm.Alike.refl U.vm) h) (fun U h => va_AOA.moved h.alike hZ.2.2.2.1) (by omega) (by omega) hl.1 (Nat.le_of_ble_eq_true rfl) (by omega) (by omega) d_E_init_73 (fun w1 hw1 => ?_)
  obtain ⟨r1, r2, r, r3, r4, rfl⟩ := hw1
  refine cn_astq (t := 3) (i0 := 2) (i1 := (cEh (cn_tA X) h0 a1 a2 a3 mq (va_up f i (some c)) g h ++ (R ++ cW_C (cn_tA X) c q1 q2 q3 q4 q5)).length) (ci := 1) C d_E_init_76 rfl rfl (cn_end _ _ _) rfl rfl hi (by omega) ?_
  refine cn_eq (ws' := cEh (cn_tA X) h0 a1 a2 a3 mq (va_up f i (some c)) (va_up g i (some f0)) h ++ ((R ++ cW_C (cn_tA X) c q1 q2 q3 q4 q5) ++ cW_F (cn_tA X) f0 r1 r2 r r3 r4)) (by rw [List.append_assoc]; rfl) ?_
  refine cn_aload C d_E_init_77 rfl hl 1 rfl ?_
  refine cn_getr (i0 := 0) (v := .ref a3) C d_E_init_78 (fl_I fE_23) rfl rfl ?_
  refine cn_iload C d_E_init_81 rfl hl 0 rfl ?_
  refine cn_new (ci := 3) (fs := [.null]) C d_E_init_82 (fun w h => wA_in (usP w h)) tyP (wI_in (mem_i 12 rfl)) (wI_in (mem_i 17 rfl)) (wA_in (iA_0 (mem_i 4 rfl))) rfl (by decide) (by omega) (by omega) (fun p => ?_)
  refine cn_dup C d_E_init_85 rfl ?_
  refine cn_init (y := y_P_init) (b := p) C wsI_good (wI_in (mem_i 21 rfl)) (wA_in (iA_0 (mem_i 4 rfl))) (wI_in (mem_i 25 rfl)) hZ.2.2.2.2.2.2.2 rfl ⟨by decide, by decide, by decide +kernel⟩ k_P_init (fun _ _ _ _ _ => trivial) (fun _ _ => trivial) (by omega) (by omega) hl.1 (Nat.le_of_ble_eq_true rfl) (by omega) (by omega) d_E_init_86 (fun w1 hw1 => ?_)
  obtain ⟨s1, rfl⟩ := hw1
  refine cn_astq (t := 4) (i0 := 3) (i1 := (cEh (cn_tA X) h0 a1 a2 a3 mq (va_up f i (some c)) (va_up g i (some f0)) h ++ ((R ++ cW_C (cn_tA X) c q1 q2 q3 q4 q5) ++ cW_F (cn_tA X) f0 r1 r2 r r3 r4)).length) (ci := 3) C d_E_init_89 rfl rfl (cn_end _ _ _) rfl rfl hi (by omega) ?_
  refine cn_eq (ws' := cEh (cn_tA X) h0 a1 a2 a3 mq (va_up f i (some c)) (va_up g i (some f0)) (va_up h i (some p)) ++ (((R ++ cW_C (cn_tA X) c q1 q2 q3 q4 q5) ++ cW_F (cn_tA X) f0 r1 r2 r r3 r4) ++ cW_P (cn_tA X) p s1)) (by rw [List.append_assoc]; rfl) ?_
  have z := kk c q1 q2 q3 q4 q5 f0 r1 r2 r r3 r4 p s1
  rw [← List.append_assoc (cW_C _ _ _ _ _ _ _), ← List.append_assoc R, ← List.append_assoc R] at z
  exact z
set_option maxRecDepth 100000 in
theorem cE_pass {X : cn_X} {la : Array Slot} {h0 a1 a2 a3 mq i cells slots : Nat} {f g h : Nat → Option Nat} {R : va_W} (C : cn_C wsI "EscapeMill" b_E_init 2 X) (hZ : eZ X.1.2.2.2.2.1) (hl : lv_has la 2 [(1, .int (nI i)), (0, .ref h0)]) (hi : i < 5) (hRf : (cn_R X).frames = 2) (hRl : (cn_R X).locals = 128) (hc : cells + 15 ≤ (cn_R X).cells) (hs : slots + 224 ≤ (cn_R X).slots)
    (kk : ∀ (la1 : Array Slot) (c q1 q2 q3 q4 q5 f0 r1 r2 : Nat) (r : Nat → Nat) (r3 r4 p s1 : Nat), lv_has la1 2 [(1, .int (nI (i + 1))), (0, .ref h0)] → cn_G X 46 la1 [] (cEh (cn_tA X) h0 a1 a2 a3 mq (va_up f i (some c)) (va_up g i (some f0)) (va_up h i (some p)) ++ (R ++ (cW_C (cn_tA X) c q1 q2 q3 q4 q5 ++ (cW_F (cn_tA X) f0 r1 r2 r r3 r4 ++ cW_P (cn_tA X) p s1)))) (cells + 15) (slots + 224)) : cn_G X 46 la [] (cEh (cn_tA X) h0 a1 a2 a3 mq f g h ++ R) cells slots := by
  refine cn_iload C d_E_init_46 rfl hl 0 rfl ?_
  refine cn_iconst (v := 5) C d_E_init_47 (by decide) ?_
  refine cn_icmpge (tgt := 96) C d_E_init_48 (by decide) (fun z => absurd z (lt5 (Q := fun i => ¬ (5 : Int32) ≤ nI i) (by decide) (by decide) (by decide) (by decide) (by decide) i hi)) (fun _ => ?_)
  refine cE_turn C hZ hl hi hRf hRl hc hs (fun c q1 q2 q3 q4 q5 f0 r1 r2 r r3 r4 p s1 => ?_)
  refine cn_iinc (v := nI (i + 1)) C d_E_init_90 hl (k := 0) rfl (lt5 (Q := fun i => nI i + Int32.ofInt 1 = nI (i + 1)) (by decide) (by decide) (by decide) (by decide) (by decide) i hi) (by decide) rfl (fun la1 hl1 => ?_)
  refine cn_goto (tgt := 46) C d_E_init_93 (by decide) ?_
  exact kk la1 c q1 q2 q3 q4 q5 f0 r1 r2 r r3 r4 p s1 hl1
set_option maxRecDepth 100000 in
set_option maxHeartbeats 4000000 in
theorem cE_flat (tA : Nat → ClassId) (h0 a1 a2 a3 mq m1 m2 m3 m4 m5 m6 m7 m8 m9 m10 : Nat) (c_0 q1_0 q2_0 q3_0 q4_0 q5_0 f0_0 r1_0 r2_0 r3_0 r4_0 p_0 s1_0 : Nat) (r_0 : Nat → Nat) (c_1 q1_1 q2_1 q3_1 q4_1 q5_1 f0_1 r1_1 r2_1 r3_1 r4_1 p_1 s1_1 : Nat) (r_1 : Nat → Nat) (c_2 q1_2 q2_2 q3_2 q4_2 q5_2 f0_2 r1_2 r2_2 r3_2 r4_2 p_2 s1_2 : Nat) (r_2 : Nat → Nat) (c_3 q1_3 q2_3 q3_3 q4_3 q5_3 f0_3 r1_3 r2_3 r3_3 r4_3 p_3 s1_3 : Nat) (r_3 : Nat → Nat) (c_4 q1_4 q2_4 q3_4 q4_4 q5_4 f0_4 r1_4 r2_4 r3_4 r4_4 p_4 s1_4 : Nat) (r_4 : Nat → Nat) : ∃ ad : Nat → Nat, ad 0 = h0 ∧ cEh tA h0 a1 a2 a3 mq (va_up (va_up (va_up (va_up (va_up (fun _ => none) 0 (some c_0)) 1 (some c_1)) 2 (some c_2)) 3 (some c_3)) 4 (some c_4)) (va_up (va_up (va_up (va_up (va_up (fun _ => none) 0 (some f0_0)) 1 (some f0_1)) 2 (some f0_2)) 3 (some f0_3)) 4 (some f0_4)) (va_up (va_up (va_up (va_up (va_up (fun _ => none) 0 (some p_0)) 1 (some p_1)) 2 (some p_2)) 3 (some p_3)) 4 (some p_4)) ++ (((((cW_M tA mq m1 m2 m3 m4 m5 m6 m7 m8 m9 m10 ++ (cW_C tA c_0 q1_0 q2_0 q3_0 q4_0 q5_0 ++ (cW_F tA f0_0 r1_0 r2_0 r_0 r3_0 r4_0 ++ cW_P tA p_0 s1_0))) ++ (cW_C tA c_1 q1_1 q2_1 q3_1 q4_1 q5_1 ++ (cW_F tA f0_1 r1_1 r2_1 r_1 r3_1 r4_1 ++ cW_P tA p_1 s1_1))) ++ (cW_C tA c_2 q1_2 q2_2 q3_2 q4_2 q5_2 ++ (cW_F tA f0_2 r1_2 r2_2 r_2 r3_2 r4_2 ++ cW_P tA p_2 s1_2))) ++ (cW_C tA c_3 q1_3 q2_3 q3_3 q4_3 q5_3 ++ (cW_F tA f0_3 r1_3 r2_3 r_3 r3_3 r4_3 ++ cW_P tA p_3 s1_3))) ++ (cW_C tA c_4 q1_4 q2_4 q3_4 q4_4 q5_4 ++ (cW_F tA f0_4 r1_4 r2_4 r_4 r3_4 r4_4 ++ cW_P tA p_4 s1_4))) = fm_W ad tA shC (fun _ _ => 0) := by
  obtain ⟨ad, e0, e1, e2, e3, e4, e5, e6, e7, e8, e9, e10, e11, e12, e13, e14, e15, e16, e17, e18, e19, e20, e21, e22, e23, e24, e25, e26, e27, e28, e29, e30, e31, e32, e33, e34, e35, e36, e37, e38, e39, e40, e41, e42, e43, e44, e45, e46, e47, e48, e49, e50, e51, e52, e53, e54, e55, e56, e57, e58, e59, e60, e61, e62, e63, e64, e65, e66, e67, e68, e69, e70, e71, e72, e73, e74, e75, e76, e77, e78, e79, e80, e81, e82, e83, e84, e85, e86, e87, e88, e89⟩ : ∃ ad : Nat → Nat, ad 0 = h0 ∧ ad 1 = a1 ∧ ad 2 = a2 ∧ ad 3 = a3 ∧ ad 4 = mq ∧ ad 5 = m1 ∧ ad 6 = m2 ∧ ad 7 = m3 ∧ ad 8 = m4 ∧ ad 9 = m5 ∧ ad 10 = m6 ∧ ad 11 = m7 ∧ ad 12 = m8 ∧ ad 13 = m9 ∧ ad 14 = m10 ∧ ad 15 = c_0 ∧ ad 16 = q1_0 ∧ ad 17 = q2_0 ∧ ad 18 = q3_0 ∧ ad 19 = q4_0 ∧ ad 20 = q5_0 ∧ ad 21 = f0_0 ∧ ad 22 = r1_0 ∧ ad 23 = r2_0 ∧ ad 24 = (r_0 0) ∧ ad 25 = (r_0 1) ∧ ad 26 = r3_0 ∧ ad 27 = r4_0 ∧ ad 28 = p_0 ∧ ad 29 = s1_0 ∧ ad 30 = c_1 ∧ ad 31 = q1_1 ∧ ad 32 = q2_1 ∧ ad 33 = q3_1 ∧ ad 34 = q4_1 ∧ ad 35 = q5_1 ∧ ad 36 = f0_1 ∧ ad 37 = r1_1 ∧ ad 38 = r2_1 ∧ ad 39 = (r_1 0) ∧ ad 40 = (r_1 1) ∧ ad 41 = r3_1 ∧ ad 42 = r4_1 ∧ ad 43 = p_1 ∧ ad 44 = s1_1 ∧ ad 45 = c_2 ∧ ad 46 = q1_2 ∧ ad 47 = q2_2 ∧ ad 48 = q3_2 ∧ ad 49 = q4_2 ∧ ad 50 = q5_2 ∧ ad 51 = f0_2 ∧ ad 52 = r1_2 ∧ ad 53 = r2_2 ∧ ad 54 = (r_2 0) ∧ ad 55 = (r_2 1) ∧ ad 56 = r3_2 ∧ ad 57 = r4_2 ∧ ad 58 = p_2 ∧ ad 59 = s1_2 ∧ ad 60 = c_3 ∧ ad 61 = q1_3 ∧ ad 62 = q2_3 ∧ ad 63 = q3_3 ∧ ad 64 = q4_3 ∧ ad 65 = q5_3 ∧ ad 66 = f0_3 ∧ ad 67 = r1_3 ∧ ad 68 = r2_3 ∧ ad 69 = (r_3 0) ∧ ad 70 = (r_3 1) ∧ ad 71 = r3_3 ∧ ad 72 = r4_3 ∧ ad 73 = p_3 ∧ ad 74 = s1_3 ∧ ad 75 = c_4 ∧ ad 76 = q1_4 ∧ ad 77 = q2_4 ∧ ad 78 = q3_4 ∧ ad 79 = q4_4 ∧ ad 80 = q5_4 ∧ ad 81 = f0_4 ∧ ad 82 = r1_4 ∧ ad 83 = r2_4 ∧ ad 84 = (r_4 0) ∧ ad 85 = (r_4 1) ∧ ad 86 = r3_4 ∧ ad 87 = r4_4 ∧ ad 88 = p_4 ∧ ad 89 = s1_4 := ⟨fun k => ([h0, a1, a2, a3, mq, m1, m2, m3, m4, m5, m6, m7, m8, m9, m10, c_0, q1_0, q2_0, q3_0, q4_0, q5_0, f0_0, r1_0, r2_0, (r_0 0), (r_0 1), r3_0, r4_0, p_0, s1_0, c_1, q1_1, q2_1, q3_1, q4_1, q5_1, f0_1, r1_1, r2_1, (r_1 0), (r_1 1), r3_1, r4_1, p_1, s1_1, c_2, q1_2, q2_2, q3_2, q4_2, q5_2, f0_2, r1_2, r2_2, (r_2 0), (r_2 1), r3_2, r4_2, p_2, s1_2, c_3, q1_3, q2_3, q3_3, q4_3, q5_3, f0_3, r1_3, r2_3, (r_3 0), (r_3 1), r3_3, r4_3, p_3, s1_3, c_4, q1_4, q2_4, q3_4, q4_4, q5_4, f0_4, r1_4, r2_4, (r_4 0), (r_4 1), r3_4, r4_4, p_4, s1_4] : List Nat).getD k 0, rfl, rfl, rfl, rfl, rfl, rfl, rfl, rfl, rfl, rfl, rfl, rfl, rfl, rfl, rfl, rfl, rfl, rfl, rfl, rfl, rfl, rfl, rfl, rfl, rfl, rfl, rfl, rfl, rfl, rfl, rfl, rfl, rfl, rfl, rfl, rfl, rfl, rfl, rfl, rfl, rfl, rfl, rfl, rfl, rfl, rfl, rfl, rfl, rfl, rfl, rfl, rfl, rfl, rfl, rfl, rfl, rfl, rfl, rfl, rfl, rfl, rfl, rfl, rfl, rfl, rfl, rfl, rfl, rfl, rfl, rfl, rfl, rfl, rfl, rfl, rfl, rfl, rfl, rfl, rfl, rfl, rfl, rfl, rfl, rfl, rfl, rfl, rfl, rfl, rfl⟩
  refine ⟨ad, e0, ?_⟩
  rw [cE_five (ad := ad) (k0 := kC 0) (k1 := kC 1) (k2 := kC 2) (k3 := kC 3) (k4 := kC 4) e15 e30 e45 e60 e75]
  rw [cE_five (ad := ad) (k0 := kF 0) (k1 := kF 1) (k2 := kF 2) (k3 := kF 3) (k4 := kF 4) e21 e36 e51 e66 e81]
  rw [cE_five (ad := ad) (k0 := kPl 0) (k1 := kPl 1) (k2 := kPl 2) (k3 := kPl 3) (k4 := kPl 4) e28 e43 e58 e73 e88]
  unfold cW_F
  rw [cE_two (ad := ad) (r := r_0) (k0 := kFr 0 0) (k1 := kFr 0 1) e24 e25, ← e24, ← e25]
  rw [cE_two (ad := ad) (r := r_1) (k0 := kFr 1 0) (k1 := kFr 1 1) e39 e40, ← e39, ← e40]
  rw [cE_two (ad := ad) (r := r_2) (k0 := kFr 2 0) (k1 := kFr 2 1) e54 e55, ← e54, ← e55]
  rw [cE_two (ad := ad) (r := r_3) (k0 := kFr 3 0) (k1 := kFr 3 1) e69 e70, ← e69, ← e70]
  rw [cE_two (ad := ad) (r := r_4) (k0 := kFr 4 0) (k1 := kFr 4 1) e84 e85, ← e84, ← e85]
  subst e0
  subst e1
  subst e2
  subst e3
  subst e4
  subst e5
  subst e6
  subst e7
  subst e8
  subst e9
  subst e10
  subst e11
  subst e12
  subst e13
  subst e14
  subst e15
  subst e16
  subst e17
  subst e18
  subst e19
  subst e20
  subst e21
  subst e22
  subst e23
  subst e26
  subst e27
  subst e28
  subst e29
  subst e30
  subst e31
  subst e32
  subst e33
  subst e34
  subst e35
  subst e36
  subst e37
  subst e38
  subst e41
  subst e42
  subst e43
  subst e44
  subst e45
  subst e46
  subst e47
  subst e48
  subst e49
  subst e50
  subst e51
  subst e52
  subst e53
  subst e56
  subst e57
  subst e58
  subst e59
  subst e60
  subst e61
  subst e62
  subst e63
  subst e64
  subst e65
  subst e66
  subst e67
  subst e68
  subst e71
  subst e72
  subst e73
  subst e74
  subst e75
  subst e76
  subst e77
  subst e78
  subst e79
  subst e80
  subst e81
  subst e82
  subst e83
  subst e86
  subst e87
  subst e88
  subst e89
  rw [fm_W_k]
  rfl
set_option maxRecDepth 100000 in
set_option maxHeartbeats 4000000 in
theorem k_E_init : cn_ct wsI y_E_init b_E_init 2 2 89 3440 4 [.null, .null, .null, .null, .int 0] eZ (fun tA h0 ws => ∃ ad : Nat → Nat, ad 0 = h0 ∧ ws = fm_W ad tA shC (fun _ _ => 0)) := by
  refine cn_of (by decide) rfl (by decide) (by decide) ?_
  intro X la h0 C hl hR hZ hret
  have hRc : (cn_R X).cells = 89 := by rw [hR]; rfl
  have hRs : (cn_R X).slots = 3440 := by rw [hR]; rfl
  have hRf : (cn_R X).frames = 2 := by rw [hR]; rfl
  have hRl : (cn_R X).locals = 128 := by rw [hR]; rfl
  refine cn_aload C d_E_init_0 rfl hl 0 rfl ?_
  refine cn_obj C d_E_init_1 (wI_in (mem_i 4 rfl)) (wI_in (mem_i 6 rfl)) (wI_in (mem_i 7 rfl)) hl.1 ?_
  refine cn_aload C d_E_init_4 rfl hl 0 rfl ?_
  refine cn_iconst (v := 5) C d_E_init_5 (by decide) ?_
  refine cn_newq (t := 2) (N := 5) C d_E_init_6 (wI_in (mem_i 10 rfl)) hZ.1 rfl (by decide) (by omega) (by omega) (by omega) (fun a1 => ?_)
  refine cn_putF (i0 := 0) (ty := .array (.object "EscapeMill$Code")) C d_E_init_9 (fl_I fE_11) ⟨nE, tE, 5, uE, rfl, tyE, nmE, rfl, rfl, rfl⟩ rfl (Nat.le_of_ble_eq_true rfl) rfl rfl ?_
  refine cn_eq (ws' := [(h0, .inr (4, [.ref a1, .null, .null, .null, .int 0])), (a1, .inl (cn_tA X 2, 5, .inr (.inr (.inr (.inr (fun _ => none))))))]) rfl ?_
  refine cn_aload C d_E_init_12 rfl hl 0 rfl ?_
  refine cn_iconst (v := 5) C d_E_init_13 (by decide) ?_
  refine cn_newq (t := 3) (N := 5) C d_E_init_14 (wI_in (mem_i 11 rfl)) hZ.2.1 rfl (by decide) (by omega) (by omega) (by omega) (fun a2 => ?_)
  refine cn_putF (i0 := 0) (ty := .array (.object "EscapeMill$Facts")) C d_E_init_17 (fl_I fE_17) ⟨nE, tE, 5, uE, rfl, tyE, nmE, rfl, rfl, rfl⟩ rfl (Nat.le_of_ble_eq_true rfl) rfl rfl ?_
  refine cn_eq (ws' := [(h0, .inr (4, [.ref a1, .ref a2, .null, .null, .int 0])), (a1, .inl (cn_tA X 2, 5, .inr (.inr (.inr (.inr (fun _ => none)))))), (a2, .inl (cn_tA X 3, 5, .inr (.inr (.inr (.inr (fun _ => none))))))]) rfl ?_
  refine cn_aload C d_E_init_20 rfl hl 0 rfl ?_
  refine cn_iconst (v := 5) C d_E_init_21 (by decide) ?_
  refine cn_newq (t := 4) (N := 5) C d_E_init_22 (wI_in (mem_i 12 rfl)) hZ.2.2.1 rfl (by decide) (by omega) (by omega) (by omega) (fun a3 => ?_)
  refine cn_putF (i0 := 0) (ty := .array (.object "EscapeMill$Plan")) C d_E_init_25 (fl_I fE_23) ⟨nE, tE, 5, uE, rfl, tyE, nmE, rfl, rfl, rfl⟩ rfl (Nat.le_of_ble_eq_true rfl) rfl rfl ?_
  refine cn_eq (ws' := [(h0, .inr (4, [.ref a1, .ref a2, .ref a3, .null, .int 0])), (a1, .inl (cn_tA X 2, 5, .inr (.inr (.inr (.inr (fun _ => none)))))), (a2, .inl (cn_tA X 3, 5, .inr (.inr (.inr (.inr (fun _ => none)))))), (a3, .inl (cn_tA X 4, 5, .inr (.inr (.inr (.inr (fun _ => none))))))]) rfl ?_
  refine cn_aload C d_E_init_28 rfl hl 0 rfl ?_
  refine cn_new (ci := 2) (fs := [.null, .null, .null, .null, .null, .null, .null, .null, .null, .int 0, .null, .int 0, .int 0, .int 0, .int 0, .int 0]) C d_E_init_29 (fun w h => wA_in (usM w h)) tyM (wI_in (mem_i 13 rfl)) (wI_in (mem_i 18 rfl)) (wA_in (iA_0 (mem_i 1 rfl))) rfl (by decide) (by omega) (by omega) (fun mq => ?_)
  refine cn_dup C d_E_init_32 rfl ?_
  refine cn_init (y := y_M_init) (b := mq) C wsI_good (wI_in (mem_i 22 rfl)) (wA_in (iA_0 (mem_i 1 rfl))) (wI_in (mem_i 26 rfl)) hZ.2.2.2.2.1 rfl ⟨by decide, by decide, by decide +kernel⟩ k_M_init (fun _ _ _ _ _ => trivial) (fun _ _ => trivial) (by omega) (by omega) hl.1 (Nat.le_of_ble_eq_true rfl) (by omega) (by omega) d_E_init_33 (fun w1 hw1 => ?_)
  obtain ⟨m1, m2, m3, m4, m5, m6, m7, m8, m9, m10, rfl⟩ := hw1
  refine cn_putF (i0 := 0) (ty := .object "EscapeMill$Machine") C d_E_init_36 (fl_I fE_30) ⟨nE, tE, 5, uE, rfl, tyE, nmE, rfl, rfl, rfl⟩ rfl (Nat.le_of_ble_eq_true rfl) rfl rfl ?_
  refine cn_eq (ws' := cEh (cn_tA X) h0 a1 a2 a3 mq (fun _ => none) (fun _ => none) (fun _ => none) ++ cW_M (cn_tA X) mq m1 m2 m3 m4 m5 m6 m7 m8 m9 m10) rfl ?_
  refine cn_aload C d_E_init_39 rfl hl 0 rfl ?_
  refine cn_iconst (v := 0) C d_E_init_40 (by decide) ?_
  refine cn_puti (i0 := 0) C d_E_init_41 (fl_I fE_34) pE_4 rfl (Nat.le_of_ble_eq_true rfl) (by decide) (by decide) ?_
  refine cn_eq (ws' := cEh (cn_tA X) h0 a1 a2 a3 mq (fun _ => none) (fun _ => none) (fun _ => none) ++ cW_M (cn_tA X) mq m1 m2 m3 m4 m5 m6 m7 m8 m9 m10) rfl ?_
  refine cn_iconst (v := nI 0) C d_E_init_44 (by decide) ?_
  refine cn_istore C d_E_init_45 rfl hl (by decide) rfl (fun la0 hl0 => ?_)
  refine cE_pass (i := 0) C hZ hl0 (by omega) hRf hRl (by omega) (by omega) (fun la1 c_0 q1_0 q2_0 q3_0 q4_0 q5_0 f0_0 r1_0 r2_0 r_0 r3_0 r4_0 p_0 s1_0 hl1 => ?_)
  refine cE_pass (i := 1) C hZ hl1 (by omega) hRf hRl (by omega) (by omega) (fun la2 c_1 q1_1 q2_1 q3_1 q4_1 q5_1 f0_1 r1_1 r2_1 r_1 r3_1 r4_1 p_1 s1_1 hl2 => ?_)
  refine cE_pass (i := 2) C hZ hl2 (by omega) hRf hRl (by omega) (by omega) (fun la3 c_2 q1_2 q2_2 q3_2 q4_2 q5_2 f0_2 r1_2 r2_2 r_2 r3_2 r4_2 p_2 s1_2 hl3 => ?_)
  refine cE_pass (i := 3) C hZ hl3 (by omega) hRf hRl (by omega) (by omega) (fun la4 c_3 q1_3 q2_3 q3_3 q4_3 q5_3 f0_3 r1_3 r2_3 r_3 r3_3 r4_3 p_3 s1_3 hl4 => ?_)
  refine cE_pass (i := 4) C hZ hl4 (by omega) hRf hRl (by omega) (by omega) (fun la5 c_4 q1_4 q2_4 q3_4 q4_4 q5_4 f0_4 r1_4 r2_4 r_4 r3_4 r4_4 p_4 s1_4 hl5 => ?_)
  refine cn_iload C d_E_init_46 rfl hl5 0 rfl ?_
  refine cn_iconst (v := 5) C d_E_init_47 (by decide) ?_
  refine cn_icmpge (tgt := 96) C d_E_init_48 (by decide) (fun _ => ?_) (fun z => absurd (by decide) z)
  exact hret _ _ _ _ (by omega) (by omega) d_E_init_96 (cE_flat (cn_tA X) h0 a1 a2 a3 mq m1 m2 m3 m4 m5 m6 m7 m8 m9 m10 c_0 q1_0 q2_0 q3_0 q4_0 q5_0 f0_0 r1_0 r2_0 r3_0 r4_0 p_0 s1_0 r_0 c_1 q1_1 q2_1 q3_1 q4_1 q5_1 f0_1 r1_1 r2_1 r3_1 r4_1 p_1 s1_1 r_1 c_2 q1_2 q2_2 q3_2 q4_2 q5_2 f0_2 r1_2 r2_2 r3_2 r4_2 p_2 s1_2 r_2 c_3 q1_3 q2_3 q3_3 q4_3 q5_3 f0_3 r1_3 r2_3 r3_3 r4_3 p_3 s1_3 r_3 c_4 q1_4 q2_4 q3_4 q4_4 q5_4 f0_4 r1_4 r2_4 r3_4 r4_4 p_4 s1_4 r_4) _
