/-! CONSTRUCTORS: a world that grows, its addresses as they come -/
theorem va_RA_uq {U : State} {c1 c2 : ClassId} {ty : FieldType} (h1 : va_RA U c1 ty) (h2 : va_RA U c2 ty) : c1 = c2 := by
  cases ty with
  | object C =>
    obtain ⟨_, _, _, _, _, a⟩ := h1
    obtain ⟨_, _, _, _, _, b⟩ := h2
    exact Option.some.inj (a.symm.trans b)
  | _ => exact Option.some.inj ((show U.vm.findClass _ = some c1 from h1).symm.trans (show U.vm.findClass _ = some c2 from h2))
/-- where a constructor's walk stands -/
abbrev cn_X : Type _ := (Program × Launch × Env × Room × State × MethodId × Array Value × List Frame) × (Method × Code × va_G × (Nat → ClassId) × (Nat → Prop) × (State → Prop))
def cn_G (X : cn_X) (pc : Nat) (la : Array Slot) (st : List Value) (ws : va_W) (cells slots : Nat) : Prop := match X with
  | ((p, l, e, R, s, m, args, below), (meth, c, D, tA, A, Q)) => ∀ (H : Heap) (locs : List Loc), va_P D vwA ws H → va_D A ws → va_S A s.heap H locs → W p l e R s m args below meth c H locs cells slots Q (F0 m pc la st)
def cn_C (Ts : List Cond) (own : String) (cc : ByteArray) (n : Nat) (X : cn_X) : Prop := match X with
  | ((p, l, e, R, s, m, args, below), (meth, c, D, tA, A, Q)) => p.tables.exec = Jvm.exec ∧ c.code = cc ∧ c.maxLocals = n ∧ s.vm.findClass own = some m.cls ∧ (∀ w ∈ Ts, w.before args s = true) ∧ va_K D vwA (fm_tys SC tA) s ∧ meth.name = "<init>" ∧ (∀ q, s.heap.size ≤ q → A q) ∧ 1 ≤ R.frames ∧ 24 ≤ R.locals ∧ meth.sig.returnType = none ∧ meth.locks = false
abbrev cn_R (X : cn_X) : Room := X.1.2.2.2.1
abbrev cn_tA (X : cn_X) : Nat → ClassId := X.2.2.2.2.1
section CN
variable {Ts : List Cond} {own : String} {cc : ByteArray} {n : Nat} {X : cn_X} {pc : Nat} {la : Array Slot} {st : List Value} {ws : va_W} {cells slots : Nat}
theorem cn_eq {ws' : va_W} (h : ws = ws') (k : cn_G X pc la st ws' cells slots) : cn_G X pc la st ws cells slots := h ▸ k
theorem cn_aload {i h0 : Nat} {k : Fin 4} {lv : List (Nat × Value)} (C : cn_C Ts own cc n X) (hd : decode cc pc = .ok (.aload_n k, 1)) (hi : (k : Nat) = i) (hl : lv_has la n lv) (j : Nat) (hj : lv[j]? = some (i, .ref h0)) (kk : cn_G X (pc + 1) la (.ref h0 :: st) ws cells slots) : cn_G X pc la st ws cells slots := by
  obtain ⟨⟨p, l, e, R, s, m, args, below⟩, meth, c, D, tA, A, Q⟩ := X
  obtain ⟨hx, hb, -⟩ := C
  intro H locs h2 h3 h4
  exact lv_aload_n hx hb hd hi (lv_at hl j hj) (kk H locs h2 h3 h4)
theorem cn_iload {i : Nat} {x : Int32} {k : Fin 4} {lv : List (Nat × Value)} (C : cn_C Ts own cc n X) (hd : decode cc pc = .ok (.iload_n k, 1)) (hi : (k : Nat) = i) (hl : lv_has la n lv) (j : Nat) (hj : lv[j]? = some (i, .int x)) (kk : cn_G X (pc + 1) la (.int x :: st) ws cells slots) : cn_G X pc la st ws cells slots := by
  obtain ⟨⟨p, l, e, R, s, m, args, below⟩, meth, c, D, tA, A, Q⟩ := X
  obtain ⟨hx, hb, -⟩ := C
  intro H locs h2 h3 h4
  exact lv_iload_n hx hb hd hi (lv_at hl j hj) (kk H locs h2 h3 h4)
theorem cn_iconst {k : Int} {v : Int32} (C : cn_C Ts own cc n X) (hd : decode cc pc = .ok (.iconst k, 1)) (hv : Int32.ofInt k = v) (kk : cn_G X (pc + 1) la (.int v :: st) ws cells slots) : cn_G X pc la st ws cells slots := by
  obtain ⟨⟨p, l, e, R, s, m, args, below⟩, meth, c, D, tA, A, Q⟩ := X
  obtain ⟨hx, hb, -⟩ := C
  intro H locs h2 h3 h4
  exact lv_iconst hx hb hd hv (kk H locs h2 h3 h4)
theorem cn_bipush {k : Int} {v : Int32} (C : cn_C Ts own cc n X) (hd : decode cc pc = .ok (.bipush k, 2)) (hv : (Int8.ofInt k).toInt32 = v) (kk : cn_G X (pc + 2) la (.int v :: st) ws cells slots) : cn_G X pc la st ws cells slots := by
  obtain ⟨⟨p, l, e, R, s, m, args, below⟩, meth, c, D, tA, A, Q⟩ := X
  obtain ⟨hx, hb, -⟩ := C
  intro H locs h2 h3 h4
  exact lv_bipush hx hb hd hv (kk H locs h2 h3 h4)
theorem cn_sipush {k : Int} {v : Int32} (C : cn_C Ts own cc n X) (hd : decode cc pc = .ok (.sipush k, 3)) (hv : (Int16.ofInt k).toInt32 = v) (kk : cn_G X (pc + 3) la (.int v :: st) ws cells slots) : cn_G X pc la st ws cells slots := by
  obtain ⟨⟨p, l, e, R, s, m, args, below⟩, meth, c, D, tA, A, Q⟩ := X
  obtain ⟨hx, hb, -⟩ := C
  intro H locs h2 h3 h4
  exact lv_sipush hx hb hd hv (kk H locs h2 h3 h4)
theorem cn_dup {v : Value} (C : cn_C Ts own cc n X) (hd : decode cc pc = .ok (.dup, 1)) (hv : v.category = 1) (kk : cn_G X (pc + 1) la (v :: v :: st) ws cells slots) : cn_G X pc la (v :: st) ws cells slots := by
  obtain ⟨⟨p, l, e, R, s, m, args, below⟩, meth, c, D, tA, A, Q⟩ := X
  obtain ⟨hx, hb, -⟩ := C
  intro H locs h2 h3 h4
  exact lv_dup hx hb hd hv (kk H locs h2 h3 h4)
theorem cn_obj {h0 idx : Nat} (C : cn_C Ts own cc n X) (hd : decode cc pc = .ok (.invokespecial idx, 3)) (h1 : Cond.methodLink own idx objectInit ∈ Ts) (h2 : Cond.instanceMethod objectInit ∈ Ts) (h3 : Cond.code objectInit ⟨#[0xb1]⟩ 1 none ∈ Ts) (hs : la.size = n) (kk : cn_G X (pc + 3) la [] ws cells slots) : cn_G X pc la [.ref h0] ws cells slots := by
  obtain ⟨⟨p, l, e, R, s, m, args, below⟩, meth, c, D, tA, A, Q⟩ := X
  obtain ⟨hx, hb, hml, hown, hts, hK, hin, hA, hf, hlo, hr, hlk⟩ := C
  intro H locs g2 g3 g4
  refine W.objInit hx hb hown (hts _ h1) (hts _ h2) (hts _ h3) rfl (by rw [hml]; exact hs) rfl hd hf (Nat.le_trans (Nat.le_of_ble_eq_true rfl) hlo) ?_
  refine W.eq (g2 := F0 m (pc + 3) la []) rfl ?_
  exact kk H locs g2 g3 g4
/-- a new array of numbers -/
theorem cn_newa {atype : ArrayType} {t N : Nat} {ty : FieldType} {k : Int32} (C : cn_C Ts own cc n X) (hd : decode cc pc = .ok (.newarray atype, 2)) (hty : newarray.typeOf atype = ty) (ht : tyA[t]? = some ty) (hw : Cond.arrayClass ty ∈ Ts) (hk : k = nI N) (hN : N < 5000) (hb1 : ty = .int ∨ ty = .boolean) (hc : cells + 1 ≤ (cn_R X).cells) (hs : slots + N ≤ (cn_R X).slots)
    (kk : ∀ q, cn_G X (pc + 2) la (.ref q :: st) (ws ++ [(q, .inl (cn_tA X t, N, .inl (fun _ => 0)))]) (cells + 1) (slots + N)) : cn_G X pc la (.int k :: st) ws cells slots := by
  obtain ⟨⟨p, l, e, R, s, m, args, below⟩, meth, c, D, tA, A, Q⟩ := X
  obtain ⟨hx, hb, hml, hown, hts, hK, hin, hA, hf, hlo, hr, hlk⟩ := C
  subst hk
  intro H locs g2 g3 g4
  have hn0 : ¬ nI N < 0 := nI_pos (by omega)
  have hcl : (nI N).toNatClampNeg = N := nI_clamp (by omega)
  have hby : N * componentBytes ty ≤ 536870912 := by
    rcases hb1 with e | e <;> subst e
    · show N * 4 ≤ _; omega
    · show N * 1 ≤ _; omega
  refine va_newa (a0 := (N, .inl (fun _ => 0))) hx hb (by rw [hty]; exact hts _ hw) hty hK g2 g3 g4 hA (fun cA => by rcases hb1 with e | e <;> subst e <;> rfl) hn0 hcl hby hc hs hd (fun q cA H1 hK1 q1 q2 q3 => ?_)
  have hcA : cA = tA t := va_RA_uq (hK1.2 (fm_tys SC tA).length (cA, ty) (by simp)).2 (hK.2 t _ (fm_tys_at (S := SC) (tA := tA) ht)).2
  subst hcA
  exact kk q H1 locs q1 q2 q3
/-- a final reference, set -/
theorem cn_putF {ci j index h0 q i0 : Nat} {fs : List Value} {ty : FieldType} (C : cn_C Ts own cc n X) (hd : decode cc pc = .ok (.putfield index, 3)) (hf : fm_fl Ts own index vwA ci j) (hp : ∃ (C : String) (T : u_T) (n : Nat) (ty0 : Nat → FieldType), vwA[ci]? = some (C, T, n) ∧ (∀ k, k < n → parseFieldDescriptor (T k).2.2.1 = some (ty0 k)) ∧ (∀ a, a < n → ∀ b, b < n → a ≠ b → (T a).2.1 ≠ (T b).2.1) ∧ (T j).2.2.2 = true ∧ (T j).1 = own ∧ ty0 j = ty) (he : ws[i0]? = some (h0, .inr (ci, fs))) (hj : j < fs.length) (hn : narrow ty (.ref q) = .ref q) (hfit : fits ty (.ref q) = true)
    (kk : cn_G X (pc + 3) la st (ws.set i0 (h0, .inr (ci, fs.set j (.ref q)))) cells slots) : cn_G X pc la (.ref q :: .ref h0 :: st) ws cells slots := by
  obtain ⟨⟨p, l, e, R, s, m, args, below⟩, meth, c, D, tA, A, Q⟩ := X
  obtain ⟨hx, hb, hml, hown, hts, hK, hin, hA, hfr, hlo, hr, hlk⟩ := C
  intro H locs g2 g3 g4
  obtain ⟨C, T, n, hc, hjn, hin1, hlink, howner⟩ := hf
  obtain ⟨C', T', n', ty0, hc', hty, hnm, hfin, hdecl, hty0⟩ := hp
  rw [hc] at hc'
  obtain ⟨rfl, rfl, rfl⟩ : C = C' ∧ T = T' ∧ n = n' := by
    have := Option.some.inj hc'
    exact ⟨congrArg (·.1) this, congrArg (·.2.1) this, congrArg (·.2.2) this⟩
  subst hty0
  refine va_putF hx hb hts hin1 ty0 hty hnm hown hK g2 g3 g4 i0 he hc j hjn (hts _ hlink) (fun x h => by rw [howner] at h; exact h) hfin hin hdecl (hty j hjn) hn hfit hj hd (fun H1 locs1 q1 q2 q3 => kk H1 locs1 q1 q2 q3)
/-- a number, set -/
theorem cn_puti {ci j index h0 i0 : Nat} {fs : List Value} {x : Int32} {ty : FieldType} (C : cn_C Ts own cc n X) (hd : decode cc pc = .ok (.putfield index, 3)) (hf : fm_fl Ts own index vwA ci j) (hp : fm_fp vwA ci j ty) (he : ws[i0]? = some (h0, .inr (ci, fs))) (hj : j < fs.length) (hn : narrow ty (.int x) = .int x) (hfit : fits ty (.int x) = true)
    (kk : cn_G X (pc + 3) la st (ws.set i0 (h0, .inr (ci, fs.set j (.int x)))) cells slots) : cn_G X pc la (.int x :: .ref h0 :: st) ws cells slots := by
  obtain ⟨⟨p, l, e, R, s, m, args, below⟩, meth, c, D, tA, A, Q⟩ := X
  obtain ⟨hx, hb, hml, hown, hts, hK, hin, hA, hfr, hlo, hr, hlk⟩ := C
  intro H locs g2 g3 g4
  obtain ⟨C, T, n, hc, hjn, hin1, hlink, howner⟩ := hf
  obtain ⟨C', T', n', ty0, hc', hty, hnm, hfin, hty0⟩ := hp
  rw [hc] at hc'
  obtain ⟨rfl, rfl, rfl⟩ : C = C' ∧ T = T' ∧ n = n' := by
    have := Option.some.inj hc'
    exact ⟨congrArg (·.1) this, congrArg (·.2.1) this, congrArg (·.2.2) this⟩
  subst hty0
  exact va_put hx hb hts hin1 ty0 hty hnm hown hK g2 g3 g4 i0 he hc j hjn (hts _ hlink) (fun x h => by rw [howner] at h; exact h) hfin (hty j hjn) hn hfit hj hd (fun H1 locs1 q1 q2 q3 => kk H1 locs1 q1 q2 q3)
/-- a final reference field -/
def cn_fp (ci j : Nat) (own : String) (ty : FieldType) : Prop := ∃ (C : String) (T : u_T) (n : Nat) (ty0 : Nat → FieldType), vwA[ci]? = some (C, T, n) ∧ (∀ k, k < n → parseFieldDescriptor (T k).2.2.1 = some (ty0 k)) ∧ (∀ a, a < n → ∀ b, b < n → a ≠ b → (T a).2.1 ≠ (T b).2.1) ∧ (T j).2.2.2 = true ∧ (T j).1 = own ∧ ty0 j = ty
end CN
/-! the contract of a constructor: from the new object's cell alone -/
def cn_rm (d mc ms : Nat) : Room := { frames := d, cells := mc, slots := ms, locals := 64 * d }
def cn_Pc (D : va_G) (tA : Nat → ClassId) (sz h0 : Nat) (Z : State → Prop) (ws : va_W) : Array Value → State → Prop := va_Pc [.ref h0] (fun U => U.heap.size = sz ∧ va_P D vwA ws U.heap ∧ va_K D vwA (fm_tys SC tA) U ∧ va_D (fun _ => True) ws ∧ Z U)
def cn_Q (D : va_G) (tA : Nat → ClassId) (A : Nat → Prop) (post : va_W → Prop) : Array Value → State → Outcome → State → Prop := fun _ st oc t => (∃ ws, oc = .returned none ∧ post ws ∧ va_P D vwA ws t.heap ∧ va_K D vwA (fm_tys SC tA) t ∧ va_D A ws) ∧ va_F A st t
/-- post: of the cells that are there at its end -/
def cn_ct (Ts : List Cond) (y : MethodName) (cc : ByteArray) (maxL d mc ms : Nat) (ci : Nat) (fs : List Value) (Z : State → Prop) (post : (Nat → ClassId) → Nat → va_W → Prop) : Prop :=
  ∀ (l : Launch) (D : va_G) (tA : Nat → ClassId) (h0 sz : Nat), Met l y (Cond.code y cc maxL none :: Ts) (cn_rm d mc ms) (cn_Pc D tA sz h0 Z [(h0, .inr (ci, fs))]) (cn_Q D tA (va_A [(h0, .inr (ci, fs))] sz) (post tA h0)) mc ms (va_A [(h0, .inr (ci, fs))] sz)
theorem cn_of {Ts : List Cond} {y : MethodName} {cc : ByteArray} {maxL d mc ms ci : Nat} {fs : List Value} {Z : State → Prop} {post : (Nat → ClassId) → Nat → va_W → Prop} (hy : plainName y.cls = true) (hi : y.name = "<init>") (h1 : 1 ≤ maxL) (hd : 1 ≤ d)
    (body : ∀ (X : cn_X) (la : Array Slot) (h0 : Nat), cn_C Ts y.cls cc maxL X → lv_has la maxL [(0, .ref h0)] → cn_R X = cn_rm d mc ms → Z X.1.2.2.2.2.1 → (∀ ws cells slots pc, cells ≤ mc → slots ≤ ms → decode cc pc = .ok (.return_, 1) → post (cn_tA X) h0 ws → ∀ la2, cn_G X pc la2 [] ws cells slots) → cn_G X 0 la [] [(h0, .inr (ci, fs))] 0 0) : cn_ct Ts y cc maxL d mc ms ci fs Z post := by
  intro l D tA h0 sz
  refine Met.ofW (cc := cc) (maxL := maxL) (ret := none) hy rfl ?_
  intro p e s m args below meth c s₁ B hml hv
  obtain ⟨rfl, hsz, hP, hK, hD0, hZ⟩ := hv
  subst hsz
  have hD := hD0.self (sz := s.heap.size)
  have hl := lv_entry ([.ref h0]) (n := maxL) (by show 1 ≤ maxL; exact h1)
  rw [lg_entry_eq]
  generalize (lg_sl ([.ref h0]) ++ List.replicate (maxL - (lg_sl ([.ref h0])).length) Slot.unset).toArray = ls at hl ⊢
  have hl : lv_has ls maxL [(0, .ref h0)] := hl
  have hA : ∀ q, s.heap.size ≤ q → va_A [(h0, (.inr (ci, fs) : va_E))] s.heap.size q := fun q h => Or.inr h
  have hin : meth.name = "<init>" := (name_of_methodNamed B.named B.method).1.trans hi
  exact body ((p, l, e, cn_rm d mc ms, s, m, #[.ref h0], below), (meth, c, D, tA, va_A [(h0, .inr (ci, fs))] s.heap.size, MQ below (cn_Q D tA (va_A [(h0, .inr (ci, fs))] s.heap.size) (post tA h0)) #[.ref h0] s mc ms (va_A [(h0, .inr (ci, fs))] s.heap.size))) ls h0
    ⟨B.exec, B.bytes, hml, findClass_of_methodNamed B.named, fun w h => atoms_spec (ws := Cond.code y cc maxL none :: Ts) B.pre w (List.mem_cons_of_mem _ h), hK, hin, hA, hd, by show 24 ≤ 64 * d; omega, B.returns, B.notSynchronized⟩ hl rfl hZ
    (fun ws cells slots pc hc hs hdc hp la2 H locs g2 g3 g4 => W.widen (k := mc) (n := ms) hc hs (W.vret B.exec B.bytes B.returns (fun t ht hW => ⟨⟨ws, rfl, hp, by rw [ht]; exact g2, va_K.moved hW.alike hK, g3⟩, g4.F ht⟩) g4.2.2 hdc B.notSynchronized))
    s.heap [] hP hD va_S.rf
