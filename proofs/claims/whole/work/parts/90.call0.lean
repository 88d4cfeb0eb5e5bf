/-! A CALL THAT THROWS, AND THE CATCH -/
section CVT
variable {p : Program} {l : Launch} {e : Env} {R : Room} {s : State} {m : MethodId} {args : Array Value} {below : List Frame} {meth : Method} {c : Code} {T : State} {locs : List Loc} {cells slots : Nat}
theorem callVT (X : Stand p l e R s m args below meth c T locs cells slots) (hexec : p.tables.exec = Jvm.exec) {own C : String} {index : Nat} {y : MethodName} {bytes : ByteArray} {maxL : Nat} {ret : Option FieldType}
    (hown : s.vm.findClass own = some m.cls) (hlink : (Cond.methodLink own index y).before args s = true) (hinst : (Cond.instanceMethod y).before args s = true) (hsel : (Cond.selects C y y).before args s = true)
    (hcode : (Cond.code y bytes maxL ret).before args s = true) (hy : y.cls ≠ "java/lang/invoke/MethodHandle" ∧ y.cls ≠ "java/lang/invoke/VarHandle")
    {W : Nat} {Pre : Pt → Array Value → Prop} {Post : Pt → Array Value → Addr → Pt → Prop} (hK : BackT l R p e below s args y 3 W Pre Post)
    {b : Addr} {cellB : Cell} (hcell : T.heap[b]? = some cellB) (hobj : cellB.vm.isStatics = false) (hcls : s.vm.findClass C = some cellB.cls)
    {g : JFrame} (hg : g.method = m) (hsize : g.locals.size = c.maxLocals) {argsL rest : List Value} (hlen : ∀ sig, parseMethodDescriptor y.desc = some sig → argsL.length = sig.parameters.length)
    (hstack : g.stack = argsL.reverse ++ .ref b :: rest) (hW : 2 * g.monitorRoom + (rest.map fun v => v.category).sum ≤ W) (hdg : decode c.code g.pc = .ok (.invokevirtual index, 3))
    (hpre : ∀ vm₁, s.WarmedH vm₁ → Pre ⟨T.setVm vm₁, locs, cells, slots⟩ (Value.ref b :: argsL).toArray) :
    ∃ (v : Addr) (vm₁ : Vm) (B : Pt), s.WarmedH vm₁ ∧ Stand p l e R s m args below meth c B.U B.locs B.cells B.slots ∧ Post ⟨T.setVm vm₁, locs, cells, slots⟩ (Value.ref b :: argsL).toArray v B ∧
      Steps p.tables e below (T.setTop g) ((B.U.setTop { g with stack := rest }).pushFrame (.throwing v)) := by
  obtain ⟨mk, methM, hnamed, hmethM, hstM, habM⟩ := Cond.instanceMethod_spec hinst
  obtain ⟨methM', cM, hmethM', -, -, -, -, -, -, hsigM⟩ := Cond.code_spec hnamed hcode
  cases hmethM.symm.trans hmethM'
  obtain ⟨c2, r2, m2, q1, q2, q3, q4, kP, hkP, hkPi⟩ := Cond.selects_spec hsel
  cases hcls.symm.trans q1
  cases (State.methodFound?_of_named hnamed hy).symm.trans q2
  cases hnamed.symm.trans q3
  have hselP : selectMethod e.platform s.vm cellB.cls mk = .method mk := by rw [Launch.admits_selectMethod X.admits]; exact q4
  obtain ⟨vm₁, X₁, hstep₁⟩ := X.invokevirtual hexec hown hlink hnamed hmethM hstM hkP hkPi hy (a := b) (cell := cellB) hcell
    (fun z h => by rw [h] at hobj; cases hobj) hselP hmethM habM hkP hkPi (g := g) hg (argsL := argsL) (rest := rest) (hlen _ hsigM) hstack hdg
  obtain ⟨v, B, X', hpost, hsteps⟩ := hK m meth c ⟨T.setVm vm₁, locs, cells, slots⟩ { g with stack := rest } (.invokevirtual index) mk (Value.ref b :: argsL).toArray X₁ hg hsize hdg hW (X₁.named hnamed) (hpre vm₁ X₁.warmed)
  exact ⟨v, vm₁, B, X₁.warmed, X', hpost, hstep₁ _ fun acts => by rw [doInvoke_state]; exact hsteps⟩
end CVT
def PostT (Qc : Array Value → State → Addr → State → Prop) (mc ms : Nat) : Pt → Array Value → Addr → Pt → Prop := fun A a v B =>
  ∃ (g : JFrame) (mk : MethodId) (t : State), B.U.heap = t.heap ∧ B.U.vm = t.vm ∧ Qc a (A.U.calling g mk a) v t ∧ B.locs = A.locs ∧ B.cells = A.cells + mc ∧ B.slots = A.slots + ms
theorem backT_of {l : Launch} {R : Room} {p : Program} {e : Env} {below : List Frame} {s : State} {sargs : Array Value} {y : MethodName} {len W : Nat} {ws : List Cond} {rm : Room} {Pc : Array Value → State → Prop} {Qc : Array Value → State → Addr → State → Prop} {mc ms : Nat} {bytes : ByteArray} {maxL : Nat} {ret : Option FieldType}
    (hM : MetT l y ws rm Pc Qc mc ms) (hblind : FrameBlind Pc) (hrc : rm.cells = mc) (hrs : rm.slots = ms) (hframes : rm.frames + 1 ≤ R.frames) (hlocals : W + (maxL + 11) + rm.locals ≤ R.locals)
    (hws : ∀ w ∈ ws, ∀ a' U, s.WarmedH U.vm → w.before a' U = true) (hcode : Cond.code y bytes maxL ret ∈ ws) (hinit : ∀ a' U, s.WarmedH U.vm → (Cond.initialized y.cls).before a' U = true) :
    BackT l R p e below s sargs y len W (PreOf R mc ms Pc) (PostT Qc mc ms) := by
  refine BackT.of_free (S := headSpec ws rm) (P := Pc) (K := fun _ _ _ _ _ => True) (Q := fun a st o t => ∃ b, o = .threw b ∧ Qc a st b t ∧ FrameEndT st o t [] mc ms) (bytes := bytes) (maxL := maxL) (ret := ret)
    (E := fun _ _ _ _ L k n => L = [] ∧ k = mc ∧ n = ms) hM hframes hlocals ?_ ?_ (fun _ _ _ _ _ _ _ _ _ => trivial) ?_ ?_
  · intro m meth c A a X hp
    exact ⟨atoms_intro fun w hw => hws w hw _ _ X.warmed, hws _ hcode _ _ X.warmed, hinit _ _ X.warmed, by rw [show (headSpec ws rm).room.cells = mc from hrc]; exact hp.1, by rw [show (headSpec ws rm).room.slots = ms from hrs]; exact hp.2.1⟩
  · intro m meth c A a g mk X hp
    exact hblind _ _ _ _ hp.2.2
  · intro a st o t ⟨b, e1, hq, hF⟩
    exact ⟨[], mc, ms, hF, rfl, rfl, rfl⟩
  · intro m meth c A a g mk v t L k n X hp ⟨b, e1, hq, hF0⟩ hF ⟨e2, e3, e4⟩
    subst e2; subst e3; subst e4
    have e1 : v = b := by injection e1
    subst e1
    exact ⟨g, mk, t, rfl, rfl, hq, List.append_nil _, rfl, rfl⟩
/-- where the table sends an exception of the class cls that comes out of pc -/
def lh_cat (p : Program) (l : Launch) (e : Env) (s : State) (m : MethodId) (c : Code) (pc : Nat) (cls : String) (hpc : Nat) : Prop :=
  l.admits e → ∀ ct : ClassId, s.vm.findClass cls = some ct → ∃ pre x rst, c.exceptionTable.toList = pre ++ x :: rst ∧ (∀ y ∈ pre, RowPassed e.platform s m.cls pc ct y) ∧ covers x pc = true ∧ RowCatches e.platform s m.cls ct x ∧ (∃ k, s.vm.classes[ct]? = some k) ∧ x.handlerPc = hpc
section LH
variable {p : Program} {l : Launch} {e : Env} {R : Room} {s : State} {m : MethodId} {args : Array Value} {below : List Frame} {meth : Method} {c : Code} {H : Heap} {locs : List Loc} {cells slots : Nat} {Q : State → Prop}
theorem lh_ready {own cls : String} {ix : Nat} (hown : s.vm.findClass own = some m.cls) (hlink : (Cond.classLink own ix cls).before args s = true) (hadm : l.admits e) {ct : ClassId} (hct : s.vm.findClass cls = some ct) : s.vm.ClassLinks e.platform m.cls ix ct := by
  have hpl : e.platform.magicAccessors = ({} : Platform).magicAccessors := by rw [hadm.platform]
  obtain ⟨c', hc', hcl⟩ := Cond.classLink_spec hown hlink e.platform hpl
  cases hct.symm.trans hc'
  exact hcl
theorem lh_self {cls : String} (hz : va_Nw (.castable cls cls) s) {ct : ClassId} (hct : s.vm.findClass cls = some ct) : s.vm.assignable ct ct = true := by
  obtain ⟨a, b, h1, h2, h3⟩ := Cond.castable_spec (va_Nw.use (A := #[]) rfl hz)
  cases h1.symm.trans h2
  cases hct.symm.trans h1
  exact h3
theorem lh_cat1 {own cls : String} {ix a b hp pc : Nat} (hown : s.vm.findClass own = some m.cls) (htab : c.exceptionTable.toList.map (fun h => (h.startPc, h.endPc, h.handlerPc, h.catchType)) = [(a, b, hp, ix)]) (hlink : (Cond.classLink own ix cls).before args s = true) (hix : ix ≠ 0) (hz : va_Nw (.castable cls cls) s) (h1 : a ≤ pc) (h2 : pc < b) : lh_cat p l e s m c pc cls hp := by
  intro hadm ct hct
  cases hl : c.exceptionTable.toList with
  | nil => rw [hl] at htab; simp at htab
  | cons x r =>
    rw [hl] at htab
    simp only [List.map_cons, List.cons.injEq, Prod.mk.injEq, List.map_eq_nil_iff] at htab
    obtain ⟨⟨e1, e2, e3, e4⟩, e5⟩ := htab
    subst e5
    refine ⟨[], x, [], rfl, (fun _ h => by cases h), by simp [covers, e1, e2, h1, h2], Or.inr ⟨by rw [e4]; exact hix, ct, by rw [e4]; exact lh_ready hown hlink hadm hct, lh_self hz hct⟩, Vm.classAt_of_findClass hct, e3⟩
theorem lh_cat1' {own cls : String} {ix ix2 a b a2 b2 hp hp2 pc : Nat} (hown : s.vm.findClass own = some m.cls) (htab : c.exceptionTable.toList.map (fun h => (h.startPc, h.endPc, h.handlerPc, h.catchType)) = [(a, b, hp, ix), (a2, b2, hp2, ix2)]) (hlink : (Cond.classLink own ix cls).before args s = true) (hix : ix ≠ 0) (hz : va_Nw (.castable cls cls) s) (h1 : a ≤ pc) (h2 : pc < b) : lh_cat p l e s m c pc cls hp := by
  intro hadm ct hct
  cases hl : c.exceptionTable.toList with
  | nil => rw [hl] at htab; simp at htab
  | cons x r =>
    rw [hl] at htab
    simp only [List.map_cons, List.cons.injEq, Prod.mk.injEq] at htab
    obtain ⟨⟨e1, e2, e3, e4⟩, -⟩ := htab
    refine ⟨[], x, r, rfl, (fun _ h => by cases h), by simp [covers, e1, e2, h1, h2], Or.inr ⟨by rw [e4]; exact hix, ct, by rw [e4]; exact lh_ready hown hlink hadm hct, lh_self hz hct⟩, Vm.classAt_of_findClass hct, e3⟩
theorem lh_cat2 {own cls cls0 : String} {ix ix2 a b a2 b2 hp hp2 pc : Nat} (hown : s.vm.findClass own = some m.cls) (htab : c.exceptionTable.toList.map (fun h => (h.startPc, h.endPc, h.handlerPc, h.catchType)) = [(a, b, hp, ix), (a2, b2, hp2, ix2)]) (hlink0 : (Cond.classLink own ix cls0).before args s = true) (hix : ix ≠ 0) (hlink : (Cond.classLink own ix2 cls).before args s = true) (hix2 : ix2 ≠ 0) (hz : va_Nw (.castable cls cls) s) (hno : ∀ ct c0, s.vm.findClass cls = some ct → s.vm.findClass cls0 = some c0 → s.vm.assignable ct c0 = false) (h1 : a2 ≤ pc) (h2 : pc < b2) : lh_cat p l e s m c pc cls hp2 := by
  intro hadm ct hct
  cases hl : c.exceptionTable.toList with
  | nil => rw [hl] at htab; simp at htab
  | cons x r =>
    rw [hl] at htab
    cases r with
    | nil => simp at htab
    | cons x2 r2 =>
      simp only [List.map_cons, List.cons.injEq, Prod.mk.injEq] at htab
      obtain ⟨⟨e1, e2, e3, e4⟩, ⟨f1, f2, f3, f4⟩, -⟩ := htab
      have hpl : e.platform.magicAccessors = ({} : Platform).magicAccessors := by rw [hadm.platform]
      obtain ⟨c', hc', hcl⟩ := Cond.classLink_spec hown hlink0 e.platform hpl
      refine ⟨[x], x2, r2, rfl, fun y h => ?_, by simp [covers, f1, f2, h1, h2], Or.inr ⟨by rw [f4]; exact hix2, ct, by rw [f4]; exact lh_ready hown hlink hadm hct, lh_self hz hct⟩, Vm.classAt_of_findClass hct, f3⟩
      rw [List.mem_singleton.mp h]
      exact Or.inr ⟨by rw [e4]; exact hix, c', by rw [e4]; exact hcl, hno ct c' hct hc'⟩
/-- the call throws, the exception is caught: on at the handler -/
theorem lh_throw {Ts : List Cond} {own C cls : String} {y : MethodName} {bytes cc : ByteArray} {ret : Option FieldType} {maxL nL index n pc hpc b : Nat} {Pc : Array Value → State → Prop} {As rest : List Value} {la : Array Slot}
    (S : CallFix p m c cc nL s args Ts own) (hM : MetT l y (Cond.code y bytes maxL ret :: wsT) tRm Pc (tQ cls) 1 6) (cw : CallW R s args own C index y bytes maxL ret (Cond.code y bytes maxL ret :: wsT) tRm 1 6 n) (hp : PreV s H C b Pc As) (hn : As.length = n) (hsize : la.size = nL) (hst8 : (rest.map fun v => v.category).sum ≤ 8) (hdg : decode cc pc = .ok (.invokevirtual index, 3)) (hf : cells + 1 ≤ R.cells ∧ slots + 6 ≤ R.slots) (hcat : lh_cat p l e s m c pc cls hpc)
    (kk : ∀ (a : Nat) (H1 : Heap), H.size ≤ H1.size → (∀ q : Nat, q < H.size → H1[q]? = H[q]?) → W p l e R s m args below meth c H1 locs (cells + 1) (slots + 6) Q (F0 m hpc la [.ref a])) : W p l e R s m args below meth c H locs cells slots Q (F0 m pc la (As.reverse ++ .ref b :: rest)) := by
  obtain ⟨⟨-, -, hfr, hlo, hws, hcw, hcode, hini, hy, hlen, hl⟩, hin, hse⟩ := cw
  have hK : BackT l R p e below s args y 3 8 (PreOf R 1 6 Pc) (PostT (tQ cls) 1 6) := backT_of (bytes := bytes) (maxL := maxL) (ret := ret) hM hp.1 rfl rfl hfr hlo hws hcw (fun a' U hW => word_at hW (Or.inl (by first | rfl | simp [Cond.onTables, Cond.keeps, Cond.steady])) hini)
  obtain ⟨hx, hb, hml, ho, -⟩ := S
  obtain ⟨-, ⟨cellB, hcB, hoB, hclB⟩, hPc⟩ := hp
  intro T hT X
  obtain ⟨v, vm₁, ⟨U', l2, c2, s2⟩, hW₁, X', ⟨g', mk, t, e1, e2, hq, h1, h2, h3⟩, st⟩ := callVT X hx (C := C) (bytes := bytes) (maxL := maxL) (ret := ret) ho hl hin hse hcode hy hK (by rw [hT]; exact hcB) hoB hclB (g := F0 m pc la (As.reverse ++ .ref b :: rest)) rfl (hsize.trans hml.symm) (argsL := As) (rest := rest) (fun sig h => hn.trans (hlen sig h)) rfl (lv_room hst8) (by rw [hb]; exact hdg)
    (fun vm₁ hW₁ => ⟨hf.1, hf.2, hPc (T.setVm vm₁) hT hW₁⟩)
  dsimp only [Pt.U, Pt.locs, Pt.cells, Pt.slots] at X' e1 e2 h1 h2 h3 st hq
  subst h1; subst h2; subst h3
  obtain ⟨q1, q2, ce, q3, q4, q5⟩ := hq
  have z1 : H.size ≤ v := by rw [← hT]; exact q1
  have z2 : ∀ q : Nat, q < H.size → t.heap[q]? = H[q]? := fun q hq => by rw [← hT]; exact q2 q (by show q < T.heap.size; rw [hT]; exact hq)
  have hfc : s.vm.findClass cls = some ce.cls := by rw [← hW₁.alike.findClass]; exact q5
  obtain ⟨pre, x, rst, x1, x2, x3, x4, x5, x6⟩ := hcat X.admits ce.cls hfc
  obtain ⟨vm', XV, st'⟩ := X'.thenCaughtThrough v (g := { F0 m pc la (As.reverse ++ .ref b :: rest) with stack := rest }) rfl st (cell := ce) (by rw [e1]; exact q3) (by rw [q4]; rfl) x5 pre x rst x1 x2 x3 x4
  subst x6
  obtain ⟨t2, a1, b1⟩ := kk v U'.heap (by rw [e1]; have := (Array.getElem?_eq_some_iff.mp q3).1; omega) (fun q hq => by rw [e1]; exact z2 q hq) (U'.setVm vm') rfl XV
  exact ⟨t2, st'.trans a1, b1⟩
theorem callSW {T : State} (X : Stand p l e R s m args below meth c T locs cells slots) (hexec : p.tables.exec = Jvm.exec) {own : String} {index : Nat} {y : MethodName} {bytes : ByteArray} {maxL : Nat} {ret : Option FieldType} {hh : List (Nat × Nat × Nat × Nat)}
    (hown : s.vm.findClass own = some m.cls) (hlink : (Cond.methodLink own index y).before args s = true) (hstat : (Cond.static y).before args s = true) (hinit : (Cond.initialized y.cls).before args s = true)
    (hcode : (Cond.codeWith y bytes maxL ret hh).before args s = true) (hy : y.cls ≠ "java/lang/invoke/MethodHandle" ∧ y.cls ≠ "java/lang/invoke/VarHandle")
    {W : Nat} {Pre : Pt → Array Value → Prop} {Post : Pt → Array Value → Option Value → Pt → Prop} (hK : Back l R p e below s args y 3 W Pre Post)
    {g : JFrame} (hg : g.method = m) (hsize : g.locals.size = c.maxLocals) {argsL rest : List Value} (hlen : ∀ sig, parseMethodDescriptor y.desc = some sig → argsL.length = sig.parameters.length)
    (hstack : g.stack = argsL.reverse ++ rest) (hW : 2 * g.monitorRoom + (rest.map fun v => v.category).sum ≤ W) (hdg : decode c.code g.pc = .ok (.invokestatic index, 3))
    (hpre : ∀ vm₁, s.WarmedH vm₁ → Pre ⟨T.setVm vm₁, locs, cells, slots⟩ argsL.toArray) :
    ∃ (v : Option Value) (vm₁ : Vm) (B : Pt), s.WarmedH vm₁ ∧ Stand p l e R s m args below meth c B.U B.locs B.cells B.slots ∧ Post ⟨T.setVm vm₁, locs, cells, slots⟩ argsL.toArray v B ∧
      ∀ target, Steps p.tables e below (B.U.setTop { g with pc := g.pc + 3, stack := v.toList ++ rest }) target → Steps p.tables e below (T.setTop g) target := by
  obtain ⟨mk, methM, cM, hnamed, hmethM, -, -, -, -, -, -, hsigM⟩ := Cond.codeWith_spec hcode
  have hstatic : methM.isStatic = true := Cond.static_spec hnamed hmethM hstat
  obtain ⟨kP, hkP, -⟩ := className_of_methodNamed hnamed
  have hinitP : kP.init = .initialized := Cond.initialized_spec (findClass_of_methodNamed hnamed) hkP hinit
  obtain ⟨vm₁, X₁, hstep₁⟩ := X.invokestatic hexec hown hlink hnamed hmethM hstatic hkP hinitP hy (g := g) hg (argsL := argsL) (rest := rest) (hlen _ hsigM) hstack hdg
  obtain ⟨v, B, X', hpost, hsteps⟩ := hK m meth c ⟨T.setVm vm₁, locs, cells, slots⟩ { g with stack := rest } (.invokestatic index) mk argsL.toArray X₁ hg hsize hdg hW (X₁.named hnamed) (hpre vm₁ X₁.warmed)
  exact ⟨v, vm₁, B, X₁.warmed, X', hpost, fun target h => hstep₁ _ fun acts => by rw [doInvoke_state]; exact hsteps.trans h⟩
theorem va_runSW {Ts ws : List Cond} {own : String} {y : MethodName} {bytes cc : ByteArray} {ret : Option FieldType} {hh : List (Nat × Nat × Nat × Nat)} {maxL nL index n mc ms : Nat} {rm : Room} {Pc : Array Value → State → Prop} {Qc : Array Value → State → Outcome → State → Prop} {free : Addr → Prop} {As rest : List Value} {g : JFrame}
    (S : CallFix p m c cc nL s args Ts own) (hM : Met l y ws rm Pc Qc mc ms free) (hrc : rm.cells = mc) (hrs : rm.slots = ms) (hfr : rm.frames + 1 ≤ R.frames) (hlo : 8 + (maxL + 11) + rm.locals ≤ R.locals) (hws : ∀ w ∈ ws, ∀ (a' : Array Value) (U : State), s.WarmedH U.vm → w.before a' U = true) (hcw : Cond.codeWith y bytes maxL ret hh ∈ ws) (hini : (Cond.initialized y.cls).before args s = true) (hl : (Cond.methodLink own index y).before args s = true) (hstt : (Cond.static y).before args s = true)
    (hd : y.cls ≠ "java/lang/invoke/MethodHandle" ∧ y.cls ≠ "java/lang/invoke/VarHandle" ∧ (parseMethodDescriptor y.desc).map (fun d => d.parameters.length) = some n) (hp : PreS s H Pc As)
    (hg : g.method = m) (hn : As.length = n) (hsize : g.locals.size = nL) (hstack : g.stack = As.reverse ++ rest) (hW : 2 * g.monitorRoom + (rest.map fun v => v.category).sum ≤ 8) (hdg : decode cc g.pc = .ok (.invokestatic index, 3)) (hf : cells + mc ≤ R.cells ∧ slots + ms ≤ R.slots) :
    va_Run p l e R s m args below meth c H locs cells slots mc ms g rest (Qc As.toArray) (free) := by
  have hK : Back l R p e below s args y 3 8 (PreOf R mc ms Pc) (PostOf Qc mc ms free) := va_backW (hh := hh) (bytes := bytes) (maxL := maxL) (ret := ret) hM hp.1 hrc hrs hfr hlo hws hcw (fun a' U hW => word_at hW (Or.inl (by first | rfl | simp [Cond.onTables, Cond.keeps, Cond.steady])) hini)
  obtain ⟨hx, hb, hml, ho, -⟩ := S
  have hcode : (Cond.codeWith y bytes maxL ret hh).before args s = true := hws _ hcw args s (State.WarmedH.refl s)
  intro T hT X
  obtain ⟨v, vm₁, ⟨U', l2, c2, s2⟩, hW₁, X', ⟨g', mk, t, L, e1, e2, hq, h1, hL, h2, h3⟩, st⟩ := callSW X hx (hh := hh) (bytes := bytes) (maxL := maxL) (ret := ret) ho hl hstt hini hcode ⟨hd.1, hd.2.1⟩ hK hg (hsize.trans hml.symm) (argsL := As) (rest := rest) (fun sig h => by
      have h2 := hd.2.2
      rw [h] at h2
      exact hn.trans (Option.some.inj h2).symm) hstack hW (by rw [hb]; exact hdg)
    (fun vm₁ hW₁ => ⟨hf.1, hf.2, hp.2 (T.setVm vm₁) hT hW₁⟩)
  dsimp only [Pt.U, Pt.locs, Pt.cells, Pt.slots] at X' e1 e2 h1 h2 h3 st
  subst h1; subst h2; subst h3
  exact ⟨v, (T.setVm vm₁).calling g' mk As.toArray, t, U', L, hT, X', hL, e1, e2, hq, st⟩
end LH
/-! ROWS over any world, with any end -/
def lc_B (cc : ByteArray) (X : cn_X) : Prop := X.1.1.tables.exec = Jvm.exec ∧ X.2.2.1.code = cc
section LC
variable {cc : ByteArray} {n : Nat} {X : cn_X} {pc : Nat} {la : Array Slot} {st : List Value} {ws : va_W} {cells slots : Nat}
theorem lc_iload_n {k : Fin 4} {i : Nat} {x : Int32} {lv : List (Nat × Value)} (C : lc_B cc X) (hd : decode cc pc = .ok (.iload_n k, 1)) (hi : (k : Nat) = i) (hl : lv_has la n lv) (j : Nat) (hj : lv[j]? = some (i, .int x)) (kk : cn_G X (pc + 1) la (.int x :: st) ws cells slots) : cn_G X pc la (st) ws cells slots := by
  obtain ⟨⟨p, l, e, R, s, m, args, below⟩, meth, c, D, tA, A, Q⟩ := X
  obtain ⟨hx, hb⟩ := C
  intro H locs g2 g3 g4
  exact lv_iload_n hx hb hd hi (lv_at hl j hj) (kk H locs g2 g3 g4)
theorem lc_iload {i : Nat} {x : Int32} {lv : List (Nat × Value)} (C : lc_B cc X) (hd : decode cc pc = .ok (.iload i, 2)) (hl : lv_has la n lv) (j : Nat) (hj : lv[j]? = some (i, .int x)) (kk : cn_G X (pc + 2) la (.int x :: st) ws cells slots) : cn_G X pc la (st) ws cells slots := by
  obtain ⟨⟨p, l, e, R, s, m, args, below⟩, meth, c, D, tA, A, Q⟩ := X
  obtain ⟨hx, hb⟩ := C
  intro H locs g2 g3 g4
  exact lv_iload hx hb hd (lv_at hl j hj) (kk H locs g2 g3 g4)
theorem lc_aload_n {k : Fin 4} {i h0 : Nat} {lv : List (Nat × Value)} (C : lc_B cc X) (hd : decode cc pc = .ok (.aload_n k, 1)) (hi : (k : Nat) = i) (hl : lv_has la n lv) (j : Nat) (hj : lv[j]? = some (i, .ref h0)) (kk : cn_G X (pc + 1) la (.ref h0 :: st) ws cells slots) : cn_G X pc la (st) ws cells slots := by
  obtain ⟨⟨p, l, e, R, s, m, args, below⟩, meth, c, D, tA, A, Q⟩ := X
  obtain ⟨hx, hb⟩ := C
  intro H locs g2 g3 g4
  exact lv_aload_n hx hb hd hi (lv_at hl j hj) (kk H locs g2 g3 g4)
theorem lc_aload {i h0 : Nat} {lv : List (Nat × Value)} (C : lc_B cc X) (hd : decode cc pc = .ok (.aload i, 2)) (hl : lv_has la n lv) (j : Nat) (hj : lv[j]? = some (i, .ref h0)) (kk : cn_G X (pc + 2) la (.ref h0 :: st) ws cells slots) : cn_G X pc la (st) ws cells slots := by
  obtain ⟨⟨p, l, e, R, s, m, args, below⟩, meth, c, D, tA, A, Q⟩ := X
  obtain ⟨hx, hb⟩ := C
  intro H locs g2 g3 g4
  exact lv_aload hx hb hd (lv_at hl j hj) (kk H locs g2 g3 g4)
theorem lc_iconst {k : Int} {v : Int32} (C : lc_B cc X) (hd : decode cc pc = .ok (.iconst k, 1)) (hv : Int32.ofInt k = v) (kk : cn_G X (pc + 1) la (.int v :: st) ws cells slots) : cn_G X pc la (st) ws cells slots := by
  obtain ⟨⟨p, l, e, R, s, m, args, below⟩, meth, c, D, tA, A, Q⟩ := X
  obtain ⟨hx, hb⟩ := C
  intro H locs g2 g3 g4
  exact lv_iconst hx hb hd hv (kk H locs g2 g3 g4)
theorem lc_bipush {k : Int} {v : Int32} (C : lc_B cc X) (hd : decode cc pc = .ok (.bipush k, 2)) (hv : (Int8.ofInt k).toInt32 = v) (kk : cn_G X (pc + 2) la (.int v :: st) ws cells slots) : cn_G X pc la (st) ws cells slots := by
  obtain ⟨⟨p, l, e, R, s, m, args, below⟩, meth, c, D, tA, A, Q⟩ := X
  obtain ⟨hx, hb⟩ := C
  intro H locs g2 g3 g4
  exact lv_bipush hx hb hd hv (kk H locs g2 g3 g4)
theorem lc_lconst {k : Fin 2} {v : Int64} (C : lc_B cc X) (hd : decode cc pc = .ok (.lconst k, 1)) (hv : Int64.ofNat (k : Nat) = v) (kk : cn_G X (pc + 1) la (.long v :: st) ws cells slots) : cn_G X pc la (st) ws cells slots := by
  obtain ⟨⟨p, l, e, R, s, m, args, below⟩, meth, c, D, tA, A, Q⟩ := X
  obtain ⟨hx, hb⟩ := C
  intro H locs g2 g3 g4
  exact lv_lconst hx hb hd hv (kk H locs g2 g3 g4)
theorem lc_i2l {x : Int32} {v : Int64} (C : lc_B cc X) (hd : decode cc pc = .ok (.i2l, 1)) (hv : x.toInt64 = v) (kk : cn_G X (pc + 1) la (.long v :: st) ws cells slots) : cn_G X pc la (.int x :: st) ws cells slots := by
  obtain ⟨⟨p, l, e, R, s, m, args, below⟩, meth, c, D, tA, A, Q⟩ := X
  obtain ⟨hx, hb⟩ := C
  intro H locs g2 g3 g4
  exact lv_i2l hx hb hd hv (kk H locs g2 g3 g4)
theorem lc_goto {off : Int} {tgt : Nat} (C : lc_B cc X) (hd : decode cc pc = .ok (.goto off, 3)) (ht : (pc : Int) + off = (tgt : Int)) (kk : cn_G X (tgt) la (st) ws cells slots) : cn_G X pc la (st) ws cells slots := by
  obtain ⟨⟨p, l, e, R, s, m, args, below⟩, meth, c, D, tA, A, Q⟩ := X
  obtain ⟨hx, hb⟩ := C
  intro H locs g2 g3 g4
  exact lv_goto hx hb hd ht (kk H locs g2 g3 g4)
theorem lc_dup {v : Value} (C : lc_B cc X) (hd : decode cc pc = .ok (.dup, 1)) (hv : v.category = 1) (kk : cn_G X (pc + 1) la (v :: v :: st) ws cells slots) : cn_G X pc la (v :: st) ws cells slots := by
  obtain ⟨⟨p, l, e, R, s, m, args, below⟩, meth, c, D, tA, A, Q⟩ := X
  obtain ⟨hx, hb⟩ := C
  intro H locs g2 g3 g4
  exact lv_dup hx hb hd hv (kk H locs g2 g3 g4)
theorem lc_astore_n {k : Fin 4} {i a : Nat} {lv lv1 : List (Nat × Value)} (C : lc_B cc X) (hd : decode cc pc = .ok (.astore_n k, 1)) (hi : (k : Nat) = i) (hl : lv_has la n lv) (hn : i < n) (he : (i, Value.ref a) :: lv.filter (fun q => !(q.1 == i) && !(q.1 + 1 == i && q.2.category == 2)) = lv1) (kk : ∀ la1, lv_has la1 n lv1 → cn_G X (pc + 1) la1 (st) ws cells slots) : cn_G X pc la (.ref a :: st) ws cells slots := by
  obtain ⟨⟨p, l, e, R, s, m, args, below⟩, meth, c, D, tA, A, Q⟩ := X
  obtain ⟨hx, hb⟩ := C
  intro H locs g2 g3 g4
  exact lv_astore_n hx hb hd hi hl hn he (fun la1 hl1 => kk la1 hl1 H locs g2 g3 g4)
theorem lc_astore {i a : Nat} {lv lv1 : List (Nat × Value)} (C : lc_B cc X) (hd : decode cc pc = .ok (.astore i, 2)) (hl : lv_has la n lv) (hn : i < n) (he : (i, Value.ref a) :: lv.filter (fun q => !(q.1 == i) && !(q.1 + 1 == i && q.2.category == 2)) = lv1) (kk : ∀ la1, lv_has la1 n lv1 → cn_G X (pc + 2) la1 (st) ws cells slots) : cn_G X pc la (.ref a :: st) ws cells slots := by
  obtain ⟨⟨p, l, e, R, s, m, args, below⟩, meth, c, D, tA, A, Q⟩ := X
  obtain ⟨hx, hb⟩ := C
  intro H locs g2 g3 g4
  exact lv_astore hx hb hd hl hn he (fun la1 hl1 => kk la1 hl1 H locs g2 g3 g4)
theorem lc_istore {i : Nat} {x : Int32} {lv lv1 : List (Nat × Value)} (C : lc_B cc X) (hd : decode cc pc = .ok (.istore i, 2)) (hl : lv_has la n lv) (hn : i < n) (he : (i, Value.int x) :: lv.filter (fun q => !(q.1 == i) && !(q.1 + 1 == i && q.2.category == 2)) = lv1) (kk : ∀ la1, lv_has la1 n lv1 → cn_G X (pc + 2) la1 (st) ws cells slots) : cn_G X pc la (.int x :: st) ws cells slots := by
  obtain ⟨⟨p, l, e, R, s, m, args, below⟩, meth, c, D, tA, A, Q⟩ := X
  obtain ⟨hx, hb⟩ := C
  intro H locs g2 g3 g4
  exact lv_istore hx hb hd hl hn he (fun la1 hl1 => kk la1 hl1 H locs g2 g3 g4)
theorem lc_iinc {i k : Nat} {d : Int} {x v : Int32} {lv lv1 : List (Nat × Value)} (C : lc_B cc X) (hd : decode cc pc = .ok (.iinc i d, 3)) (hl : lv_has la n lv) (hk : lv[k]? = some (i, .int x)) (hv : x + Int32.ofInt d = v) (hn : i < n) (he : (i, Value.int v) :: lv.filter (fun q => !(q.1 == i) && !(q.1 + 1 == i && q.2.category == 2)) = lv1) (kk : ∀ la1, lv_has la1 n lv1 → cn_G X (pc + 3) la1 (st) ws cells slots) : cn_G X pc la (st) ws cells slots := by
  obtain ⟨⟨p, l, e, R, s, m, args, below⟩, meth, c, D, tA, A, Q⟩ := X
  obtain ⟨hx, hb⟩ := C
  intro H locs g2 g3 g4
  exact lv_iinc hx hb hd hl hk hv hn he (fun la1 hl1 => kk la1 hl1 H locs g2 g3 g4)
theorem lc_iand {x y v : Int32} (C : lc_B cc X) (hd : decode cc pc = .ok (.iand, 1)) (hv : x &&& y = v) (kk : cn_G X (pc + 1) la (.int v :: st) ws cells slots) : cn_G X pc la (.int y :: .int x :: st) ws cells slots := by
  obtain ⟨⟨p, l, e, R, s, m, args, below⟩, meth, c, D, tA, A, Q⟩ := X
  obtain ⟨hx, hb⟩ := C
  intro H locs g2 g3 g4
  subst hv
  exact lv_iand hx hb hd (kk H locs g2 g3 g4)
theorem lc_isub {x y v : Int32} (C : lc_B cc X) (hd : decode cc pc = .ok (.isub, 1)) (hv : x - y = v) (kk : cn_G X (pc + 1) la (.int v :: st) ws cells slots) : cn_G X pc la (.int y :: .int x :: st) ws cells slots := by
  obtain ⟨⟨p, l, e, R, s, m, args, below⟩, meth, c, D, tA, A, Q⟩ := X
  obtain ⟨hx, hb⟩ := C
  intro H locs g2 g3 g4
  subst hv
  exact lv_isub hx hb hd (kk H locs g2 g3 g4)
theorem lc_iadd {x y v : Int32} (C : lc_B cc X) (hd : decode cc pc = .ok (.iadd, 1)) (hv : x + y = v) (kk : cn_G X (pc + 1) la (.int v :: st) ws cells slots) : cn_G X pc la (.int y :: .int x :: st) ws cells slots := by
  obtain ⟨⟨p, l, e, R, s, m, args, below⟩, meth, c, D, tA, A, Q⟩ := X
  obtain ⟨hx, hb⟩ := C
  intro H locs g2 g3 g4
  subst hv
  exact lv_iadd hx hb hd (kk H locs g2 g3 g4)
theorem lc_if_eq {x : Int32} {off : Int} {tgt : Nat} (C : lc_B cc X) (hd : decode cc pc = .ok (.ifCond .eq off, 3)) (ht : (pc : Int) + off = (tgt : Int)) (kt : x = 0 → cn_G X tgt la st ws cells slots) (kf : ¬ x = 0 → cn_G X (pc + 3) la st ws cells slots) : cn_G X pc la (.int x :: st) ws cells slots := by
  obtain ⟨⟨p, l, e, R, s, m, args, below⟩, meth, c, D, tA, A, Q⟩ := X
  obtain ⟨hx, hb⟩ := C
  intro H locs g2 g3 g4
  exact lv_if_eq hx hb hd ht (fun z => kt z H locs g2 g3 g4) (fun z => kf z H locs g2 g3 g4)
theorem lc_if_ne {x : Int32} {off : Int} {tgt : Nat} (C : lc_B cc X) (hd : decode cc pc = .ok (.ifCond .ne off, 3)) (ht : (pc : Int) + off = (tgt : Int)) (kt : ¬ x = 0 → cn_G X tgt la st ws cells slots) (kf : x = 0 → cn_G X (pc + 3) la st ws cells slots) : cn_G X pc la (.int x :: st) ws cells slots := by
  obtain ⟨⟨p, l, e, R, s, m, args, below⟩, meth, c, D, tA, A, Q⟩ := X
  obtain ⟨hx, hb⟩ := C
  intro H locs g2 g3 g4
  exact lv_if_ne hx hb hd ht (fun z => kt z H locs g2 g3 g4) (fun z => kf z H locs g2 g3 g4)
theorem lc_icmp_eq {x y : Int32} {off : Int} {tgt : Nat} (C : lc_B cc X) (hd : decode cc pc = .ok (.if_icmp .eq off, 3)) (ht : (pc : Int) + off = (tgt : Int)) (kt : x = y → cn_G X tgt la st ws cells slots) (kf : ¬ x = y → cn_G X (pc + 3) la st ws cells slots) : cn_G X pc la (.int y :: .int x :: st) ws cells slots := by
  obtain ⟨⟨p, l, e, R, s, m, args, below⟩, meth, c, D, tA, A, Q⟩ := X
  obtain ⟨hx, hb⟩ := C
  intro H locs g2 g3 g4
  exact lv_icmp_eq hx hb hd ht (fun z => kt z H locs g2 g3 g4) (fun z => kf z H locs g2 g3 g4)
theorem lc_icmp_ne {x y : Int32} {off : Int} {tgt : Nat} (C : lc_B cc X) (hd : decode cc pc = .ok (.if_icmp .ne off, 3)) (ht : (pc : Int) + off = (tgt : Int)) (kt : ¬ x = y → cn_G X tgt la st ws cells slots) (kf : x = y → cn_G X (pc + 3) la st ws cells slots) : cn_G X pc la (.int y :: .int x :: st) ws cells slots := by
  obtain ⟨⟨p, l, e, R, s, m, args, below⟩, meth, c, D, tA, A, Q⟩ := X
  obtain ⟨hx, hb⟩ := C
  intro H locs g2 g3 g4
  exact lv_icmp_ne hx hb hd ht (fun z => kt z H locs g2 g3 g4) (fun z => kf z H locs g2 g3 g4)
theorem lc_icmp_gt {x y : Int32} {off : Int} {tgt : Nat} (C : lc_B cc X) (hd : decode cc pc = .ok (.if_icmp .gt off, 3)) (ht : (pc : Int) + off = (tgt : Int)) (kt : y < x → cn_G X tgt la st ws cells slots) (kf : ¬ y < x → cn_G X (pc + 3) la st ws cells slots) : cn_G X pc la (.int y :: .int x :: st) ws cells slots := by
  obtain ⟨⟨p, l, e, R, s, m, args, below⟩, meth, c, D, tA, A, Q⟩ := X
  obtain ⟨hx, hb⟩ := C
  intro H locs g2 g3 g4
  exact lv_icmp_gt hx hb hd ht (fun z => kt z H locs g2 g3 g4) (fun z => kf z H locs g2 g3 g4)
theorem lc_lcmp {x y : Int64} {v : Int32} (C : lc_B cc X) (hd : decode cc pc = .ok (.lcmp, 1)) (hv : lg_cmp x y = v) (kk : cn_G X (pc + 1) la (.int v :: st) ws cells slots) : cn_G X pc la (.long y :: .long x :: st) ws cells slots := by
  obtain ⟨⟨p, l, e, R, s, m, args, below⟩, meth, c, D, tA, A, Q⟩ := X
  obtain ⟨hx, hb⟩ := C
  subst hv
  intro H locs g2 g3 g4
  exact W.lcmp hx hb hd (kk H locs g2 g3 g4)
theorem lc_swap {a b c : va_W} (kk : cn_G X pc la st ((a ++ c) ++ b) cells slots) : cn_G X pc la st ((a ++ b) ++ c) cells slots := by
  obtain ⟨⟨p, l, e, R, s, m, args, below⟩, meth, c, D, tA, A, Q⟩ := X
  intro H locs g2 g3 g4
  exact kk H locs (va_P.swap g2) (va_D.swap g3) g4
theorem lc_st {st1 : List Value} (h : st = st1) (kk : cn_G X pc la st1 ws cells slots) : cn_G X pc la st ws cells slots := h ▸ kk
theorem lc_table {dflt lo hi : Int} {offs : Array Int} {len : Nat} {x : Int32} {off : Int} {tgt : Nat} (C : lc_B cc X) (hd : decode cc pc = .ok (.tableswitch dflt lo hi offs, len)) (hsz : (offs.size : Int) = hi - lo + 1) (hs : fm_tsel dflt lo hi offs x.toInt = off) (ht : (pc : Int) + off = (tgt : Int)) (kk : cn_G X tgt la st ws cells slots) : cn_G X pc la (.int x :: st) ws cells slots := by
  obtain ⟨⟨p, l, e, R, s, m, args, below⟩, meth, c, D, tA, A, Q⟩ := X
  obtain ⟨hx, hb⟩ := C
  intro H locs g2 g3 g4
  unfold fm_tsel at hs
  by_cases h : x.toInt < lo ∨ hi < x.toInt
  · rw [if_pos h] at hs
    exact lv_tableOut hx hb hd h (by rw [hs]; exact ht) (kk H locs g2 g3 g4)
  · rw [if_neg h] at hs
    have hlt : (x.toInt - lo).toNat < offs.size := by omega
    refine lv_tableIn hx hb hd (fun z => h (Or.inl z)) (fun z => h (Or.inr z)) (off := off) ?_ ht (kk H locs g2 g3 g4)
    rw [← hs, Array.getElem?_eq_getElem hlt]
    simp [Array.getD, hlt]
end LC
/-- a walk's words and tables -/
def lc_C (Ts : List Cond) (own : String) (cc : ByteArray) (n : Nat) (tL : ClassId) (X : cn_X) : Prop := match X with
  | ((p, l, e, R, s, m, args, below), (meth, c, D, tA, A, Q)) => p.tables.exec = Jvm.exec ∧ c.code = cc ∧ c.maxLocals = n ∧ s.vm.findClass own = some m.cls ∧ (∀ w ∈ Ts, w.before args s = true) ∧ va_K D vwA (fm_tys SC tA ++ [(tL, .long)]) s ∧ (∀ q, s.heap.size ≤ q → A q)
theorem lc_C.b {Ts : List Cond} {own : String} {cc : ByteArray} {n : Nat} {tL : ClassId} {X : cn_X} (C : lc_C Ts own cc n tL X) : lc_B cc X := by
  obtain ⟨⟨p, l, e, R, s, m, args, below⟩, meth, c, D, tA, A, Q⟩ := X
  exact ⟨C.1, C.2.1⟩
theorem va_K_front {D : va_G} {cl : List vw_C} {t1 t2 : List (ClassId × FieldType)} {U : State} (h : va_K D cl (t1 ++ t2) U) : va_K D cl t1 U := ⟨h.1, fun k q hk => h.2 k q (by rw [List.getElem?_append_left (List.getElem?_eq_some_iff.mp hk).1]; exact hk)⟩
theorem fm_tys_6 {tA : Nat → ClassId} {tL : ClassId} : (fm_tys SC tA ++ [(tL, FieldType.long)])[6]? = some (tL, .long) := rfl
theorem fm_in {wp : va_W} {ad : Nat → Nat} {tA : Nat → ClassId} {sh : List fm_C} {M : fm_M} {k : Nat} {c : fm_C} (h : sh[k]? = some c) : (wp ++ fm_W ad tA sh M)[wp.length + k]? = some (ad k, fm_cell ad tA M k c) := by
  rw [List.getElem?_append_right (by omega), show wp.length + k - wp.length = k by omega]
  exact fm_W_at h
section LC2
variable {Ts : List Cond} {own : String} {cc : ByteArray} {n : Nat} {tL : ClassId} {X : cn_X} {pc : Nat} {la : Array Slot} {st : List Value} {ws : va_W} {cells slots : Nat}
theorem lc_lastore {i0 o N j : Nat} {f : Nat → Int64} {k : Int32} {x : Int64} (C : lc_C Ts own cc n tL X) (hd : decode cc pc = .ok (.lastore, 1)) (ha : ws[i0]? = some (o, .inl (tL, N, .inr (.inl f)))) (hk : k = nI j) (hj : j < N) (hN : N < 5000) (kk : cn_G X (pc + 1) la st (ws.set i0 (o, .inl (tL, N, .inr (.inl (vp_updL f j x))))) cells slots) : cn_G X pc la (.long x :: .int k :: .ref o :: st) ws cells slots := by
  obtain ⟨⟨p, l, e, R, s, m, args, below⟩, meth, c, D, tA, A, Q⟩ := X
  obtain ⟨hx, hb, hml, hown, hts, hK, hA⟩ := C
  subst hk
  intro H locs g2 g3 g4
  have hcl : (nI j).toNatClampNeg = j := nI_clamp (by omega)
  refine va_last hx hb hK g2 g3 g4 i0 6 ha fm_tys_6 (i := nI j) (fun z => z.elim (nI_pos (by omega)) (fun h => by rw [hcl] at h; omega)) hd (fun H1 locs1 q1 q2 q3 => ?_)
  rw [hcl] at q1 q2
  exact kk H1 locs1 q1 q2 q3
theorem lc_laload {i0 o N j : Nat} {f : Nat → Int64} {k : Int32} (C : lc_C Ts own cc n tL X) (hd : decode cc pc = .ok (.laload, 1)) (ha : ws[i0]? = some (o, .inl (tL, N, .inr (.inl f)))) (hk : k = nI j) (hj : j < N) (hN : N < 5000) (kk : cn_G X (pc + 1) la (.long (f j) :: st) ws cells slots) : cn_G X pc la (.int k :: .ref o :: st) ws cells slots := by
  obtain ⟨⟨p, l, e, R, s, m, args, below⟩, meth, c, D, tA, A, Q⟩ := X
  obtain ⟨hx, hb, hml, hown, hts, hK, hA⟩ := C
  subst hk
  intro H locs g2 g3 g4
  have hcl : (nI j).toNatClampNeg = j := nI_clamp (by omega)
  refine va_lald hx hb hK g2 i0 6 ha fm_tys_6 (i := nI j) (fun z => z.elim (nI_pos (by omega)) (fun h => by rw [hcl] at h; omega)) hd ?_
  rw [hcl]
  exact kk H locs g2 g3 g4
theorem lc_goodIn {y : MethodName} {bytes : ByteArray} {maxL : Nat} {ret : Option FieldType} {us : List Cond} (hgd : Ts.all goodWord = true) (hsub : ∀ w ∈ us, w ∈ Ts) (hc : Cond.code y bytes maxL ret ∈ Ts) : GoodIn Ts (Cond.code y bytes maxL ret :: us) := fun u hu => by
  have hm : u ∈ Ts := (List.mem_cons.mp hu).elim (fun e => e ▸ hc) (hsub u)
  exact ⟨hm, good_of_word (List.all_eq_true.mp hgd u hm)⟩
/-- a call of a method of one of the two systems -/
theorem lc_callV {sh : List fm_C} {ad : Nat → Nat} {M : fm_M} {wp : va_W} {b ci : Nat} {lb : List (Option Nat)} {Cn : String} {T : u_T} {N : Nat} {y : MethodName} {bytes : ByteArray} {maxL d1 index na : Nat} {ret : Option FieldType} {as : List fm_V} {post1 : Option Int32 → fm_M → Prop} {stk : List Value}
    (C : lc_C Ts own cc n tL X) (hgd : Ts.all goodWord = true) (hsub : ∀ w ∈ wsA, w ∈ Ts) (hM : fm_ct (vwA, sh, tyA, wsA) y bytes maxL ret d1 (.inr b :: as) M post1) (hb1 : sh[b]? = some (.inr (ci, lb))) (hc : vwA[ci]? = some (Cn, T, N)) (hcs : fm_cs Ts own index y bytes maxL ret na) (hinm : Cond.instanceMethod y ∈ Ts) (hsel : Cond.selects Cn y y ∈ Ts) (hlen : as.length = na) (hstk : stk = (as.map (fm_v ad)).reverse ++ .ref (ad b) :: st) (hdp : d1 + 1 ≤ (cn_R X).frames) (hlo : 19 + maxL + 46 * d1 ≤ (cn_R X).locals) (hcc : cells ≤ (cn_R X).cells) (hss : slots ≤ (cn_R X).slots) (hsz : la.size = n) (hst8 : (st.map fun v => v.category).sum ≤ 8) (hd : decode cc pc = .ok (.invokevirtual index, 3))
    (kk : ∀ r M1, post1 r M1 → cn_G X (pc + 3) la ((r.map Value.int).toList ++ st) (wp ++ fm_W ad (cn_tA X) sh M1) cells slots) : cn_G X pc la stk (wp ++ fm_W ad (cn_tA X) sh M) cells slots := by
  subst hstk
  subst hlen
  obtain ⟨⟨p, l, e, R, s, m, args, below⟩, meth, c, D, tA, A, Q⟩ := X
  obtain ⟨hx, hb, hml, hown, hts, hK, hA⟩ := C
  obtain ⟨hcode, hlink, hini, hdc, hmL⟩ := hcs
  intro H locs g2 g3 g4
  have hK0 : va_K D vwA (fm_tys SC tA) s := va_K_front hK
  have hlo' : 19 + maxL + 46 * d1 ≤ R.locals := hlo
  have hrun := va_runV (R := R) (e := e) (below := below) (meth := meth) (H := H) (locs := locs) (cells := cells) (slots := slots) (nL := n) (C := Cn) (b := ad b) (As := as.map (fm_v ad)) (rest := st) (g := F0 m pc la ((as.map (fm_v ad)).reverse ++ .ref (ad b) :: st)) ⟨hx, hb, hml, hown, hts⟩ (hM l D ad tA H.size) ⟨callB_of as.length hts (lc_goodIn hgd hsub hcode) rfl rfl rfl (hts _ hini) (hts _ hlink) hdc ⟨hdp, by show 8 + (maxL + 11) + 46 * d1 ≤ R.locals; omega⟩, hts _ hinm, hts _ hsel⟩ ⟨fm_blind (vwA, sh, tyA, wsA) D ad tA H.size (.inr b :: as) M, va_recv hK g2 hc (fm_in hb1), fun U hU hW => ⟨rfl, by rw [hU], by rw [hU]; exact cn_lastP g2, va_K.moved hW.alike hK0, (cn_last g3).weaken (fun _ _ _ _ => trivial)⟩⟩ rfl (by simp) hsz rfl (lv_room hst8) hd ⟨hcc, hss⟩
  intro T2 hT Xs
  obtain ⟨v, st₀, t, T', L, h0, X', hL, e1, e2, ⟨⟨r, M1, hv, hp, hP1, hK1, hD1⟩, hz, hk⟩, stp⟩ := hrun T2 hT Xs
  have hv : v = r.map Value.int := by injection hv
  subst hv
  rw [h0] at hz hk
  have hfree : ∀ q, va_A (fm_W ad tA sh M) H.size q → A q := fun q h => by
    rcases h with ⟨k, e, h⟩ | h
    · exact (cn_last g3).2 k _ h
    · exact hA q (Nat.le_trans g4.1 h)
  obtain ⟨j1, j2⟩ := cn_join (H1 := t.heap) g2 g3 hk hfree hP1 hD1
  obtain ⟨t2, a1, b1⟩ := kk r M1 hp T'.heap (locs ++ L) (by rw [e1]; exact j1) j2 ⟨Nat.le_trans g4.1 (by rw [e1]; exact hz), fun q h1 h2 => by rw [e1, hk q (Nat.lt_of_lt_of_le h1 g4.1) (fun z => h2 (hfree q z))]; exact g4.2.1 q h1 h2, fun q hq => by
      rcases List.mem_append.mp hq with h | h
      · exact g4.2.2 q h
      · exact hfree _ (hL q h)⟩ T' rfl X'
  exact ⟨t2, stp t2 a1, b1⟩
end LC2
/-! THE HELPERS: the class's state, and an array of one long -/
def nZ (U : State) : Prop := ∀ ct c0, U.vm.findClass nISE = some ct → U.vm.findClass nIAE = some c0 → U.vm.assignable ct c0 = false
theorem nZ_move {V U : State} (hvm : V.vm.Alike U.vm) (h : nZ V) : nZ U := fun ct c0 h1 h2 => by
  rw [hvm.findClass] at h1 h2
  rw [hvm.assignable]
  exact h ct c0 h1 h2
def hZ (U : State) : Prop := tZ nIAE U ∧ tZ nISE U ∧ tZ nIOB U ∧ nZ U
theorem hZ_move {V U : State} (hW : V.WarmedH U.vm) (hh : ∀ (q : Nat) (cell : Cell), V.heap[q]? = some cell → U.heap[q]? = some cell) (h : hZ V) : hZ U := ⟨tZ_move hW hh h.1, tZ_move hW hh h.2.1, tZ_move hW hh h.2.2.1, nZ_move hW.alike h.2.2.2⟩
theorem hZ_call {U : State} {g : JFrame} {mk : MethodId} {a : Array Value} (h : hZ U) : hZ (U.calling g mk a) := ⟨tZ_call h.1, tZ_call h.2.1, tZ_call h.2.2.1, nZ_move (U := U.calling g mk a) (Vm.Alike.refl U.vm) h.2.2.2⟩
def hW (o : Nat) (tL : ClassId) (f : Nat → Int64) (ad : Nat → Nat) (tA : Nat → ClassId) (M : fm_M) : va_W := [(o, .inl (tL, 1, .inr (.inl f)))] ++ fm_W ad tA shC M
def lh_rm : Room := { frames := 7, cells := 1, slots := 6, locals := 208 }
def lh_Pc (D : va_G) (ad : Nat → Nat) (tA : Nat → ClassId) (tL : ClassId) (o sz : Nat) (as : List fm_V) (f : Nat → Int64) (M : fm_M) : Array Value → State → Prop :=
  va_Pc (as.map (fm_v ad) ++ [.ref o]) (fun U => U.heap.size = sz ∧ va_P D vwA (hW o tL f ad tA M) U.heap ∧ va_K D vwA (fm_tys SC tA ++ [(tL, .long)]) U ∧ va_D (fun _ => True) (hW o tL f ad tA M) ∧ hZ U)
def lh_Q (D : va_G) (ad : Nat → Nat) (tA : Nat → ClassId) (tL : ClassId) (o : Nat) (A : Nat → Prop) (post : Int32 → Int64 → fm_M → Prop) : Array Value → State → Outcome → State → Prop := fun _ st oc t =>
  (∃ (k : Int32) (f : Nat → Int64) (M : fm_M), oc = .returned (some (.int k)) ∧ post k (f 0) M ∧ va_P D vwA (hW o tL f ad tA M) t.heap ∧ va_D A (hW o tL f ad tA M)) ∧ va_F A st t
