/-! THROWING ENDS of the class's methods -/
def nIAE : String := "java/lang/IllegalArgumentException"
def nISE : String := "java/lang/IllegalStateException"
def nIOB : String := "java/lang/IndexOutOfBoundsException"
def nUp : List String := ["java/lang/RuntimeException", "java/lang/Exception"]
/-- the words of an exception that aren't kept by the tables alone -/
def tw_st (a b c : String) : Bool := decide (a = Bundle.tN) && (decide (b = "UNASSIGNED_STACK") && decide (c = Bundle.steD) || decide (b = "SUPPRESSED_SENTINEL") && decide (c = Bundle.listD))
def tw_bad (cls : String) : Cond → Bool
  | .castable a b => decide (a = cls) && decide (b = cls)
  | .declares x => decide (x = Bundle.init0 "java/lang/RuntimeException") || (decide (x = Bundle.init0 "java/lang/Exception") || decide (x = Bundle.init0 Bundle.tN))
  | .laysStatic a b c => tw_st a b c
  | .isRef (.static a b c) => tw_st a b c
  | _ => false
def tH (U : State) : Prop := ((Cond.laysStatic Bundle.tN "UNASSIGNED_STACK" Bundle.steD).before #[] U = true ∧ (Cond.isRef (.static Bundle.tN "UNASSIGNED_STACK" Bundle.steD)).before #[] U = true) ∧ (Cond.laysStatic Bundle.tN "SUPPRESSED_SENTINEL" Bundle.listD).before #[] U = true ∧ (Cond.isRef (.static Bundle.tN "SUPPRESSED_SENTINEL" Bundle.listD)).before #[] U = true
def tZ (cls : String) (U : State) : Prop := va_Nw (.castable cls cls) U ∧ va_Nw (.declares (Bundle.init0 "java/lang/RuntimeException")) U ∧ va_Nw (.declares (Bundle.init0 "java/lang/Exception")) U ∧ va_Nw (.declares (Bundle.init0 Bundle.tN)) U ∧ tH U
theorem tH_one {C n d : String} {V U : State} (hvm : V.vm.Alike U.vm) (hh : ∀ (q : Nat) (cell : Cell), V.heap[q]? = some cell → U.heap[q]? = some cell) (h : (Cond.laysStatic C n d).before #[] V = true ∧ (Cond.isRef (.static C n d)).before #[] V = true) : (Cond.laysStatic C n d).before #[] U = true ∧ (Cond.isRef (.static C n d)).before #[] U = true := by
  obtain ⟨h0, hr⟩ := h
  obtain ⟨c, k, i, f, a, cell, h1, h2, h3, h4, h5, h6, h7, h8, h9⟩ := Cond.laysStatic_spec h0
  obtain ⟨k', hi', he⟩ := State.fieldFound?_setVm hvm h2
  have hi : U.fieldFound? C n d = some (c, k', i, f) := hi'
  have f1 : U.vm.findClass C = some c := by rw [hvm.findClass]; exact h1
  have s1 : k'.statics = some a := by rw [he]; exact h4
  have s2 : k'.staticTypes[f.slot]? = some f.type := by rw [he]; exact h9
  have h5' := hh a cell h5
  constructor
  · simp [Cond.before, Cond.holds, Cond.value, f1, hi, s1, h5', h3, h6, h7, h8, s2]
  · simp only [Cond.before, Cond.holds, Cond.value, Term.eval, State.fieldNamed?, h2, hi, h3, h4, s1, h5, h5', h6] at hr ⊢
    simpa [h3, h4, s1, h5, h5', h6] using hr
theorem tH_move {V U : State} (hvm : V.vm.Alike U.vm) (hh : ∀ (q : Nat) (cell : Cell), V.heap[q]? = some cell → U.heap[q]? = some cell) (h : tH V) : tH U := ⟨tH_one hvm hh h.1, tH_one hvm hh h.2⟩
theorem tZ_move {cls : String} {V U : State} (hW : V.WarmedH U.vm) (hh : ∀ (q : Nat) (cell : Cell), V.heap[q]? = some cell → U.heap[q]? = some cell) (h : tZ cls V) : tZ cls U := ⟨va_Nw.warmC hW h.1, va_Nw.warmD hW h.2.1, va_Nw.warmD hW h.2.2.1, va_Nw.warmD hW h.2.2.2.1, tH_move hW.alike hh h.2.2.2.2⟩
theorem tZ_call {cls : String} {U : State} {g : JFrame} {mk : MethodId} {a : Array Value} (h : tZ cls U) : tZ cls (U.calling g mk a) := ⟨va_Nw.same rfl rfl h.1, va_Nw.same rfl rfl h.2.1, va_Nw.same rfl rfl h.2.2.1, va_Nw.same rfl rfl h.2.2.2.1, tH_move (U := U.calling g mk a) (Vm.Alike.refl U.vm) (fun _ _ q => q) h.2.2.2.2⟩
theorem tw_words {own cls : String} {ic : Nat} {args : Array Value} {s : State} (hall : (Bundle.ownAtoms0 own ic cls nUp).all (fun w => goodWord w || tw_bad cls w) = true) (hg : ∀ w ∈ Bundle.ownAtoms0 own ic cls nUp, goodWord w = true → w.before args s = true) (hz : tZ cls s) : ∀ w ∈ Bundle.ownAtoms0 own ic cls nUp, w.before args s = true := by
  intro w hw
  have h := List.all_eq_true.mp hall w hw
  by_cases g : goodWord w = true
  · exact hg w hw g
  · have h : tw_bad cls w = true := by simpa [g] using h
    clear hall hg hw g
    obtain ⟨z1, z2, z3, z4, ⟨z5, z6⟩, z7, z8⟩ := hz
    cases w with
    | castable a b =>
      simp only [tw_bad, Bool.and_eq_true, decide_eq_true_eq] at h
      obtain ⟨rfl, rfl⟩ := h
      exact va_Nw.use rfl z1
    | declares x =>
      simp only [tw_bad, Bool.or_eq_true, decide_eq_true_eq] at h
      rcases h with rfl | rfl | rfl
      · exact va_Nw.use rfl z2
      · exact va_Nw.use rfl z3
      · exact va_Nw.use rfl z4
    | laysStatic a b c =>
      simp only [tw_bad, tw_st, Bool.and_eq_true, Bool.or_eq_true, decide_eq_true_eq] at h
      obtain ⟨rfl, ⟨rfl, rfl⟩ | ⟨rfl, rfl⟩⟩ := h
      · exact z5
      · exact z7
    | isRef t =>
      cases t with
      | static a b c =>
        simp only [tw_bad, tw_st, Bool.and_eq_true, Bool.or_eq_true, decide_eq_true_eq] at h
        obtain ⟨rfl, ⟨rfl, rfl⟩ | ⟨rfl, rfl⟩⟩ := h
        · exact z6
        · exact z8
      | _ => simp [tw_bad] at h
    | _ => simp [tw_bad] at h
/-- the words of the methods that throw -/
def wO : List Cond := Bundle.ownAtoms0 "EscapeMill" 47 nIAE nUp ++ (Bundle.ownAtoms0 "EscapeMill" 61 nISE nUp ++ Bundle.ownAtoms0 "EscapeMill" 78 nIOB nUp)
def wN : List Cond := [.classLink "EscapeMill" 45 nIAE, .classLink "EscapeMill" 59 nISE, .classLink "EscapeMill" 76 nIOB, .initialized nIAE, .initialized nISE, .initialized nIOB]
def wsT : List Cond := wO.filter goodWord ++ (wN ++ wsA)
theorem wsT_A {w : Cond} (h : w ∈ wsA) : w ∈ wsT := List.mem_append_right _ (List.mem_append_right _ h)
theorem wsT_N {w : Cond} (h : w ∈ wN) : w ∈ wsT := List.mem_append_right _ (List.mem_append_left _ h)
theorem wsT_O {w : Cond} (h : w ∈ wO) (g : goodWord w = true) : w ∈ wsT := List.mem_append_left _ (List.mem_filter.mpr ⟨h, g⟩)
theorem wsT_good : wsT.all goodWord = true := by
  unfold wsT
  rw [List.all_append, List.all_append, wsA_good, Bool.and_true]
  have h1 : (wO.filter goodWord).all goodWord = true := List.all_eq_true.mpr (fun w h => (List.mem_filter.mp h).2)
  have h2 : wN.all goodWord = true := by decide +kernel
  rw [h1, h2]
  rfl
/-- which exception, by whom -/
def tw_x (cls : String) (ic inx : Nat) : Prop := (∀ w ∈ Bundle.ownAtoms0 "EscapeMill" ic cls nUp, w ∈ wO) ∧ (Bundle.ownAtoms0 "EscapeMill" ic cls nUp).all (fun w => goodWord w || tw_bad cls w) = true ∧ Cond.classLink "EscapeMill" inx cls ∈ wN ∧ Cond.initialized cls ∈ wN ∧ Bundle.fit cls = true
theorem tx_IAE : tw_x nIAE 47 45 := ⟨fun _ h => List.mem_append_left _ h, by decide +kernel, mem_i 0 rfl, mem_i 3 rfl, by decide +kernel⟩
theorem tx_ISE : tw_x nISE 61 59 := ⟨fun _ h => List.mem_append_right _ (List.mem_append_left _ h), by decide +kernel, mem_i 1 rfl, mem_i 4 rfl, by decide +kernel⟩
theorem tx_IOB : tw_x nIOB 78 76 := ⟨fun _ h => List.mem_append_right _ (List.mem_append_right _ h), by decide +kernel, mem_i 2 rfl, mem_i 5 rfl, by decide +kernel⟩
/-! a method that throws -/
def MQT (below : List Frame) (Qc : Array Value → State → Addr → State → Prop) (a : Array Value) (s : State) (mc ms : Nat) : State → Prop := fun t =>
  ∃ b, t.status = .running ∧ Ended t below (.threw b) ∧ Qc a s b t ∧ FrameEndT s (.threw b) t [] mc ms
def MetT (l : Launch) (y : MethodName) (ws : List Cond) (rm : Room) (Pc : Array Value → State → Prop) (Qc : Array Value → State → Addr → State → Prop) (mc ms : Nat) : Prop :=
  MetFree l y (headSpec ws rm) Pc (fun _ _ _ _ _ => True) (fun a st o t => ∃ b, o = .threw b ∧ Qc a st b t ∧ FrameEndT st o t [] mc ms)
theorem MetT.ofW {l : Launch} {y : MethodName} {ws ws' : List Cond} {rm : Room} {Pc : Array Value → State → Prop} {Qc : Array Value → State → Addr → State → Prop} {mc ms : Nat} {cc : ByteArray} {maxL : Nat} {ret : Option FieldType}
    (hy : plainName y.cls = true) (hw : ws = Cond.code y cc maxL ret :: ws')
    (body : ∀ p e s m args below meth c s₁, BodyLoose p l y (headSpec ws rm) cc maxL ret e s m args below meth c s₁ → c.maxLocals = maxL → Pc args s →
      W p l e (headSpec ws rm).room s m args below meth c s.heap [] 0 0 (MQT below Qc args s mc ms) (entryFrame m args maxL)) : MetT l y ws rm Pc Qc mc ms := by
  refine MetFree.of_bodyS (code := cc) (maxLocals := maxL) (ret := ret) hy ?_ ?_
  · intro args s m h hn
    obtain ⟨meth, c, h1, h2, h3, h4, h5, h6, -, -⟩ := Cond.code_spec hn (atoms_spec (ws := ws) h _ (by rw [hw]; exact List.mem_cons_self))
    exact ⟨meth, c, h1, h2, h3, h4, h5, h6⟩
  · intro p e s m args below meth c s₁ B hml hP _
    have hh0 : s₁.heap = s.heap := by rw [B.state]; rfl
    obtain ⟨t, a1, b, b1, b2, b3, b4⟩ := body p e s m args below meth c s₁ B hml hP s₁ hh0 (Stand.of_body B)
    exact ⟨t, .threw b, a1, b1, b2, b, rfl, b3, b4⟩
/-- what is there behind a throw -/
def tQ (cls : String) : Array Value → State → Addr → State → Prop := fun _ st b t => st.heap.size ≤ b ∧ (∀ q : Nat, q < st.heap.size → t.heap[q]? = st.heap[q]?) ∧ ∃ ce : Cell, t.heap[b]? = some ce ∧ ce.vm = .none ∧ st.vm.findClass cls = some ce.cls
def tRm : Room := { frames := 6, cells := 1, slots := 6, locals := 144 }
abbrev tw_ad (X : fm_X) : Nat → Nat := X.2.2.2.2.2.2.2.2.2.2.1
def tw_C (own : String) (cc : ByteArray) (n : Nat) (M : fm_M) (cls : String) (X : fm_X) : Prop := match X with
  | (p, l, e, s, m, args, below, meth, c, D, ad, tA) => p.tables.exec = Jvm.exec ∧ c.code = cc ∧ c.maxLocals = n ∧ s.vm.findClass own = some m.cls ∧ (∀ w ∈ wsT, w.before args s = true) ∧ va_P D vwA (fm_W ad tA shC M) s.heap ∧ va_K D vwA (fm_tys SC tA) s ∧ tZ cls s ∧ e.platform.stackTraces = false ∧ meth.locks = false ∧ c.exceptionTable.isEmpty = true
def tw_G (cls : String) (X : fm_X) (pc : Nat) (la : Array Slot) (st : List Value) : Prop := match X with
  | (p, l, e, s, m, args, below, meth, c, D, ad, tA) => W p l e tRm s m args below meth c s.heap [] 0 0 (MQT below (tQ cls) args s 1 6) (F0 m pc la st)
theorem tw_same {s U : State} {k n : Nat} (h : s.sameButNew U [] k n) : ∀ q : Nat, q < s.heap.size → U.heap[q]? = s.heap[q]? := by
  intro q hq
  obtain ⟨c, hc⟩ : ∃ c, s.heap[q]? = some c := ⟨_, Array.getElem?_eq_getElem hq⟩
  obtain ⟨c', h1, h2, h3, h4⟩ := h.2.2.2.2.2 q c hc
  have e : c'.slots = c.slots := Array.ext_getElem? (fun i => h4 i (by simp))
  rw [h1, hc, h2, e]
section TW
variable {own : String} {cc : ByteArray} {n : Nat} {M : fm_M} {cls : String} {X : fm_X} {pc : Nat} {la : Array Slot} {st : List Value}
theorem tw_iload_n {k : Fin 4} {i : Nat} {x : Int32} {lv : List (Nat × Value)} (C : tw_C own cc n M cls X) (hd : decode cc pc = .ok (.iload_n k, 1)) (hi : (k : Nat) = i) (hl : lv_has la n lv) (j : Nat) (hj : lv[j]? = some (i, .int x)) (kk : tw_G cls X (pc + 1) la (.int x :: st)) : tw_G cls X pc la st := by
  obtain ⟨p, l, e, s, m, args, below, meth, c, D, ad, tA⟩ := X
  obtain ⟨hx, hb, -⟩ := C
  exact lv_iload_n hx hb hd hi (lv_at hl j hj) kk
theorem tw_iload {i : Nat} {x : Int32} {lv : List (Nat × Value)} (C : tw_C own cc n M cls X) (hd : decode cc pc = .ok (.iload i, 2)) (hl : lv_has la n lv) (j : Nat) (hj : lv[j]? = some (i, .int x)) (kk : tw_G cls X (pc + 2) la (.int x :: st)) : tw_G cls X pc la st := by
  obtain ⟨p, l, e, s, m, args, below, meth, c, D, ad, tA⟩ := X
  obtain ⟨hx, hb, -⟩ := C
  exact lv_iload hx hb hd (lv_at hl j hj) kk
theorem tw_aload_n {k : Fin 4} {i h0 : Nat} {lv : List (Nat × Value)} (C : tw_C own cc n M cls X) (hd : decode cc pc = .ok (.aload_n k, 1)) (hi : (k : Nat) = i) (hl : lv_has la n lv) (j : Nat) (hj : lv[j]? = some (i, .ref h0)) (kk : tw_G cls X (pc + 1) la (.ref h0 :: st)) : tw_G cls X pc la st := by
  obtain ⟨p, l, e, s, m, args, below, meth, c, D, ad, tA⟩ := X
  obtain ⟨hx, hb, -⟩ := C
  exact lv_aload_n hx hb hd hi (lv_at hl j hj) kk
theorem tw_iconst {k : Int} {v : Int32} (C : tw_C own cc n M cls X) (hd : decode cc pc = .ok (.iconst k, 1)) (hv : Int32.ofInt k = v) (kk : tw_G cls X (pc + 1) la (.int v :: st)) : tw_G cls X pc la st := by
  obtain ⟨p, l, e, s, m, args, below, meth, c, D, ad, tA⟩ := X
  obtain ⟨hx, hb, -⟩ := C
  exact lv_iconst hx hb hd hv kk
theorem tw_bipush {k : Int} {v : Int32} (C : tw_C own cc n M cls X) (hd : decode cc pc = .ok (.bipush k, 2)) (hv : (Int8.ofInt k).toInt32 = v) (kk : tw_G cls X (pc + 2) la (.int v :: st)) : tw_G cls X pc la st := by
  obtain ⟨p, l, e, s, m, args, below, meth, c, D, ad, tA⟩ := X
  obtain ⟨hx, hb, -⟩ := C
  exact lv_bipush hx hb hd hv kk
theorem tw_if_eq {x : Int32} {off : Int} {tgt : Nat} (C : tw_C own cc n M cls X) (hd : decode cc pc = .ok (.ifCond .eq off, 3)) (ht : (pc : Int) + off = (tgt : Int)) (kt : x = 0 → tw_G cls X tgt la st) (kf : ¬ x = 0 → tw_G cls X (pc + 3) la st) : tw_G cls X pc la (.int x :: st) := by
  obtain ⟨p, l, e, s, m, args, below, meth, c, D, ad, tA⟩ := X
  obtain ⟨hx, hb, -⟩ := C
  exact lv_if_eq hx hb hd ht kt kf
theorem tw_if_ne {x : Int32} {off : Int} {tgt : Nat} (C : tw_C own cc n M cls X) (hd : decode cc pc = .ok (.ifCond .ne off, 3)) (ht : (pc : Int) + off = (tgt : Int)) (kt : ¬ x = 0 → tw_G cls X tgt la st) (kf : x = 0 → tw_G cls X (pc + 3) la st) : tw_G cls X pc la (.int x :: st) := by
  obtain ⟨p, l, e, s, m, args, below, meth, c, D, ad, tA⟩ := X
  obtain ⟨hx, hb, -⟩ := C
  exact lv_if_ne hx hb hd ht (fun z => kt z) (fun z => kf (by simpa using z))
theorem tw_if_lt {x : Int32} {off : Int} {tgt : Nat} (C : tw_C own cc n M cls X) (hd : decode cc pc = .ok (.ifCond .lt off, 3)) (ht : (pc : Int) + off = (tgt : Int)) (kt : x < 0 → tw_G cls X tgt la st) (kf : ¬ x < 0 → tw_G cls X (pc + 3) la st) : tw_G cls X pc la (.int x :: st) := by
  obtain ⟨p, l, e, s, m, args, below, meth, c, D, ad, tA⟩ := X
  obtain ⟨hx, hb, -⟩ := C
  exact lv_if_lt hx hb hd ht kt kf
theorem tw_icmp_le {x y : Int32} {off : Int} {tgt : Nat} (C : tw_C own cc n M cls X) (hd : decode cc pc = .ok (.if_icmp .le off, 3)) (ht : (pc : Int) + off = (tgt : Int)) (kt : x ≤ y → tw_G cls X tgt la st) (kf : ¬ x ≤ y → tw_G cls X (pc + 3) la st) : tw_G cls X pc la (.int y :: .int x :: st) := by
  obtain ⟨p, l, e, s, m, args, below, meth, c, D, ad, tA⟩ := X
  obtain ⟨hx, hb, -⟩ := C
  exact lv_icmp_le hx hb hd ht kt kf
theorem tw_icmp_lt {x y : Int32} {off : Int} {tgt : Nat} (C : tw_C own cc n M cls X) (hd : decode cc pc = .ok (.if_icmp .lt off, 3)) (ht : (pc : Int) + off = (tgt : Int)) (kt : x < y → tw_G cls X tgt la st) (kf : ¬ x < y → tw_G cls X (pc + 3) la st) : tw_G cls X pc la (.int y :: .int x :: st) := by
  obtain ⟨p, l, e, s, m, args, below, meth, c, D, ad, tA⟩ := X
  obtain ⟨hx, hb, -⟩ := C
  exact lv_icmp_lt hx hb hd ht kt kf
theorem tw_icmp_ge {x y : Int32} {off : Int} {tgt : Nat} (C : tw_C own cc n M cls X) (hd : decode cc pc = .ok (.if_icmp .ge off, 3)) (ht : (pc : Int) + off = (tgt : Int)) (kt : y ≤ x → tw_G cls X tgt la st) (kf : ¬ y ≤ x → tw_G cls X (pc + 3) la st) : tw_G cls X pc la (.int y :: .int x :: st) := by
  obtain ⟨p, l, e, s, m, args, below, meth, c, D, ad, tA⟩ := X
  obtain ⟨hx, hb, -⟩ := C
  exact lv_icmp_ge hx hb hd ht kt kf
theorem tw_get {k ci j index : Nat} {fl : List (Option Nat)} {f : Option Nat} {v : Value} (C : tw_C own cc n M cls X) (hd : decode cc pc = .ok (.getfield index, 3)) (hf : fm_fl wsA own index vwA ci j) (hk : shC[k]? = some (.inr (ci, fl))) (hj : fl[j]? = some f) (hv : fm_f (tw_ad X) M k j f = v) (kk : tw_G cls X (pc + 3) la (v :: st)) : tw_G cls X pc la (.ref (tw_ad X k) :: st) := by
  obtain ⟨p, l, e, s, m, args, below, meth, c, D, ad, tA⟩ := X
  obtain ⟨hx, hb, hml, hown, hts, hP, hK, -⟩ := C
  obtain ⟨C, T, n, hc, hjn, hin1, hlink, howner⟩ := hf
  have hts' : ∀ w ∈ wsA, w.before args s = true := fun w h => hts w (wsT_A h)
  subst hv
  exact va_get hx hb hts' hin1 hown hK hP k (fm_W_at hk) hc j hjn (hts' _ hlink) (fun x h => by rw [howner] at h; exact h) (by rw [List.getElem?_mapIdx, hj]; rfl) hd kk
theorem tw_aald {k t N i q : Nat} {rf : List Nat} {E : String} (C : tw_C own cc n M cls X) (hd : decode cc pc = .ok (.aaload, 1)) (hk : shC[k]? = some (.inl (t, N, rf))) (ht2 : ¬ t < 2) (ht : tyA[t]? = some (.object E)) (hi : i < N) (hN : N < 5000) (hq : rf[i]? = some q) (kk : tw_G cls X (pc + 1) la (.ref (tw_ad X q) :: st)) : tw_G cls X pc la (.int (nI i) :: .ref (tw_ad X k) :: st) := by
  obtain ⟨p, l, e, s, m, args, below, meth, c, D, ad, tA⟩ := X
  obtain ⟨hx, hb, hml, hown, hts, hP, hK, -⟩ := C
  have hcl : (nI i).toNatClampNeg = i := nI_clamp (by omega)
  have hat := fm_W_at (ad := ad) (tA := tA) (M := M) hk
  simp only [fm_cell, if_neg ht2] at hat
  refine va_aldq hx hb hK hP k t hat (fm_tys_at (S := SC) (tA := tA) ht) (i := nI i) (fun z => z.elim (nI_pos (by omega)) (fun h => by rw [hcl] at h; omega)) hd ?_
  rw [hcl, hq]
  exact kk
/-- a call that asks no memory -/
theorem tw_callS {y : MethodName} {bytes : ByteArray} {maxL d1 index na : Nat} {ret : Option FieldType} {as : List fm_V} {post1 : Option Int32 → fm_M → Prop} {stk : List Value} (C : tw_C own cc n M cls X) (hcs : fm_cs wsA own index y bytes maxL ret na) (hstt : Cond.static y ∈ wsA) (hM : fm_ct S0 y bytes maxL ret d1 as (fun _ _ => 0) post1) (hlen : as.length = na) (hstk : stk = (as.map (fm_v (tw_ad X))).reverse ++ st) (hd1 : d1 ≤ 2) (hsz : la.size = n) (hst8 : (st.map fun v => v.category).sum ≤ 8) (hd : decode cc pc = .ok (.invokestatic index, 3))
    (kk : ∀ r M1, post1 r M1 → tw_G cls X (pc + 3) la ((r.map Value.int).toList ++ st)) : tw_G cls X pc la stk := by
  subst hstk
  subst hlen
  obtain ⟨p, l, e, s, m, args, below, meth, c, D, ad, tA⟩ := X
  obtain ⟨hx, hb, hml, hown, hts, hP, hK, -⟩ := C
  obtain ⟨hcode, hlink, hini, hdc, hmL⟩ := hcs
  have hts' : ∀ w ∈ wsA, w.before args s = true := fun w h => hts w (wsT_A h)
  intro T hT Xs
  have hr := va_runS (R := tRm) (e := e) (below := below) (meth := meth) (H := s.heap) (locs := []) (cells := 0) (slots := 0) (nL := n) (As := as.map (fm_v ad)) (rest := st) (g := F0 m pc la ((as.map (fm_v ad)).reverse ++ st)) ⟨hx, hb, hml, hown, hts'⟩ (hM l D ad tA s.heap.size) ⟨callB_of as.length hts' (fm_good wsA_good hcode) rfl rfl rfl (hts' _ hini) (hts' _ hlink) hdc ⟨by show d1 + 1 ≤ 6; omega, by show 8 + (maxL + 11) + 46 * d1 ≤ 144; omega⟩, hts' _ hstt⟩ ⟨fm_blind S0 D ad tA s.heap.size as (fun _ _ => 0), fun U hU hW => ⟨rfl, by rw [hU], fun k q h => by simp [fm_W, S0] at h, va_K.moved hW.alike hK, ⟨fun i j a b h => by simp [fm_W, S0] at h, fun k q h => by simp [fm_W, S0] at h⟩⟩⟩ rfl (by simp) hsz rfl (lv_room hst8) hd ⟨Nat.zero_le _, Nat.zero_le _⟩
  obtain ⟨v, st₀, t, T', L, h0, X', hL, e1, e2, ⟨⟨r, M1, hv, hp, -, -, -⟩, hz, hk⟩, stp⟩ := hr T hT Xs
  have hv : v = r.map Value.int := by injection hv
  subst hv
  rw [h0] at hz hk
  have hfree : ∀ q, va_A (fm_W ad tA S0.2.1 (fun _ _ => 0)) s.heap.size q → s.heap.size ≤ q := fun q h => by
    rcases h with ⟨k, x, h⟩ | h
    · simp [fm_W, S0] at h
    · exact h
  have hTh : T'.heap = s.heap := by
    have h1 : T'.heap.size ≤ s.heap.size := X'.heapSize
    refine Array.ext_getElem? (fun i => ?_)
    by_cases hi : i < s.heap.size
    · rw [e1]
      exact hk i hi (fun z => absurd (hfree i z) (by omega))
    · rw [Array.getElem?_eq_none (by omega), Array.getElem?_eq_none (by omega)]
  obtain ⟨t2, a1, b1⟩ := kk r M1 hp T' hTh (Stand.forget (locs := []) X' (fun q hq => hfree _ (hL q hq)))
  exact ⟨t2, stp t2 a1, b1⟩
theorem tw_throw {ic inx : Nat} (C : tw_C "EscapeMill" cc n M cls X) (hx9 : tw_x cls ic inx) (hsz : la.size = n) (d0 : decode cc pc = .ok (.new inx, 3)) (d1 : decode cc (pc + 3) = .ok (.dup, 1)) (d2 : decode cc (pc + 4) = .ok (.invokespecial ic, 3)) (d3 : decode cc (pc + 7) = .ok (.athrow, 1)) : tw_G cls X pc la [] := by
  obtain ⟨p, l, e, s, m, args, below, meth, c, D, ad, tA⟩ := X
  obtain ⟨hx, hb, hml, hown, hts, hP, hK, hz, htr, hlk, htab⟩ := C
  obtain ⟨x1, x2, x3, x4, x5⟩ := hx9
  have hw := tw_words x2 (fun w h g => hts w (wsT_O (x1 w h) g)) hz
  have hins : (Cond.instantiable cls 6).before args s = true := hw _ (by simp [Bundle.ownAtoms0])
  obtain ⟨cX, kX0, hfX, -⟩ := Cond.instantiable_spec hins
  refine W.newcK hx hb hown (hts _ (wsT_N x3)) hins (hts _ (wsT_N x4)) rfl d0 (Nat.le_of_ble_eq_true rfl) (Nat.le_of_ble_eq_true rfl) hfX rfl (fun H1 kX hkX e1 z1 o1 => ?_)
  refine W.eq (g2 := F0 m (pc + 3) la [.ref s.heap.size]) rfl ?_
  refine lv_dup hx hb d1 rfl ?_
  intro T hT Xs
  obtain ⟨U, a1, a2, a3, a4, a5, ce, a6, a7⟩ := Xs.ctorThrow0 hx htr hown x5 (names := nUp) (by decide +kernel) hw (fun x h => by cases h) hfX hkX (a := s.heap.size) (by rw [hT]; exact e1) (Nat.le_refl _) (g := F0 m (pc + 3 + 1) la [.ref s.heap.size, .ref s.heap.size]) rfl (by rw [hml]; exact hsz) rfl rfl (rest := []) rfl (by rw [hb]; exact d2) (by rw [hb]; exact d3) (covers_of_empty htab _) (Nat.le_of_ble_eq_true rfl) (Nat.le_of_ble_eq_true rfl) hlk
  refine ⟨U, a1, s.heap.size, a2, a3, ⟨Nat.le_refl _, ?_, ce, a6, a7.vm, a7.cls⟩, ⟨_, rfl⟩, a4, a5⟩
  have h9 := tw_same a5
  exact h9
end TW
/-- THE CONTRACT of a method that throws: the memory is M, and stays -/
def fm_PcT (D : va_G) (ad : Nat → Nat) (tA : Nat → ClassId) (as : List fm_V) (M : fm_M) (cls : String) : Array Value → State → Prop := va_Pc (as.map (fm_v ad)) (fun U => va_P D vwA (fm_W ad tA shC M) U.heap ∧ va_K D vwA (fm_tys SC tA) U ∧ tZ cls U)
def fm_tt (y : MethodName) (cc : ByteArray) (maxL : Nat) (ret : Option FieldType) (as : List fm_V) (M : fm_M) (cls : String) : Prop :=
  ∀ (l : Launch) (D : va_G) (ad : Nat → Nat) (tA : Nat → ClassId), l.stackTraces = false → MetT l y (Cond.code y cc maxL ret :: wsT) tRm (fm_PcT D ad tA as M cls) (tQ cls) 1 6
theorem fm_sl_len (ad : Nat → Nat) (as : List fm_V) : (lg_sl (as.map (fm_v ad))).length = as.length := by
  induction as with
  | nil => rfl
  | cons a r ih =>
    simp only [List.map_cons, lg_sl, List.flatMap_cons] at ih ⊢
    rw [if_neg (by rw [fm_v_cat]; decide)]
    simp only [List.length_append, List.length_cons, List.length_nil, ih]
    omega
theorem tt_of {y : MethodName} {cc : ByteArray} {maxL : Nat} {ret : Option FieldType} {as : List fm_V} {M : fm_M} {cls : String} (hy : plainName y.cls = true) (hn : as.length ≤ maxL)
    (body : ∀ X la, tw_C y.cls cc maxL M cls X → lv_has la maxL (lv_args 0 (as.map (fm_v (tw_ad X)))) → tw_G cls X 0 la []) : fm_tt y cc maxL ret as M cls := by
  intro l D ad tA hst
  refine MetT.ofW (cc := cc) (maxL := maxL) (ret := ret) hy rfl ?_
  intro p e s m args below meth c s₁ B hml hv
  obtain ⟨rfl, hP, hK, hZ⟩ := hv
  have hl := lv_entry (as.map (fm_v ad)) (n := maxL) (by rw [fm_sl_len]; exact hn)
  rw [lg_entry_eq]
  have hts := atoms_spec (ws := Cond.code y cc maxL ret :: wsT) B.pre
  have htr : e.platform.stackTraces = false := by rw [B.admits.platform]; exact hst
  exact body (p, l, e, s, m, _, below, meth, c, D, ad, tA) _ ⟨B.exec, B.bytes, hml, findClass_of_methodNamed B.named, fun w h => hts w (List.mem_cons_of_mem _ h), hP, hK, hZ, htr, B.notSynchronized, B.noHandlers (hts _ List.mem_cons_self)⟩ hl
set_option maxRecDepth 100000 in
theorem k_E_parameters_t {v w : Int32} (M : fm_M) (h : ¬ (inR 5 v ∧ inR 3 w)) : fm_tt y_E_parameters b_E_parameters 3 (some .boolean) [.inr 0, .inl v, .inl w] M nIAE := by
  refine tt_of (by decide) (Nat.le_of_ble_eq_true rfl) (fun X la C hl => ?_)
  have thr : tw_G nIAE X 16 la [] := tw_throw C tx_IAE hl.1 d_E_parameters_16 d_E_parameters_19 d_E_parameters_20 d_E_parameters_23
  refine tw_iload_n C d_E_parameters_0 rfl hl 1 rfl ?_
  refine tw_callS (as := [.inl v]) (st := []) C cE_41 st_E_isMethod (k_E_isM_0 v _) rfl rfl (by omega) hl.1 (by decide) d_E_parameters_1 (fun r M1 hp => ?_)
  obtain ⟨b, rfl, hb, -⟩ := hp
  refine tw_if_eq (x := bI b) (st := []) (tgt := 16) C d_E_parameters_4 rfl (fun _ => thr) (fun z => ?_)
  have hv : inR 5 v := hb.mp (by cases b with | true => rfl | false => exact absurd rfl z)
  refine tw_iload_n C d_E_parameters_7 rfl hl 2 rfl ?_
  refine tw_if_lt (tgt := 16) C d_E_parameters_8 rfl (fun _ => thr) (fun z1 => ?_)
  refine tw_iload_n C d_E_parameters_11 rfl hl 2 rfl ?_
  refine tw_iconst (v := nI 2) C d_E_parameters_12 (by decide) ?_
  exact tw_icmp_le (tgt := 24) C d_E_parameters_13 rfl (fun z2 => absurd ⟨hv, inR_s (n := 2) (by decide) z1 z2⟩ h) (fun _ => thr)
set_option maxRecDepth 100000 in
theorem k_E_clear_t {v : Int32} (M : fm_M) (h : ¬ inR 5 v) : fm_tt y_E_clear b_E_clear 3 (some .int) [.inr 0, .inl v] M nIAE := by
  refine tt_of (by decide) (Nat.le_of_ble_eq_true rfl) (fun X la C hl => ?_)
  have thr : tw_G nIAE X 7 la [] := tw_throw C tx_IAE hl.1 d_E_clear_7 d_E_clear_10 d_E_clear_11 d_E_clear_14
  refine tw_iload_n C d_E_clear_0 rfl hl 1 rfl ?_
  refine tw_callS (as := [.inl v]) (st := []) C cE_41 st_E_isMethod (k_E_isM_0 v _) rfl rfl (by omega) hl.1 (by decide) d_E_clear_1 (fun r M1 hp => ?_)
  obtain ⟨b, rfl, hb, -⟩ := hp
  exact tw_if_ne (x := bI b) (st := []) (tgt := 15) C d_E_clear_4 rfl (fun z => absurd (hb.mp (by cases b with | true => rfl | false => exact absurd rfl z)) h) (fun _ => thr)
set_option maxRecDepth 100000 in
theorem k_E_put_t1 {v o x y z n : Int32} (M : fm_M) (h : ¬ (inR 5 v ∧ ∃ J, okI o x y z n J)) : fm_tt y_E_put b_E_put 7 (some .int) [.inr 0, .inl v, .inl o, .inl x, .inl y, .inl z, .inl n] M nIAE := by
  refine tt_of (by decide) (Nat.le_of_ble_eq_true rfl) (fun X la C hl => ?_)
  have thr : tw_G nIAE X 21 la [] := tw_throw C tx_IAE hl.1 d_E_put_21 d_E_put_24 d_E_put_25 d_E_put_28
  refine tw_iload_n C d_E_put_0 rfl hl 1 rfl ?_
  refine tw_callS (as := [.inl v]) (st := []) C cE_41 st_E_isMethod (k_E_isM_0 v _) rfl rfl (by omega) hl.1 (by decide) d_E_put_1 (fun r M1 hp => ?_)
  obtain ⟨b, rfl, hb, -⟩ := hp
  refine tw_if_eq (x := bI b) (st := []) (tgt := 21) C d_E_put_4 rfl (fun _ => thr) (fun z0 => ?_)
  have hv : inR 5 v := hb.mp (by cases b with | true => rfl | false => exact absurd rfl z0)
  refine tw_iload_n C d_E_put_7 rfl hl 2 rfl ?_
  refine tw_iload_n C d_E_put_8 rfl hl 3 rfl ?_
  refine tw_iload C d_E_put_9 hl 4 rfl ?_
  refine tw_iload C d_E_put_11 hl 5 rfl ?_
  refine tw_iload C d_E_put_13 hl 6 rfl ?_
  refine tw_callS (as := [.inl o, .inl x, .inl y, .inl z, .inl n]) (st := []) C cE_52 st_E_isInstruction (k_E_isInstruction_0 o x y z n _) rfl rfl (by omega) hl.1 (by decide) d_E_put_15 (fun r M1 hp => ?_)
  obtain ⟨b2, rfl, hb2, -⟩ := hp
  exact tw_if_ne (x := bI b2) (st := []) (tgt := 29) C d_E_put_18 rfl (fun z1 => absurd ⟨hv, hb2.mp (by cases b2 with | true => rfl | false => exact absurd rfl z1)⟩ h) (fun _ => thr)
set_option maxRecDepth 100000 in
theorem k_E_put_t2 {m : Nat} {o x y z n : Int32} (M : fm_M) (hm : m < 5) (hJ : ∃ J, okI o x y z n J) (h24 : M (kC m) 5 = nI 24) : fm_tt y_E_put b_E_put 7 (some .int) [.inr 0, .inl (nI m), .inl o, .inl x, .inl y, .inl z, .inl n] M nISE := by
  refine tt_of (by decide) (Nat.le_of_ble_eq_true rfl) (fun X la C hl => ?_)
  have thr : tw_G nISE X 43 la [] := tw_throw C tx_ISE hl.1 d_E_put_43 d_E_put_46 d_E_put_47 d_E_put_50
  refine tw_iload_n C d_E_put_0 rfl hl 1 rfl ?_
  refine tw_callS (as := [.inl (nI m)]) (st := []) C cE_41 st_E_isMethod (k_E_isM_0 (nI m) _) rfl rfl (by omega) hl.1 (by decide) d_E_put_1 (fun r M1 hp => ?_)
  obtain ⟨b, rfl, hb, -⟩ := hp
  have hbt : b = true := hb.mpr ⟨m, hm, rfl⟩
  subst hbt
  refine tw_if_eq (x := bI true) (st := []) (tgt := 21) C d_E_put_4 rfl (fun z0 => absurd z0 (by decide)) (fun _ => ?_)
  refine tw_iload_n C d_E_put_7 rfl hl 2 rfl ?_
  refine tw_iload_n C d_E_put_8 rfl hl 3 rfl ?_
  refine tw_iload C d_E_put_9 hl 4 rfl ?_
  refine tw_iload C d_E_put_11 hl 5 rfl ?_
  refine tw_iload C d_E_put_13 hl 6 rfl ?_
  refine tw_callS (as := [.inl o, .inl x, .inl y, .inl z, .inl n]) (st := []) C cE_52 st_E_isInstruction (k_E_isInstruction_0 o x y z n _) rfl rfl (by omega) hl.1 (by decide) d_E_put_15 (fun r M1 hp => ?_)
  obtain ⟨b2, rfl, hb2, -⟩ := hp
  have hbt : b2 = true := hb2.mpr hJ
  subst hbt
  refine tw_if_ne (x := bI true) (st := []) (tgt := 29) C d_E_put_18 rfl (fun _ => ?_) (fun z1 => absurd z1 (by decide))
  refine tw_aload_n C d_E_put_29 rfl hl 0 rfl ?_
  refine tw_get (k := 0) (v := .ref (tw_ad X 1)) C d_E_put_30 fE_11 rfl rfl rfl ?_
  refine tw_iload_n C d_E_put_33 rfl hl 1 rfl ?_
  refine tw_aald (k := 1) (q := kC m) C d_E_put_34 rfl (by decide) rfl hm (by decide) (lt5 (Q := fun m => [kC 0, kC 1, kC 2, kC 3, kC 4][m]? = some (kC m)) rfl rfl rfl rfl rfl m hm) ?_
  refine tw_get (k := kC m) (v := .int (M (kC m) 5)) C d_E_put_35 fE_56 (lt5 (Q := fun m => shC[kC m]? = some (.inr (0, [some (kCa m 0), some (kCa m 1), some (kCa m 2), some (kCa m 3), some (kCa m 4), none, none]))) rfl rfl rfl rfl rfl m hm) rfl rfl ?_
  refine tw_bipush (v := nI 24) C d_E_put_38 (by decide) ?_
  exact tw_icmp_lt (tgt := 51) C d_E_put_40 rfl (fun z1 => absurd z1 (by rw [h24]; decide)) (fun _ => thr)
set_option maxRecDepth 100000 in
theorem k_E_shown_t {v : Int32} {sh : Nat} (M : fm_M) (hsh : M 4 12 = nI sh) (hs4 : sh < 1000) (h : ¬ ∃ k, k < 32 ∧ k < sh ∧ v = nI k) : fm_tt y_E_shown b_E_shown 2 (some .int) [.inr 0, .inl v] M nIOB := by
  refine tt_of (by decide) (Nat.le_of_ble_eq_true rfl) (fun X la C hl => ?_)
  have thr : tw_G nIOB X 21 la [] := tw_throw C tx_IOB hl.1 d_E_shown_21 d_E_shown_24 d_E_shown_25 d_E_shown_28
  refine tw_iload_n C d_E_shown_0 rfl hl 1 rfl ?_
  refine tw_if_lt (tgt := 21) C d_E_shown_1 rfl (fun _ => thr) (fun z1 => ?_)
  refine tw_iload_n C d_E_shown_4 rfl hl 1 rfl ?_
  refine tw_bipush (v := nI 32) C d_E_shown_5 (by decide) ?_
  refine tw_icmp_ge (tgt := 21) C d_E_shown_7 rfl (fun _ => thr) (fun z2 => ?_)
  refine tw_iload_n C d_E_shown_10 rfl hl 1 rfl ?_
  refine tw_aload_n C d_E_shown_11 rfl hl 0 rfl ?_
  refine tw_get (k := 0) (v := .ref (tw_ad X 4)) C d_E_shown_12 fE_30 rfl rfl rfl ?_
  refine tw_get (k := 4) (v := .int (M 4 12)) C d_E_shown_15 fE_73 rfl rfl rfl ?_
  refine tw_icmp_lt (tgt := 29) C d_E_shown_18 rfl (fun z3 => ?_) (fun _ => thr)
  obtain ⟨k, hk, e⟩ := inR_y (n := 32) (by decide) z1 (Int32.not_le.mp z2)
  subst e
  rw [hsh] at z3
  exact absurd ⟨k, hk, by have := (nI_ltI (by omega) (by omega)).mp z3; omega, rfl⟩ h
