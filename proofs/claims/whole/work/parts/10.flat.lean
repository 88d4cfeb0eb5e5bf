/-! FLAT MEMORY. A system whose heap keeps its shape: numbers by cell and place. -/
abbrev fm_M : Type := Nat → Nat → Int32
abbrev fm_V : Type := Int32 ⊕ Nat
/-- a cell of the shape: an array (which array class, its length, the cells that it refers to), or an object (which class; field by field: none: a number; some k: the cell k) -/
abbrev fm_C : Type := (Nat × Nat × List Nat) ⊕ (Nat × List (Option Nat))
def fm_v (ad : Nat → Nat) (v : fm_V) : Value := match v with
  | .inl x => .int x
  | .inr k => .ref (ad k)
theorem fm_v_cat (ad : Nat → Nat) (v : fm_V) : (fm_v ad v).category = 1 := by
  rcases v with x | k <;> rfl
def fm_f (ad : Nat → Nat) (M : fm_M) (k j : Nat) (f : Option Nat) : Value := match f with
  | none => .int (M k j)
  | some q => .ref (ad q)
def fm_cell (ad : Nat → Nat) (tA : Nat → ClassId) (M : fm_M) (k : Nat) (c : fm_C) : va_E := match c with
  | .inl (t, n, rf) => .inl (tA t, n, if t < 2 then .inl (M k) else .inr (.inr (.inr (.inr (fun i => (rf[i]?).map ad)))))
  | .inr (ci, l) => .inr (ci, l.mapIdx (fm_f ad M k))
def fm_W (ad : Nat → Nat) (tA : Nat → ClassId) (Sh : List fm_C) (M : fm_M) : va_W := Sh.mapIdx (fun k c => (ad k, fm_cell ad tA M k c))
def fm_up (M : fm_M) (k j : Nat) (x : Int32) : fm_M := fun a b => if a = k ∧ b = j then x else M a b
theorem fm_up_s {M : fm_M} {k j : Nat} {x : Int32} : fm_up M k j x k j = x := by simp [fm_up]
theorem fm_up_n {M : fm_M} {k j a b : Nat} {x : Int32} (h : ¬ (a = k ∧ b = j)) : fm_up M k j x a b = M a b := by simp [fm_up, h]
theorem fm_up_c {M : fm_M} {k j a : Nat} {x : Int32} (h : a ≠ k) : fm_up M k j x a = M a := by funext b; simp [fm_up, h]
theorem fm_W_at {ad : Nat → Nat} {tA : Nat → ClassId} {Sh : List fm_C} {M : fm_M} {k : Nat} {c : fm_C} (h : Sh[k]? = some c) : (fm_W ad tA Sh M)[k]? = some (ad k, fm_cell ad tA M k c) := by
  simp [fm_W, List.getElem?_mapIdx, h]
theorem fm_cell_eq {ad : Nat → Nat} {tA : Nat → ClassId} {M M' : fm_M} {k : Nat} (h : M k = M' k) (c : fm_C) : fm_cell ad tA M k c = fm_cell ad tA M' k c := by
  rcases c with ⟨t, n, rf⟩ | ⟨ci, l⟩
  · simp only [fm_cell, h]
  · have e : fm_f ad M k = fm_f ad M' k := by
      funext j f
      cases f <;> simp [fm_f, h]
    simp only [fm_cell, e]
/-- an array's element is written -/
theorem fm_W_arr {ad : Nat → Nat} {tA : Nat → ClassId} {Sh : List fm_C} {M : fm_M} {k t n j : Nat} {rf : List Nat} {x : Int32} (h : Sh[k]? = some (.inl (t, n, rf))) (ht : t < 2) :
    (fm_W ad tA Sh M).set k (ad k, .inl (tA t, n, .inl (upd (M k) j x))) = fm_W ad tA Sh (fm_up M k j x) := by
  have hk : k < Sh.length := (List.getElem?_eq_some_iff.mp h).1
  apply List.ext_getElem?
  intro i
  by_cases hi : i = k
  · subst hi
    rw [fm_W_at h, List.getElem?_set_self (by simpa [fm_W] using hk)]
    have e : upd (M i) j x = fm_up M i j x i := by
      funext b
      simp [upd, fm_up]
    simp only [fm_cell, if_pos ht, e]
  · rw [List.getElem?_set_ne (fun q => hi q.symm)]
    simp only [fm_W, List.getElem?_mapIdx]
    cases Sh[i]? with
    | none => rfl
    | some c => simp only [Option.map_some]; rw [fm_cell_eq (fm_up_c hi)]
/-- a field is written -/
theorem fm_W_obj {ad : Nat → Nat} {tA : Nat → ClassId} {Sh : List fm_C} {M : fm_M} {k ci j : Nat} {l : List (Option Nat)} {x : Int32} (h : Sh[k]? = some (.inr (ci, l))) (hj : l[j]? = some none) :
    (fm_W ad tA Sh M).set k (ad k, .inr (ci, (l.mapIdx (fm_f ad M k)).set j (.int x))) = fm_W ad tA Sh (fm_up M k j x) := by
  have hk : k < Sh.length := (List.getElem?_eq_some_iff.mp h).1
  have hjl : j < l.length := (List.getElem?_eq_some_iff.mp hj).1
  apply List.ext_getElem?
  intro i
  by_cases hi : i = k
  · subst hi
    rw [fm_W_at h, List.getElem?_set_self (by simpa [fm_W] using hk)]
    have e : (l.mapIdx (fm_f ad M i)).set j (.int x) = l.mapIdx (fm_f ad (fm_up M i j x) i) := by
      apply List.ext_getElem?
      intro b
      by_cases hb : b = j
      · subst hb
        rw [List.getElem?_set_self (by simpa using hjl)]
        simp [List.getElem?_mapIdx, hj, fm_f, fm_up]
      · rw [List.getElem?_set_ne (fun q => hb q.symm)]
        simp only [List.getElem?_mapIdx]
        cases l[b]? with
        | none => rfl
        | some f => cases f <;> simp [fm_f, fm_up, hb]
    simp only [fm_cell, e]
  · rw [List.getElem?_set_ne (fun q => hi q.symm)]
    simp only [fm_W, List.getElem?_mapIdx]
    cases Sh[i]? with
    | none => rfl
    | some c => simp only [Option.map_some]; rw [fm_cell_eq (fm_up_c hi)]
/-- the locals, by their places; none: nothing is known of it -/
abbrev fm_L : Type := List (Option fm_V)
def fm_lv (ad : Nat → Nat) (ls : fm_L) : List (Nat × Value) := (List.range ls.length).filterMap (fun i => (ls[i]?.join).map (fun v => (i, fm_v ad v)))
theorem fm_lv_mem {ad : Nat → Nat} {ls : fm_L} {i : Nat} {w : Value} : (i, w) ∈ fm_lv ad ls ↔ ∃ v, ls[i]? = some (some v) ∧ fm_v ad v = w := by
  simp only [fm_lv, List.mem_filterMap, List.mem_range]
  constructor
  · rintro ⟨j, hj, h⟩
    cases hl : ls[j]? with
    | none => rw [hl] at h; simp at h
    | some o =>
      cases o with
      | none => rw [hl] at h; simp at h
      | some v =>
        rw [hl] at h
        simp only [Option.join, Option.bind_some, id, Option.map_some, Option.some.injEq, Prod.mk.injEq] at h
        obtain ⟨h1, h2⟩ := h
        subst h1
        exact ⟨v, hl, h2⟩
  · rintro ⟨v, hl, hw⟩
    refine ⟨i, (List.getElem?_eq_some_iff.mp hl).1, ?_⟩
    rw [hl, ← hw]
    rfl
theorem fm_lv_at {ad : Nat → Nat} {la : Array Slot} {nL : Nat} {ls : fm_L} (h : lv_has la nL (fm_lv ad ls)) {i : Nat} {v : fm_V} (hi : ls[i]? = some (some v)) : la[i]? = some (.val (fm_v ad v)) := h.2.2 (i, fm_v ad v) (fm_lv_mem.mpr ⟨v, hi, rfl⟩)
theorem fm_lv_set {ad : Nat → Nat} {la : Array Slot} {nL : Nat} {ls : fm_L} {i : Nat} {v : fm_V} (h : lv_has la nL ((i, fm_v ad v) :: (fm_lv ad ls).filter (fun q => !(q.1 == i) && !(q.1 + 1 == i && q.2.category == 2)))) : lv_has la nL (fm_lv ad (ls.set i (some v))) := by
  refine ⟨h.1, h.2.1, fun q hq => h.2.2 q ?_⟩
  obtain ⟨j, x⟩ := q
  obtain ⟨u, hu, hx⟩ := fm_lv_mem.mp hq
  by_cases hj : j = i
  · subst hj
    have hlt : j < ls.length := by
      have := (List.getElem?_eq_some_iff.mp hu).1
      simpa using this
    rw [List.getElem?_set_self hlt] at hu
    have hvu : v = u := by simpa using hu
    subst hvu; subst hx
    exact List.mem_cons_self
  · rw [List.getElem?_set_ne (fun q => hj q.symm)] at hu
    refine List.mem_cons_of_mem _ (List.mem_filter.mpr ⟨fm_lv_mem.mpr ⟨u, hu, hx⟩, ?_⟩)
    subst hx
    simp [hj, fm_v_cat]
/-- fewer are known -/
theorem fm_lv_sub {ad : Nat → Nat} {la : Array Slot} {nL : Nat} {ls ls' : fm_L} (h : lv_has la nL (fm_lv ad ls)) (hs : ∀ (i : Nat) (v : fm_V), ls'[i]? = some (some v) → ls[i]? = some (some v)) : lv_has la nL (fm_lv ad ls') := by
  refine ⟨h.1, h.2.1, fun q hq => h.2.2 q ?_⟩
  obtain ⟨j, x⟩ := q
  obtain ⟨u, hu, hx⟩ := fm_lv_mem.mp hq
  exact fm_lv_mem.mpr ⟨u, hs j u hu, hx⟩
/-- a system: its classes, its shape, the element types of its array classes (0: int, 1: boolean), its words -/
abbrev fm_S : Type := List vw_C × List fm_C × List FieldType × List Cond
def fm_tys (S : fm_S) (tA : Nat → ClassId) : List (ClassId × FieldType) := S.2.2.1.mapIdx (fun t ty => (tA t, ty))
theorem fm_tys_at {S : fm_S} {tA : Nat → ClassId} {t : Nat} {ty : FieldType} (h : S.2.2.1[t]? = some ty) : (fm_tys S tA)[t]? = some (tA t, ty) := by
  simp [fm_tys, List.getElem?_mapIdx, h]
/-- a method's end: what it answers, the memory behind it -/
def fm_Q (S : fm_S) (D : va_G) (ad : Nat → Nat) (tA : Nat → ClassId) (A : Nat → Prop) (post : Option Int32 → fm_M → Prop) : Array Value → State → Outcome → State → Prop := fun _ st oc t =>
  (∃ (r : Option Int32) (M : fm_M), oc = .returned (r.map Value.int) ∧ post r M ∧ va_P D S.1 (fm_W ad tA S.2.1 M) t.heap ∧ va_K D S.1 (fm_tys S tA) t ∧ va_D A (fm_W ad tA S.2.1 M)) ∧ va_F A st t
def fm_rm (d : Nat) : Room := { frames := d, cells := 0, slots := 0, locals := 46 * d }
def fm_Pc (S : fm_S) (D : va_G) (ad : Nat → Nat) (tA : Nat → ClassId) (sz : Nat) (as : List fm_V) (M : fm_M) : Array Value → State → Prop :=
  va_Pc (as.map (fm_v ad)) (fun U => U.heap.size = sz ∧ va_P D S.1 (fm_W ad tA S.2.1 M) U.heap ∧ va_K D S.1 (fm_tys S tA) U ∧ va_D (fun _ => True) (fm_W ad tA S.2.1 M))
/-- A METHOD'S CONTRACT over flat memory -/
def fm_ct (S : fm_S) (y : MethodName) (cc : ByteArray) (maxL : Nat) (ret : Option FieldType) (d : Nat) (as : List fm_V) (M : fm_M) (post : Option Int32 → fm_M → Prop) : Prop :=
  ∀ (l : Launch) (D : va_G) (ad : Nat → Nat) (tA : Nat → ClassId) (sz : Nat), Met l y (Cond.code y cc maxL ret :: S.2.2.2) (fm_rm d) (fm_Pc S D ad tA sz as M) (fm_Q S D ad tA (va_A (fm_W ad tA S.2.1 M) sz) post) 0 0 (va_A (fm_W ad tA S.2.1 M) sz)
/-- where a walk stands: the machine's parts -/
abbrev fm_X : Type _ := Program × Launch × Env × State × MethodId × Array Value × List Frame × Method × Code × va_G × (Nat → Nat) × (Nat → ClassId)
/-- the method: its class, code, locals, answer, depth -/
abbrev fm_Y : Type := String × ByteArray × Nat × Option FieldType × Nat
def fm_Ctx (S : fm_S) (Y : fm_Y) (X : fm_X) : Prop := match X with
  | (p, l, e, s, m, args, below, meth, c, D, ad, tA) =>
    p.tables.exec = Jvm.exec ∧ c.code = Y.2.1 ∧ c.maxLocals = Y.2.2.1 ∧ meth.sig.returnType = Y.2.2.2.1 ∧ s.vm.findClass Y.1 = some m.cls ∧ (∀ w ∈ S.2.2.2, w.before args s = true) ∧ va_K D S.1 (fm_tys S tA) s ∧ meth.locks = false ∧ S.2.2.2.all goodWord = true
def fm_G (S : fm_S) (Y : fm_Y) (X : fm_X) (M0 : fm_M) (post : Option Int32 → fm_M → Prop) (pc : Nat) (ls : fm_L) (st : List fm_V) (M : fm_M) : Prop := match X with
  | (p, l, e, s, m, args, below, meth, c, D, ad, tA) =>
    ∀ (la : Array Slot) (H : Heap) (locs : List Loc), lv_has la Y.2.2.1 (fm_lv ad ls) → va_P D S.1 (fm_W ad tA S.2.1 M) H → va_D (va_A (fm_W ad tA S.2.1 M0) s.heap.size) (fm_W ad tA S.2.1 M) → va_S (va_A (fm_W ad tA S.2.1 M0) s.heap.size) s.heap H locs →
      W p l e (fm_rm Y.2.2.2.2) s m args below meth c H locs 0 0 (MQ below (fm_Q S D ad tA (va_A (fm_W ad tA S.2.1 M0) s.heap.size) post) args s 0 0 (va_A (fm_W ad tA S.2.1 M0) s.heap.size)) (F0 m pc la (st.map (fm_v ad)))
section FM
variable {S : fm_S} {Y : fm_Y} {X : fm_X} {M0 M : fm_M} {post : Option Int32 → fm_M → Prop} {pc : Nat} {ls : fm_L} {st : List fm_V}
/-- fewer locals are known -/
theorem fm_less {ls' : fm_L} (hs : ∀ (i : Nat) (v : fm_V), ls'[i]? = some (some v) → ls[i]? = some (some v)) (h : fm_G S Y X M0 post pc ls' st M) : fm_G S Y X M0 post pc ls st M := by
  obtain ⟨p, l, e, s, m, args, below, meth, c, D, ad, tA⟩ := X
  intro la H locs hl hP hD hS
  exact h la H locs (fm_lv_sub hl hs) hP hD hS
theorem fm_top {x y : Int32} (e : x = y) (h : fm_G S Y X M0 post pc ls (.inl y :: st) M) : fm_G S Y X M0 post pc ls (.inl x :: st) M := e ▸ h
theorem fm_mem {M' : fm_M} (e : M = M') (h : fm_G S Y X M0 post pc ls st M') : fm_G S Y X M0 post pc ls st M := e ▸ h

theorem fm_iconst (hX : fm_Ctx S Y X) {pq : Nat} {n : Int} {v : Int32} (hd : decode Y.2.1 pc = .ok (.iconst n, 1)) (hv : Int32.ofInt n = v) (hq : pc + 1 = pq)
    (k : fm_G S Y X M0 post (pq) ls (.inl v :: st) M) : fm_G S Y X M0 post pc ls (st) M := by
  subst hq
  obtain ⟨p, l, e, s, m, args, below, meth, c, D, ad, tA⟩ := X
  obtain ⟨hx, hb, hml, hr, hown, hts, hK, hlk, hgd⟩ := hX
  intro la H locs hl hP hD hS
  exact lv_iconst hx hb hd hv (k la H locs hl hP hD hS)
theorem fm_bipush (hX : fm_Ctx S Y X) {pq : Nat} {n : Int} {v : Int32} (hd : decode Y.2.1 pc = .ok (.bipush n, 2)) (hv : (Int8.ofInt n).toInt32 = v) (hq : pc + 2 = pq)
    (k : fm_G S Y X M0 post (pq) ls (.inl v :: st) M) : fm_G S Y X M0 post pc ls (st) M := by
  subst hq
  obtain ⟨p, l, e, s, m, args, below, meth, c, D, ad, tA⟩ := X
  obtain ⟨hx, hb, hml, hr, hown, hts, hK, hlk, hgd⟩ := hX
  intro la H locs hl hP hD hS
  exact lv_bipush hx hb hd hv (k la H locs hl hP hD hS)
theorem fm_sipush (hX : fm_Ctx S Y X) {pq : Nat} {n : Int} {v : Int32} (hd : decode Y.2.1 pc = .ok (.sipush n, 3)) (hv : (Int16.ofInt n).toInt32 = v) (hq : pc + 3 = pq)
    (k : fm_G S Y X M0 post (pq) ls (.inl v :: st) M) : fm_G S Y X M0 post pc ls (st) M := by
  subst hq
  obtain ⟨p, l, e, s, m, args, below, meth, c, D, ad, tA⟩ := X
  obtain ⟨hx, hb, hml, hr, hown, hts, hK, hlk, hgd⟩ := hX
  intro la H locs hl hP hD hS
  exact lv_sipush hx hb hd hv (k la H locs hl hP hD hS)
theorem fm_ldc (hX : fm_Ctx S Y X) {pq : Nat} {index : Nat} {v : Int32} (hd : decode Y.2.1 pc = .ok (.ldc index, 2)) (hw : Cond.constant Y.1 index v ∈ S.2.2.2) (hq : pc + 2 = pq)
    (k : fm_G S Y X M0 post (pq) ls (.inl v :: st) M) : fm_G S Y X M0 post pc ls (st) M := by
  subst hq
  obtain ⟨p, l, e, s, m, args, below, meth, c, D, ad, tA⟩ := X
  obtain ⟨hx, hb, hml, hr, hown, hts, hK, hlk, hgd⟩ := hX
  intro la H locs hl hP hD hS
  exact lv_ldc hx hb hown (hts _ hw) hd (k la H locs hl hP hD hS)
theorem fm_iload_n (hX : fm_Ctx S Y X) {pq : Nat} {k0 : Fin 4} {i : Nat} {x : Int32} (hd : decode Y.2.1 pc = .ok (.iload_n k0, 1)) (hi : (k0 : Nat) = i) (hg : ls[i]? = some (some (.inl x))) (hq : pc + 1 = pq)
    (k : fm_G S Y X M0 post (pq) ls (.inl x :: st) M) : fm_G S Y X M0 post pc ls (st) M := by
  subst hq
  obtain ⟨p, l, e, s, m, args, below, meth, c, D, ad, tA⟩ := X
  obtain ⟨hx, hb, hml, hr, hown, hts, hK, hlk, hgd⟩ := hX
  intro la H locs hl hP hD hS
  exact lv_iload_n hx hb hd hi (fm_lv_at hl hg) (k la H locs hl hP hD hS)
theorem fm_iload (hX : fm_Ctx S Y X) {pq : Nat} {i : Nat} {x : Int32} (hd : decode Y.2.1 pc = .ok (.iload i, 2)) (hg : ls[i]? = some (some (.inl x))) (hq : pc + 2 = pq)
    (k : fm_G S Y X M0 post (pq) ls (.inl x :: st) M) : fm_G S Y X M0 post pc ls (st) M := by
  subst hq
  obtain ⟨p, l, e, s, m, args, below, meth, c, D, ad, tA⟩ := X
  obtain ⟨hx, hb, hml, hr, hown, hts, hK, hlk, hgd⟩ := hX
  intro la H locs hl hP hD hS
  exact lv_iload hx hb hd (fm_lv_at hl hg) (k la H locs hl hP hD hS)
theorem fm_aload_n (hX : fm_Ctx S Y X) {pq : Nat} {k0 : Fin 4} {i : Nat} {x : Nat} (hd : decode Y.2.1 pc = .ok (.aload_n k0, 1)) (hi : (k0 : Nat) = i) (hg : ls[i]? = some (some (.inr x))) (hq : pc + 1 = pq)
    (k : fm_G S Y X M0 post (pq) ls (.inr x :: st) M) : fm_G S Y X M0 post pc ls (st) M := by
  subst hq
  obtain ⟨p, l, e, s, m, args, below, meth, c, D, ad, tA⟩ := X
  obtain ⟨hx, hb, hml, hr, hown, hts, hK, hlk, hgd⟩ := hX
  intro la H locs hl hP hD hS
  exact lv_aload_n hx hb hd hi (fm_lv_at hl hg) (k la H locs hl hP hD hS)
theorem fm_aload (hX : fm_Ctx S Y X) {pq : Nat} {i : Nat} {x : Nat} (hd : decode Y.2.1 pc = .ok (.aload i, 2)) (hg : ls[i]? = some (some (.inr x))) (hq : pc + 2 = pq)
    (k : fm_G S Y X M0 post (pq) ls (.inr x :: st) M) : fm_G S Y X M0 post pc ls (st) M := by
  subst hq
  obtain ⟨p, l, e, s, m, args, below, meth, c, D, ad, tA⟩ := X
  obtain ⟨hx, hb, hml, hr, hown, hts, hK, hlk, hgd⟩ := hX
  intro la H locs hl hP hD hS
  exact lv_aload hx hb hd (fm_lv_at hl hg) (k la H locs hl hP hD hS)
theorem fm_istore_n (hX : fm_Ctx S Y X) {ls1 : fm_L} {pq : Nat} {k0 : Fin 4} {i : Nat} {x : Int32} (hd : decode Y.2.1 pc = .ok (.istore_n k0, 1)) (hi : (k0 : Nat) = i) (hn : i < Y.2.2.1) (hq : pc + 1 = pq) (hs : (ls.set i (some (.inl x))) = ls1)
    (k : fm_G S Y X M0 post (pq) ls1 (st) M) : fm_G S Y X M0 post pc ls (.inl x :: st) M := by
  subst hq
  subst hs
  obtain ⟨p, l, e, s, m, args, below, meth, c, D, ad, tA⟩ := X
  obtain ⟨hx, hb, hml, hr, hown, hts, hK, hlk, hgd⟩ := hX
  intro la H locs hl hP hD hS
  exact lv_istore_n hx hb hd hi hl hn rfl (fun la1 hl1 => k la1 H locs (fm_lv_set (v := .inl x) hl1) hP hD hS)
theorem fm_istore (hX : fm_Ctx S Y X) {ls1 : fm_L} {pq : Nat} {i : Nat} {x : Int32} (hd : decode Y.2.1 pc = .ok (.istore i, 2)) (hn : i < Y.2.2.1) (hq : pc + 2 = pq) (hs : (ls.set i (some (.inl x))) = ls1)
    (k : fm_G S Y X M0 post (pq) ls1 (st) M) : fm_G S Y X M0 post pc ls (.inl x :: st) M := by
  subst hq
  subst hs
  obtain ⟨p, l, e, s, m, args, below, meth, c, D, ad, tA⟩ := X
  obtain ⟨hx, hb, hml, hr, hown, hts, hK, hlk, hgd⟩ := hX
  intro la H locs hl hP hD hS
  exact lv_istore hx hb hd hl hn rfl (fun la1 hl1 => k la1 H locs (fm_lv_set (v := .inl x) hl1) hP hD hS)
theorem fm_astore_n (hX : fm_Ctx S Y X) {ls1 : fm_L} {pq : Nat} {k0 : Fin 4} {i : Nat} {x : Nat} (hd : decode Y.2.1 pc = .ok (.astore_n k0, 1)) (hi : (k0 : Nat) = i) (hn : i < Y.2.2.1) (hq : pc + 1 = pq) (hs : (ls.set i (some (.inr x))) = ls1)
    (k : fm_G S Y X M0 post (pq) ls1 (st) M) : fm_G S Y X M0 post pc ls (.inr x :: st) M := by
  subst hq
  subst hs
  obtain ⟨p, l, e, s, m, args, below, meth, c, D, ad, tA⟩ := X
  obtain ⟨hx, hb, hml, hr, hown, hts, hK, hlk, hgd⟩ := hX
  intro la H locs hl hP hD hS
  exact lv_astore_n hx hb hd hi hl hn rfl (fun la1 hl1 => k la1 H locs (fm_lv_set (v := .inr x) hl1) hP hD hS)
theorem fm_astore (hX : fm_Ctx S Y X) {ls1 : fm_L} {pq : Nat} {i : Nat} {x : Nat} (hd : decode Y.2.1 pc = .ok (.astore i, 2)) (hn : i < Y.2.2.1) (hq : pc + 2 = pq) (hs : (ls.set i (some (.inr x))) = ls1)
    (k : fm_G S Y X M0 post (pq) ls1 (st) M) : fm_G S Y X M0 post pc ls (.inr x :: st) M := by
  subst hq
  subst hs
  obtain ⟨p, l, e, s, m, args, below, meth, c, D, ad, tA⟩ := X
  obtain ⟨hx, hb, hml, hr, hown, hts, hK, hlk, hgd⟩ := hX
  intro la H locs hl hP hD hS
  exact lv_astore hx hb hd hl hn rfl (fun la1 hl1 => k la1 H locs (fm_lv_set (v := .inr x) hl1) hP hD hS)
theorem fm_iinc (hX : fm_Ctx S Y X) {ls1 : fm_L} {pq : Nat} {i : Nat} {n : Int} {x v : Int32} (hd : decode Y.2.1 pc = .ok (.iinc i n, 3)) (hg : ls[i]? = some (some (.inl x))) (hv : x + Int32.ofInt n = v) (hn : i < Y.2.2.1) (hq : pc + 3 = pq) (hs : (ls.set i (some (.inl v))) = ls1)
    (k : fm_G S Y X M0 post (pq) ls1 (st) M) : fm_G S Y X M0 post pc ls (st) M := by
  subst hq
  subst hs
  obtain ⟨p, l, e, s, m, args, below, meth, c, D, ad, tA⟩ := X
  obtain ⟨hx, hb, hml, hr, hown, hts, hK, hlk, hgd⟩ := hX
  intro la H locs hl hP hD hS
  obtain ⟨q, hq⟩ := List.getElem?_of_mem (fm_lv_mem (ad := ad).mpr ⟨.inl x, hg, rfl⟩)
  exact lv_iinc hx hb hd hl hq hv hn rfl (fun la1 hl1 => k la1 H locs (fm_lv_set (v := .inl v) hl1) hP hD hS)
theorem fm_iadd (hX : fm_Ctx S Y X) {pq : Nat} {x y v : Int32} (hd : decode Y.2.1 pc = .ok (.iadd, 1)) (hv : x + y = v) (hq : pc + 1 = pq)
    (k : fm_G S Y X M0 post (pq) ls (.inl v :: st) M) : fm_G S Y X M0 post pc ls (.inl y :: .inl x :: st) M := by
  subst hq
  obtain ⟨p, l, e, s, m, args, below, meth, c, D, ad, tA⟩ := X
  obtain ⟨hx, hb, hml, hr, hown, hts, hK, hlk, hgd⟩ := hX
  intro la H locs hl hP hD hS
  subst hv
  exact lv_iadd hx hb hd (k la H locs hl hP hD hS)
theorem fm_isub (hX : fm_Ctx S Y X) {pq : Nat} {x y v : Int32} (hd : decode Y.2.1 pc = .ok (.isub, 1)) (hv : x - y = v) (hq : pc + 1 = pq)
    (k : fm_G S Y X M0 post (pq) ls (.inl v :: st) M) : fm_G S Y X M0 post pc ls (.inl y :: .inl x :: st) M := by
  subst hq
  obtain ⟨p, l, e, s, m, args, below, meth, c, D, ad, tA⟩ := X
  obtain ⟨hx, hb, hml, hr, hown, hts, hK, hlk, hgd⟩ := hX
  intro la H locs hl hP hD hS
  subst hv
  exact lv_isub hx hb hd (k la H locs hl hP hD hS)
theorem fm_imul (hX : fm_Ctx S Y X) {pq : Nat} {x y v : Int32} (hd : decode Y.2.1 pc = .ok (.imul, 1)) (hv : x * y = v) (hq : pc + 1 = pq)
    (k : fm_G S Y X M0 post (pq) ls (.inl v :: st) M) : fm_G S Y X M0 post pc ls (.inl y :: .inl x :: st) M := by
  subst hq
  obtain ⟨p, l, e, s, m, args, below, meth, c, D, ad, tA⟩ := X
  obtain ⟨hx, hb, hml, hr, hown, hts, hK, hlk, hgd⟩ := hX
  intro la H locs hl hP hD hS
  subst hv
  exact lv_imul hx hb hd (k la H locs hl hP hD hS)
theorem fm_iand (hX : fm_Ctx S Y X) {pq : Nat} {x y v : Int32} (hd : decode Y.2.1 pc = .ok (.iand, 1)) (hv : x &&& y = v) (hq : pc + 1 = pq)
    (k : fm_G S Y X M0 post (pq) ls (.inl v :: st) M) : fm_G S Y X M0 post pc ls (.inl y :: .inl x :: st) M := by
  subst hq
  obtain ⟨p, l, e, s, m, args, below, meth, c, D, ad, tA⟩ := X
  obtain ⟨hx, hb, hml, hr, hown, hts, hK, hlk, hgd⟩ := hX
  intro la H locs hl hP hD hS
  subst hv
  exact lv_iand hx hb hd (k la H locs hl hP hD hS)
theorem fm_ior (hX : fm_Ctx S Y X) {pq : Nat} {x y v : Int32} (hd : decode Y.2.1 pc = .ok (.ior, 1)) (hv : x ||| y = v) (hq : pc + 1 = pq)
    (k : fm_G S Y X M0 post (pq) ls (.inl v :: st) M) : fm_G S Y X M0 post pc ls (.inl y :: .inl x :: st) M := by
  subst hq
  obtain ⟨p, l, e, s, m, args, below, meth, c, D, ad, tA⟩ := X
  obtain ⟨hx, hb, hml, hr, hown, hts, hK, hlk, hgd⟩ := hX
  intro la H locs hl hP hD hS
  subst hv
  exact lv_ior hx hb hd (k la H locs hl hP hD hS)
theorem fm_ixor (hX : fm_Ctx S Y X) {pq : Nat} {x y v : Int32} (hd : decode Y.2.1 pc = .ok (.ixor, 1)) (hv : x ^^^ y = v) (hq : pc + 1 = pq)
    (k : fm_G S Y X M0 post (pq) ls (.inl v :: st) M) : fm_G S Y X M0 post pc ls (.inl y :: .inl x :: st) M := by
  subst hq
  obtain ⟨p, l, e, s, m, args, below, meth, c, D, ad, tA⟩ := X
  obtain ⟨hx, hb, hml, hr, hown, hts, hK, hlk, hgd⟩ := hX
  intro la H locs hl hP hD hS
  subst hv
  exact lv_ixor hx hb hd (k la H locs hl hP hD hS)
theorem fm_ishl (hX : fm_Ctx S Y X) {pq : Nat} {x y v : Int32} (hd : decode Y.2.1 pc = .ok (.ishl, 1)) (hv : x <<< (y &&& 31) = v) (hq : pc + 1 = pq)
    (k : fm_G S Y X M0 post (pq) ls (.inl v :: st) M) : fm_G S Y X M0 post pc ls (.inl y :: .inl x :: st) M := by
  subst hq
  obtain ⟨p, l, e, s, m, args, below, meth, c, D, ad, tA⟩ := X
  obtain ⟨hx, hb, hml, hr, hown, hts, hK, hlk, hgd⟩ := hX
  intro la H locs hl hP hD hS
  subst hv
  exact lv_ishl hx hb hd (k la H locs hl hP hD hS)
theorem fm_ishr (hX : fm_Ctx S Y X) {pq : Nat} {x y v : Int32} (hd : decode Y.2.1 pc = .ok (.ishr, 1)) (hv : x >>> (y &&& 31) = v) (hq : pc + 1 = pq)
    (k : fm_G S Y X M0 post (pq) ls (.inl v :: st) M) : fm_G S Y X M0 post pc ls (.inl y :: .inl x :: st) M := by
  subst hq
  obtain ⟨p, l, e, s, m, args, below, meth, c, D, ad, tA⟩ := X
  obtain ⟨hx, hb, hml, hr, hown, hts, hK, hlk, hgd⟩ := hX
  intro la H locs hl hP hD hS
  subst hv
  exact lv_ishr hx hb hd (k la H locs hl hP hD hS)
theorem fm_dup (hX : fm_Ctx S Y X) {pq : Nat} {v : fm_V} (hd : decode Y.2.1 pc = .ok (.dup, 1)) (hq : pc + 1 = pq)
    (k : fm_G S Y X M0 post (pq) ls (v :: v :: st) M) : fm_G S Y X M0 post pc ls (v :: st) M := by
  subst hq
  obtain ⟨p, l, e, s, m, args, below, meth, c, D, ad, tA⟩ := X
  obtain ⟨hx, hb, hml, hr, hown, hts, hK, hlk, hgd⟩ := hX
  intro la H locs hl hP hD hS
  exact lv_dup hx hb hd (fm_v_cat ad v) (k la H locs hl hP hD hS)
theorem fm_pop (hX : fm_Ctx S Y X) {pq : Nat} {v : fm_V} (hd : decode Y.2.1 pc = .ok (.pop, 1)) (hq : pc + 1 = pq)
    (k : fm_G S Y X M0 post (pq) ls (st) M) : fm_G S Y X M0 post pc ls (v :: st) M := by
  subst hq
  obtain ⟨p, l, e, s, m, args, below, meth, c, D, ad, tA⟩ := X
  obtain ⟨hx, hb, hml, hr, hown, hts, hK, hlk, hgd⟩ := hX
  intro la H locs hl hP hD hS
  exact lv_pop hx hb hd (fm_v_cat ad v) (k la H locs hl hP hD hS)
theorem fm_dup_x1 (hX : fm_Ctx S Y X) {pq : Nat} {v u : fm_V} (hd : decode Y.2.1 pc = .ok (.dup_x1, 1)) (hq : pc + 1 = pq)
    (k : fm_G S Y X M0 post (pq) ls (v :: u :: v :: st) M) : fm_G S Y X M0 post pc ls (v :: u :: st) M := by
  subst hq
  obtain ⟨p, l, e, s, m, args, below, meth, c, D, ad, tA⟩ := X
  obtain ⟨hx, hb, hml, hr, hown, hts, hK, hlk, hgd⟩ := hX
  intro la H locs hl hP hD hS
  exact lv_dup_x1 hx hb hd (fm_v_cat ad v) (fm_v_cat ad u) (k la H locs hl hP hD hS)
theorem fm_dup_x2 (hX : fm_Ctx S Y X) {pq : Nat} {v u t : fm_V} (hd : decode Y.2.1 pc = .ok (.dup_x2, 1)) (hq : pc + 1 = pq)
    (k : fm_G S Y X M0 post (pq) ls (v :: u :: t :: v :: st) M) : fm_G S Y X M0 post pc ls (v :: u :: t :: st) M := by
  subst hq
  obtain ⟨p, l, e, s, m, args, below, meth, c, D, ad, tA⟩ := X
  obtain ⟨hx, hb, hml, hr, hown, hts, hK, hlk, hgd⟩ := hX
  intro la H locs hl hP hD hS
  exact lv_dup_x2 hx hb hd (fm_v_cat ad v) (fm_v_cat ad u) (fm_v_cat ad t) (k la H locs hl hP hD hS)
theorem fm_dup2 (hX : fm_Ctx S Y X) {pq : Nat} {v u : fm_V} (hd : decode Y.2.1 pc = .ok (.dup2, 1)) (hq : pc + 1 = pq)
    (k : fm_G S Y X M0 post (pq) ls (v :: u :: v :: u :: st) M) : fm_G S Y X M0 post pc ls (v :: u :: st) M := by
  subst hq
  obtain ⟨p, l, e, s, m, args, below, meth, c, D, ad, tA⟩ := X
  obtain ⟨hx, hb, hml, hr, hown, hts, hK, hlk, hgd⟩ := hX
  intro la H locs hl hP hD hS
  exact lv_dup2_11 hx hb hd (fm_v_cat ad v) (fm_v_cat ad u) (k la H locs hl hP hD hS)
theorem fm_if_eq (hX : fm_Ctx S Y X) {x : Int32} {off : Int} {tgt pq : Nat} (hd : decode Y.2.1 pc = .ok (.ifCond .eq off, 3)) (ht : (pc : Int) + off = (tgt : Int)) (hq : pc + 3 = pq)
    (kt : x = 0 → fm_G S Y X M0 post tgt ls st M) (kf : ¬ (x = 0) → fm_G S Y X M0 post pq ls st M) : fm_G S Y X M0 post pc ls (.inl x :: st) M := by
  subst hq
  obtain ⟨p, l, e, s, m, args, below, meth, c, D, ad, tA⟩ := X
  obtain ⟨hx, hb, hml, hr, hown, hts, hK, hlk, hgd⟩ := hX
  intro la H locs hl hP hD hS
  exact lv_if_eq hx hb hd ht (fun h => kt h la H locs hl hP hD hS) (fun h => kf h la H locs hl hP hD hS)
theorem fm_icmp_eq (hX : fm_Ctx S Y X) {x y : Int32} {off : Int} {tgt pq : Nat} (hd : decode Y.2.1 pc = .ok (.if_icmp .eq off, 3)) (ht : (pc : Int) + off = (tgt : Int)) (hq : pc + 3 = pq)
    (kt : x = y → fm_G S Y X M0 post tgt ls st M) (kf : ¬ (x = y) → fm_G S Y X M0 post pq ls st M) : fm_G S Y X M0 post pc ls (.inl y :: .inl x :: st) M := by
  subst hq
  obtain ⟨p, l, e, s, m, args, below, meth, c, D, ad, tA⟩ := X
  obtain ⟨hx, hb, hml, hr, hown, hts, hK, hlk, hgd⟩ := hX
  intro la H locs hl hP hD hS
  exact lv_icmp_eq hx hb hd ht (fun h => kt h la H locs hl hP hD hS) (fun h => kf h la H locs hl hP hD hS)
theorem fm_if_ne (hX : fm_Ctx S Y X) {x : Int32} {off : Int} {tgt pq : Nat} (hd : decode Y.2.1 pc = .ok (.ifCond .ne off, 3)) (ht : (pc : Int) + off = (tgt : Int)) (hq : pc + 3 = pq)
    (kt : ¬ x = 0 → fm_G S Y X M0 post tgt ls st M) (kf : x = 0 → fm_G S Y X M0 post pq ls st M) : fm_G S Y X M0 post pc ls (.inl x :: st) M := by
  subst hq
  obtain ⟨p, l, e, s, m, args, below, meth, c, D, ad, tA⟩ := X
  obtain ⟨hx, hb, hml, hr, hown, hts, hK, hlk, hgd⟩ := hX
  intro la H locs hl hP hD hS
  exact lv_if_ne hx hb hd ht (fun h => kt h la H locs hl hP hD hS) (fun h => kf h la H locs hl hP hD hS)
theorem fm_icmp_ne (hX : fm_Ctx S Y X) {x y : Int32} {off : Int} {tgt pq : Nat} (hd : decode Y.2.1 pc = .ok (.if_icmp .ne off, 3)) (ht : (pc : Int) + off = (tgt : Int)) (hq : pc + 3 = pq)
    (kt : ¬ x = y → fm_G S Y X M0 post tgt ls st M) (kf : x = y → fm_G S Y X M0 post pq ls st M) : fm_G S Y X M0 post pc ls (.inl y :: .inl x :: st) M := by
  subst hq
  obtain ⟨p, l, e, s, m, args, below, meth, c, D, ad, tA⟩ := X
  obtain ⟨hx, hb, hml, hr, hown, hts, hK, hlk, hgd⟩ := hX
  intro la H locs hl hP hD hS
  exact lv_icmp_ne hx hb hd ht (fun h => kt h la H locs hl hP hD hS) (fun h => kf h la H locs hl hP hD hS)
theorem fm_if_lt (hX : fm_Ctx S Y X) {x : Int32} {off : Int} {tgt pq : Nat} (hd : decode Y.2.1 pc = .ok (.ifCond .lt off, 3)) (ht : (pc : Int) + off = (tgt : Int)) (hq : pc + 3 = pq)
    (kt : x < 0 → fm_G S Y X M0 post tgt ls st M) (kf : ¬ (x < 0) → fm_G S Y X M0 post pq ls st M) : fm_G S Y X M0 post pc ls (.inl x :: st) M := by
  subst hq
  obtain ⟨p, l, e, s, m, args, below, meth, c, D, ad, tA⟩ := X
  obtain ⟨hx, hb, hml, hr, hown, hts, hK, hlk, hgd⟩ := hX
  intro la H locs hl hP hD hS
  exact lv_if_lt hx hb hd ht (fun h => kt h la H locs hl hP hD hS) (fun h => kf h la H locs hl hP hD hS)
theorem fm_icmp_lt (hX : fm_Ctx S Y X) {x y : Int32} {off : Int} {tgt pq : Nat} (hd : decode Y.2.1 pc = .ok (.if_icmp .lt off, 3)) (ht : (pc : Int) + off = (tgt : Int)) (hq : pc + 3 = pq)
    (kt : x < y → fm_G S Y X M0 post tgt ls st M) (kf : ¬ (x < y) → fm_G S Y X M0 post pq ls st M) : fm_G S Y X M0 post pc ls (.inl y :: .inl x :: st) M := by
  subst hq
  obtain ⟨p, l, e, s, m, args, below, meth, c, D, ad, tA⟩ := X
  obtain ⟨hx, hb, hml, hr, hown, hts, hK, hlk, hgd⟩ := hX
  intro la H locs hl hP hD hS
  exact lv_icmp_lt hx hb hd ht (fun h => kt h la H locs hl hP hD hS) (fun h => kf h la H locs hl hP hD hS)
theorem fm_if_ge (hX : fm_Ctx S Y X) {x : Int32} {off : Int} {tgt pq : Nat} (hd : decode Y.2.1 pc = .ok (.ifCond .ge off, 3)) (ht : (pc : Int) + off = (tgt : Int)) (hq : pc + 3 = pq)
    (kt : 0 ≤ x → fm_G S Y X M0 post tgt ls st M) (kf : ¬ (0 ≤ x) → fm_G S Y X M0 post pq ls st M) : fm_G S Y X M0 post pc ls (.inl x :: st) M := by
  subst hq
  obtain ⟨p, l, e, s, m, args, below, meth, c, D, ad, tA⟩ := X
  obtain ⟨hx, hb, hml, hr, hown, hts, hK, hlk, hgd⟩ := hX
  intro la H locs hl hP hD hS
  exact lv_if_ge hx hb hd ht (fun h => kt h la H locs hl hP hD hS) (fun h => kf h la H locs hl hP hD hS)
theorem fm_icmp_ge (hX : fm_Ctx S Y X) {x y : Int32} {off : Int} {tgt pq : Nat} (hd : decode Y.2.1 pc = .ok (.if_icmp .ge off, 3)) (ht : (pc : Int) + off = (tgt : Int)) (hq : pc + 3 = pq)
    (kt : y ≤ x → fm_G S Y X M0 post tgt ls st M) (kf : ¬ (y ≤ x) → fm_G S Y X M0 post pq ls st M) : fm_G S Y X M0 post pc ls (.inl y :: .inl x :: st) M := by
  subst hq
  obtain ⟨p, l, e, s, m, args, below, meth, c, D, ad, tA⟩ := X
  obtain ⟨hx, hb, hml, hr, hown, hts, hK, hlk, hgd⟩ := hX
  intro la H locs hl hP hD hS
  exact lv_icmp_ge hx hb hd ht (fun h => kt h la H locs hl hP hD hS) (fun h => kf h la H locs hl hP hD hS)
theorem fm_if_gt (hX : fm_Ctx S Y X) {x : Int32} {off : Int} {tgt pq : Nat} (hd : decode Y.2.1 pc = .ok (.ifCond .gt off, 3)) (ht : (pc : Int) + off = (tgt : Int)) (hq : pc + 3 = pq)
    (kt : 0 < x → fm_G S Y X M0 post tgt ls st M) (kf : ¬ (0 < x) → fm_G S Y X M0 post pq ls st M) : fm_G S Y X M0 post pc ls (.inl x :: st) M := by
  subst hq
  obtain ⟨p, l, e, s, m, args, below, meth, c, D, ad, tA⟩ := X
  obtain ⟨hx, hb, hml, hr, hown, hts, hK, hlk, hgd⟩ := hX
  intro la H locs hl hP hD hS
  exact lv_if_gt hx hb hd ht (fun h => kt h la H locs hl hP hD hS) (fun h => kf h la H locs hl hP hD hS)
theorem fm_icmp_gt (hX : fm_Ctx S Y X) {x y : Int32} {off : Int} {tgt pq : Nat} (hd : decode Y.2.1 pc = .ok (.if_icmp .gt off, 3)) (ht : (pc : Int) + off = (tgt : Int)) (hq : pc + 3 = pq)
    (kt : y < x → fm_G S Y X M0 post tgt ls st M) (kf : ¬ (y < x) → fm_G S Y X M0 post pq ls st M) : fm_G S Y X M0 post pc ls (.inl y :: .inl x :: st) M := by
  subst hq
  obtain ⟨p, l, e, s, m, args, below, meth, c, D, ad, tA⟩ := X
  obtain ⟨hx, hb, hml, hr, hown, hts, hK, hlk, hgd⟩ := hX
  intro la H locs hl hP hD hS
  exact lv_icmp_gt hx hb hd ht (fun h => kt h la H locs hl hP hD hS) (fun h => kf h la H locs hl hP hD hS)
theorem fm_if_le (hX : fm_Ctx S Y X) {x : Int32} {off : Int} {tgt pq : Nat} (hd : decode Y.2.1 pc = .ok (.ifCond .le off, 3)) (ht : (pc : Int) + off = (tgt : Int)) (hq : pc + 3 = pq)
    (kt : x ≤ 0 → fm_G S Y X M0 post tgt ls st M) (kf : ¬ (x ≤ 0) → fm_G S Y X M0 post pq ls st M) : fm_G S Y X M0 post pc ls (.inl x :: st) M := by
  subst hq
  obtain ⟨p, l, e, s, m, args, below, meth, c, D, ad, tA⟩ := X
  obtain ⟨hx, hb, hml, hr, hown, hts, hK, hlk, hgd⟩ := hX
  intro la H locs hl hP hD hS
  exact lv_if_le hx hb hd ht (fun h => kt h la H locs hl hP hD hS) (fun h => kf h la H locs hl hP hD hS)
theorem fm_icmp_le (hX : fm_Ctx S Y X) {x y : Int32} {off : Int} {tgt pq : Nat} (hd : decode Y.2.1 pc = .ok (.if_icmp .le off, 3)) (ht : (pc : Int) + off = (tgt : Int)) (hq : pc + 3 = pq)
    (kt : x ≤ y → fm_G S Y X M0 post tgt ls st M) (kf : ¬ (x ≤ y) → fm_G S Y X M0 post pq ls st M) : fm_G S Y X M0 post pc ls (.inl y :: .inl x :: st) M := by
  subst hq
  obtain ⟨p, l, e, s, m, args, below, meth, c, D, ad, tA⟩ := X
  obtain ⟨hx, hb, hml, hr, hown, hts, hK, hlk, hgd⟩ := hX
  intro la H locs hl hP hD hS
  exact lv_icmp_le hx hb hd ht (fun h => kt h la H locs hl hP hD hS) (fun h => kf h la H locs hl hP hD hS)
theorem fm_goto (hX : fm_Ctx S Y X) {off : Int} {tgt : Nat} (hd : decode Y.2.1 pc = .ok (.goto off, 3)) (ht : (pc : Int) + off = (tgt : Int))
    (k : fm_G S Y X M0 post (tgt) ls (st) M) : fm_G S Y X M0 post pc ls (st) M := by
  obtain ⟨p, l, e, s, m, args, below, meth, c, D, ad, tA⟩ := X
  obtain ⟨hx, hb, hml, hr, hown, hts, hK, hlk, hgd⟩ := hX
  intro la H locs hl hP hD hS
  exact lv_goto hx hb hd ht (k la H locs hl hP hD hS)
theorem fm_tableIn (hX : fm_Ctx S Y X) {dflt lo hi : Int} {offs : Array Int} {len : Nat} {x : Int32} {off : Int} {tgt : Nat} (hd : decode Y.2.1 pc = .ok (.tableswitch dflt lo hi offs, len)) (h1 : ¬ x.toInt < lo) (h2 : ¬ hi < x.toInt) (ho : offs[(x.toInt - lo).toNat]? = some off) (ht : (pc : Int) + off = (tgt : Int))
    (k : fm_G S Y X M0 post (tgt) ls (st) M) : fm_G S Y X M0 post pc ls (.inl x :: st) M := by
  obtain ⟨p, l, e, s, m, args, below, meth, c, D, ad, tA⟩ := X
  obtain ⟨hx, hb, hml, hr, hown, hts, hK, hlk, hgd⟩ := hX
  intro la H locs hl hP hD hS
  exact lv_tableIn hx hb hd h1 h2 ho ht (k la H locs hl hP hD hS)
theorem fm_tableOut (hX : fm_Ctx S Y X) {dflt lo hi : Int} {offs : Array Int} {len : Nat} {x : Int32} {tgt : Nat} (hd : decode Y.2.1 pc = .ok (.tableswitch dflt lo hi offs, len)) (h : x.toInt < lo ∨ hi < x.toInt) (ht : (pc : Int) + dflt = (tgt : Int))
    (k : fm_G S Y X M0 post (tgt) ls (st) M) : fm_G S Y X M0 post pc ls (.inl x :: st) M := by
  obtain ⟨p, l, e, s, m, args, below, meth, c, D, ad, tA⟩ := X
  obtain ⟨hx, hb, hml, hr, hown, hts, hK, hlk, hgd⟩ := hX
  intro la H locs hl hP hD hS
  exact lv_tableOut hx hb hd h ht (k la H locs hl hP hD hS)
theorem fm_lookup (hX : fm_Ctx S Y X) {dflt : Int} {ps : Array (Int × Int)} {len : Nat} {x : Int32} {off : Int} {tgt : Nat} (hd : decode Y.2.1 pc = .ok (.lookupswitch dflt ps, len)) (hp : (ps.toList.zip (ps.toList.drop 1)).all (fun (a, next) => a.1 < next.1) = true) (ho : Op.lookupswitch.offset ps.toList dflt x.toInt = off) (ht : (pc : Int) + off = (tgt : Int))
    (k : fm_G S Y X M0 post (tgt) ls (st) M) : fm_G S Y X M0 post pc ls (.inl x :: st) M := by
  obtain ⟨p, l, e, s, m, args, below, meth, c, D, ad, tA⟩ := X
  obtain ⟨hx, hb, hml, hr, hown, hts, hK, hlk, hgd⟩ := hX
  intro la H locs hl hP hD hS
  exact lv_lookup hx hb hd hp ho ht (k la H locs hl hP hD hS)
/-- a field instruction's words: the field j of class ci at the constant 'index' of class own -/
def fm_fl (ws : List Cond) (own : String) (index : Nat) (cls : List vw_C) (ci j : Nat) : Prop :=
  ∃ (C : String) (T : u_T) (n : Nat), cls[ci]? = some (C, T, n) ∧ j < n ∧ (∀ w ∈ u_ws C T n, w ∈ ws) ∧ Cond.fieldLink own index C (T j).2.1 (T j).2.2.1 ∈ ws ∧ (T j).1 = C
/-- a field that is written -/
def fm_fp (cls : List vw_C) (ci j : Nat) (ty : FieldType) : Prop :=
  ∃ (C : String) (T : u_T) (n : Nat) (ty0 : Nat → FieldType), cls[ci]? = some (C, T, n) ∧ (∀ k, k < n → parseFieldDescriptor (T k).2.2.1 = some (ty0 k)) ∧ (∀ a, a < n → ∀ b, b < n → a ≠ b → (T a).2.1 ≠ (T b).2.1) ∧ (T j).2.2.2 = false ∧ ty0 j = ty
theorem fm_getr (hX : fm_Ctx S Y X) {pq : Nat} {ci j index : Nat} {a : Nat} {l : List (Option Nat)} (hf : fm_fl S.2.2.2 Y.1 index S.1 ci j) (ha : S.2.1[a]? = some (.inr (ci, l))) {q : Nat} (hv : l[j]? = some (some q)) (hd : decode Y.2.1 pc = .ok (.getfield index, 3)) (hq : pc + 3 = pq)
    (k : fm_G S Y X M0 post (pq) ls (.inr q :: st) M) : fm_G S Y X M0 post pc ls (.inr a :: st) M := by
  subst hq
  obtain ⟨p, l, e, s, m, args, below, meth, c, D, ad, tA⟩ := X
  obtain ⟨hx, hb, hml, hr, hown, hts, hK, hlk, hgd⟩ := hX
  intro la H locs hl hP hD hS
  obtain ⟨C, T, n, hc, hj, hin, hlink, howner⟩ := hf
  exact va_get hx hb hts hin hown hK hP a (fm_W_at ha) hc j hj (hts _ hlink) (fun x h => by rw [howner] at h; exact h) (v := .ref (ad q)) (by simp [List.getElem?_mapIdx, hv, fm_f]) hd (k la H locs hl hP hD hS)
theorem fm_geti (hX : fm_Ctx S Y X) {pq : Nat} {ci j index : Nat} {a : Nat} {l : List (Option Nat)} (hf : fm_fl S.2.2.2 Y.1 index S.1 ci j) (ha : S.2.1[a]? = some (.inr (ci, l))) (hv : l[j]? = some none) {v : Int32} (hm : M a j = v) (hd : decode Y.2.1 pc = .ok (.getfield index, 3)) (hq : pc + 3 = pq)
    (k : fm_G S Y X M0 post (pq) ls (.inl v :: st) M) : fm_G S Y X M0 post pc ls (.inr a :: st) M := by
  subst hq
  obtain ⟨p, l, e, s, m, args, below, meth, c, D, ad, tA⟩ := X
  obtain ⟨hx, hb, hml, hr, hown, hts, hK, hlk, hgd⟩ := hX
  intro la H locs hl hP hD hS
  obtain ⟨C, T, n, hc, hj, hin, hlink, howner⟩ := hf
  subst hm
  exact va_get hx hb hts hin hown hK hP a (fm_W_at ha) hc j hj (hts _ hlink) (fun x h => by rw [howner] at h; exact h) (v := .int (M a j)) (by simp [List.getElem?_mapIdx, hv, fm_f]) hd (k la H locs hl hP hD hS)
theorem fm_puti (hX : fm_Ctx S Y X) {pq : Nat} {ci j index : Nat} {a : Nat} {l : List (Option Nat)} (hf : fm_fl S.2.2.2 Y.1 index S.1 ci j) {ty : FieldType} (hp : fm_fp S.1 ci j ty) (ha : S.2.1[a]? = some (.inr (ci, l))) (hv : l[j]? = some none) {x : Int32} (hnar : narrow ty (.int x) = .int x) (hfit : fits ty (.int x) = true) (hd : decode Y.2.1 pc = .ok (.putfield index, 3)) (hq : pc + 3 = pq)
    (k : fm_G S Y X M0 post (pq) ls (st) (fm_up M a j x)) : fm_G S Y X M0 post pc ls (.inl x :: .inr a :: st) M := by
  subst hq
  obtain ⟨p, l, e, s, m, args, below, meth, c, D, ad, tA⟩ := X
  obtain ⟨hx, hb, hml, hr, hown, hts, hK, hlk, hgd⟩ := hX
  intro la H locs hl hP hD hS
  obtain ⟨C, T, n, hc, hj, hin, hlink, howner⟩ := hf
  obtain ⟨C', T', n', ty0, hc', hty, hnm, hfin, hty0⟩ := hp
  rw [hc] at hc'
  obtain ⟨rfl, rfl, rfl⟩ : C = C' ∧ T = T' ∧ n = n' := by
    have := Option.some.inj hc'
    exact ⟨congrArg (·.1) this, congrArg (·.2.1) this, congrArg (·.2.2) this⟩
  subst hty0
  exact va_put hx hb hts hin ty0 hty hnm hown hK hP hD hS a (fm_W_at ha) hc j hj (hts _ hlink) (fun x h => by rw [howner] at h; exact h) hfin (hty j hj) hnar hfit (by simpa using (List.getElem?_eq_some_iff.mp hv).1) hd
    (fun H1 locs1 hP1 hD1 hS1 => k la H1 locs1 hl (fm_W_obj ha hv ▸ hP1) (fm_W_obj ha hv ▸ hD1) hS1)
theorem fm_iald (hX : fm_Ctx S Y X) {pq : Nat} {a n j : Nat} {rf : List Nat} {i : Int32} (ha : S.2.1[a]? = some (.inl (0, n, rf))) (ht : S.2.2.1[0]? = some .int) (hi : i = nI j) (hj : j < n) (hn : n < 2 ^ 31) {v : Int32} (hm : M a j = v) (hd : decode Y.2.1 pc = .ok (.iaload, 1)) (hq : pc + 1 = pq)
    (k : fm_G S Y X M0 post (pq) ls (.inl v :: st) M) : fm_G S Y X M0 post pc ls (.inl i :: .inr a :: st) M := by
  subst hq
  obtain ⟨p, l, e, s, m, args, below, meth, c, D, ad, tA⟩ := X
  obtain ⟨hx, hb, hml, hr, hown, hts, hK, hlk, hgd⟩ := hX
  intro la H locs hl hP hD hS
  subst hi
  have hin : vp_in (nI j) n := vp_in_nI hj hn
  have hcl : (nI j).toNatClampNeg = j := nI_clamp (Nat.lt_trans hj hn)
  have hw := fm_W_at (ad := ad) (tA := tA) (M := M) ha
  subst hm
  refine va_iald hx hb hK hP a 0 hw (fm_tys_at ht) hin hd ?_
  rw [hcl]
  exact k la H locs hl hP hD hS
theorem fm_zald (hX : fm_Ctx S Y X) {pq : Nat} {a n j : Nat} {rf : List Nat} {i : Int32} (ha : S.2.1[a]? = some (.inl (1, n, rf))) (ht : S.2.2.1[1]? = some .boolean) (hi : i = nI j) (hj : j < n) (hn : n < 2 ^ 31) {v : Int32} (hm : M a j = v) (hd : decode Y.2.1 pc = .ok (.baload, 1)) (hq : pc + 1 = pq)
    (k : fm_G S Y X M0 post (pq) ls (.inl v :: st) M) : fm_G S Y X M0 post pc ls (.inl i :: .inr a :: st) M := by
  subst hq
  obtain ⟨p, l, e, s, m, args, below, meth, c, D, ad, tA⟩ := X
  obtain ⟨hx, hb, hml, hr, hown, hts, hK, hlk, hgd⟩ := hX
  intro la H locs hl hP hD hS
  subst hi
  have hin : vp_in (nI j) n := vp_in_nI hj hn
  have hcl : (nI j).toNatClampNeg = j := nI_clamp (Nat.lt_trans hj hn)
  have hw := fm_W_at (ad := ad) (tA := tA) (M := M) ha
  subst hm
  refine va_zald hx hb hK hP a 1 hw (fm_tys_at ht) hin hd ?_
  rw [hcl]
  exact k la H locs hl hP hD hS
theorem fm_iast (hX : fm_Ctx S Y X) {pq : Nat} {a n j : Nat} {rf : List Nat} {i : Int32} (ha : S.2.1[a]? = some (.inl (0, n, rf))) (ht : S.2.2.1[0]? = some .int) (hi : i = nI j) (hj : j < n) (hn : n < 2 ^ 31) {x : Int32} (hd : decode Y.2.1 pc = .ok (.iastore, 1)) (hq : pc + 1 = pq)
    (k : fm_G S Y X M0 post (pq) ls (st) (fm_up M a j x)) : fm_G S Y X M0 post pc ls (.inl x :: .inl i :: .inr a :: st) M := by
  subst hq
  obtain ⟨p, l, e, s, m, args, below, meth, c, D, ad, tA⟩ := X
  obtain ⟨hx, hb, hml, hr, hown, hts, hK, hlk, hgd⟩ := hX
  intro la H locs hl hP hD hS
  subst hi
  have hin : vp_in (nI j) n := vp_in_nI hj hn
  have hcl : (nI j).toNatClampNeg = j := nI_clamp (Nat.lt_trans hj hn)
  have hw := fm_W_at (ad := ad) (tA := tA) (M := M) ha
  refine va_iast hx hb hK hP hD hS a 0 hw (fm_tys_at ht) hin hd (fun H1 locs1 hP1 hD1 hS1 => ?_)
  rw [hcl] at hP1 hD1
  exact k la H1 locs1 hl (fm_W_arr ha (by decide) ▸ hP1) (fm_W_arr ha (by decide) ▸ hD1) hS1
theorem fm_zast (hX : fm_Ctx S Y X) {pq : Nat} {a n j : Nat} {rf : List Nat} {i : Int32} (ha : S.2.1[a]? = some (.inl (1, n, rf))) (ht : S.2.2.1[1]? = some .boolean) (hi : i = nI j) (hj : j < n) (hn : n < 2 ^ 31) {x : Int32} (hx1 : vp_nar .boolean x = x) (hd : decode Y.2.1 pc = .ok (.bastore, 1)) (hq : pc + 1 = pq)
    (k : fm_G S Y X M0 post (pq) ls (st) (fm_up M a j x)) : fm_G S Y X M0 post pc ls (.inl x :: .inl i :: .inr a :: st) M := by
  subst hq
  obtain ⟨p, l, e, s, m, args, below, meth, c, D, ad, tA⟩ := X
  obtain ⟨hx, hb, hml, hr, hown, hts, hK, hlk, hgd⟩ := hX
  intro la H locs hl hP hD hS
  subst hi
  have hin : vp_in (nI j) n := vp_in_nI hj hn
  have hcl : (nI j).toNatClampNeg = j := nI_clamp (Nat.lt_trans hj hn)
  have hw := fm_W_at (ad := ad) (tA := tA) (M := M) ha
  refine va_zast hx hb hK hP hD hS a 1 hw (fm_tys_at ht) hin hd (fun H1 locs1 hP1 hD1 hS1 => ?_)
  rw [hcl, hx1] at hP1 hD1
  exact k la H1 locs1 hl (fm_W_arr ha (by decide) ▸ hP1) (fm_W_arr ha (by decide) ▸ hD1) hS1
theorem fm_aald (hX : fm_Ctx S Y X) {pq : Nat} {a n j t q : Nat} {rf : List Nat} {i : Int32} {ty : FieldType} (ha : S.2.1[a]? = some (.inl (t, n, rf))) (h2 : ¬ t < 2) (ht : S.2.2.1[t]? = some ty) (hty : ty.isReference = true) (hi : i = nI j) (hj : j < n) (hn : n < 2 ^ 31) (hv : rf[j]? = some q) (hd : decode Y.2.1 pc = .ok (.aaload, 1)) (hq : pc + 1 = pq)
    (k : fm_G S Y X M0 post (pq) ls (.inr q :: st) M) : fm_G S Y X M0 post pc ls (.inl i :: .inr a :: st) M := by
  subst hq
  obtain ⟨p, l, e, s, m, args, below, meth, c, D, ad, tA⟩ := X
  obtain ⟨hx, hb, hml, hr, hown, hts, hK, hlk, hgd⟩ := hX
  intro la H locs hl hP hD hS
  subst hi
  have hin : vp_in (nI j) n := vp_in_nI hj hn
  have hcl : (nI j).toNatClampNeg = j := nI_clamp (Nat.lt_trans hj hn)
  have hw := fm_W_at (ad := ad) (tA := tA) (M := M) ha
  simp only [fm_cell, if_neg h2] at hw
  refine W.aald (v := .ref (ad q)) (ty := ty) hx hb (hP a _ hw) ((hK.2 t _ (fm_tys_at ht)).1 n (fun j => va_rf ((rf[j]?).map ad))) hty (fun z => by cases z) (by show ¬ (nI j < 0 ∨ (arrV _ _ _).slots.size ≤ _); rw [arrV_size]; exact hin) (by show (arrV _ _ _).slots[_]? = _; rw [arrV_read _ _ (by rw [hcl]; exact hj), hcl]; show some (va_rf (Option.map ad rf[j]?)) = _; rw [hv]; rfl) rfl rfl hd ?_
  exact k la H locs hl hP hD hS
theorem fm_alen (hX : fm_Ctx S Y X) {pq : Nat} {a n t : Nat} {rf : List Nat} {ty : FieldType} (ha : S.2.1[a]? = some (.inl (t, n, rf))) (ht : S.2.2.1[t]? = some ty) (hd : decode Y.2.1 pc = .ok (.arraylength, 1)) (hq : pc + 1 = pq)
    (k : fm_G S Y X M0 post (pq) ls (.inl (nI n) :: st) M) : fm_G S Y X M0 post pc ls (.inr a :: st) M := by
  subst hq
  obtain ⟨p, l, e, s, m, args, below, meth, c, D, ad, tA⟩ := X
  obtain ⟨hx, hb, hml, hr, hown, hts, hK, hlk, hgd⟩ := hX
  intro la H locs hl hP hD hS
  exact va_alen hx hb hK hP a t (fm_W_at ha) (fm_tys_at ht) rfl hd (k la H locs hl hP hD hS)
theorem fm_iret (hX : fm_Ctx S Y X) {x : Int32} (hr0 : Y.2.2.2.1 = some .int) (hd : decode Y.2.1 pc = .ok (.ireturn, 1)) (k : post (some x) M) : fm_G S Y X M0 post pc ls [.inl x] M := by
  obtain ⟨p, l, e, s, m, args, below, meth, c, D, ad, tA⟩ := X
  obtain ⟨hx, hb, hml, hr, hown, hts, hK, hlk, hgd⟩ := hX
  intro la H locs hl hP hD hS
  exact W.iret hx hb (hr.trans hr0) (fun t ht hW => ⟨⟨some x, M, rfl, k, by rw [ht]; exact hP, va_K.moved hW.alike hK, hD⟩, hS.F ht⟩) hS.2.2 hd hlk
theorem fm_zret (hX : fm_Ctx S Y X) {x : Int32} (hr0 : Y.2.2.2.1 = some .boolean) (hn : narrow .boolean (.int x) = .int x) (hd : decode Y.2.1 pc = .ok (.ireturn, 1)) (k : post (some x) M) : fm_G S Y X M0 post pc ls [.inl x] M := by
  obtain ⟨p, l, e, s, m, args, below, meth, c, D, ad, tA⟩ := X
  obtain ⟨hx, hb, hml, hr, hown, hts, hK, hlk, hgd⟩ := hX
  intro la H locs hl hP hD hS
  exact W.zret hx hb (hr.trans hr0) hn (fun t ht hW => ⟨⟨some x, M, rfl, k, by rw [ht]; exact hP, va_K.moved hW.alike hK, hD⟩, hS.F ht⟩) hS.2.2 hd hlk
theorem fm_vret (hX : fm_Ctx S Y X) (hr0 : Y.2.2.2.1 = none) (hd : decode Y.2.1 pc = .ok (.return_, 1)) (k : post none M) : fm_G S Y X M0 post pc ls [] M := by
  obtain ⟨p, l, e, s, m, args, below, meth, c, D, ad, tA⟩ := X
  obtain ⟨hx, hb, hml, hr, hown, hts, hK, hlk, hgd⟩ := hX
  intro la H locs hl hP hD hS
  exact W.vret hx hb (hr.trans hr0) (fun t ht hW => ⟨⟨none, M, rfl, k, by rw [ht]; exact hP, va_K.moved hW.alike hK, hD⟩, hS.F ht⟩) hS.2.2 hd hlk
/-- the addresses of a world are its shape's: another memory has the same -/
theorem fm_D {A : Nat → Prop} {ad : Nat → Nat} {tA : Nat → ClassId} {Sh : List fm_C} {M M' : fm_M} (h : va_D A (fm_W ad tA Sh M)) : va_D A (fm_W ad tA Sh M') := by
  have key : ∀ (k : Nat) (q : Nat × va_E), (fm_W ad tA Sh M')[k]? = some q → ∃ e, (fm_W ad tA Sh M)[k]? = some (q.1, e) := by
    intro k q hq
    cases hk : Sh[k]? with
    | none => simp [fm_W, List.getElem?_mapIdx, hk] at hq
    | some c =>
      rw [fm_W_at hk] at hq
      have := Option.some.inj hq
      subst this
      exact ⟨_, fm_W_at hk⟩
  refine ⟨fun i j a b ha hb hab => ?_, fun k q hq => ?_⟩
  · obtain ⟨e1, h1⟩ := key i a ha
    obtain ⟨e2, h2⟩ := key j b hb
    exact h.1 i j _ _ h1 h2 hab
  · obtain ⟨e1, h1⟩ := key k q hq
    exact h.2 k (q.1, e1) h1
theorem fm_A {ad : Nat → Nat} {tA : Nat → ClassId} {Sh : List fm_C} {M M' : fm_M} {sz sz' q : Nat} (hs : sz ≤ sz') (h : va_A (fm_W ad tA Sh M) sz' q) : va_A (fm_W ad tA Sh M') sz q := by
  rcases h with ⟨k, e, h⟩ | h
  · cases hk : Sh[k]? with
    | none => simp [fm_W, List.getElem?_mapIdx, hk] at h
    | some c =>
      rw [fm_W_at hk] at h
      have := Option.some.inj h
      refine Or.inl ⟨k, fm_cell ad tA M' k c, ?_⟩
      rw [fm_W_at hk]
      have h1 : ad k = q := congrArg Prod.fst this
      rw [h1]
  · exact Or.inr (Nat.le_trans hs h)
theorem fm_blind (S : fm_S) (D : va_G) (ad : Nat → Nat) (tA : Nat → ClassId) (sz : Nat) (as : List fm_V) (M : fm_M) : FrameBlind (fm_Pc S D ad tA sz as M) := by
  intro a U g mk q
  obtain ⟨q0, q1, qP, qK, qD⟩ := q
  exact ⟨q0, q1, qP, va_K.moved (u := U) (U := U.calling g mk a) (Vm.Alike.refl U.vm) qK, qD⟩
theorem fm_cats (ad : Nat → Nat) (st : List fm_V) : ((st.map (fm_v ad)).map fun v => v.category).sum = st.length := by
  induction st with
  | nil => rfl
  | cons v r ih => simp only [List.map_cons, List.sum_cons, ih, fm_v_cat, List.length_cons]; omega
theorem fm_lv_args (ad : Nat → Nat) : ∀ (as : List fm_V) (n i : Nat) (v : fm_V), as[i]? = some v → (n + i, fm_v ad v) ∈ lv_args n (as.map (fm_v ad)) := by
  intro as
  induction as with
  | nil => intro n i v h; simp at h
  | cons a r ih =>
    intro n i v h
    simp only [List.map_cons, lv_args]
    rw [if_neg (by rw [fm_v_cat]; decide)]
    cases i with
    | zero =>
      simp only [List.getElem?_cons_zero, Option.some.injEq] at h
      subst h
      exact List.mem_cons_self
    | succ i =>
      simp only [List.getElem?_cons_succ] at h
      have := ih (n + 1) i v h
      refine List.mem_cons_of_mem _ ?_
      rw [show n + (i + 1) = n + 1 + i by omega]
      exact this
def fm_entry (as : List fm_V) (n : Nat) : fm_L := as.map some ++ List.replicate (n - as.length) none
/-- THE HEAD OF A METHOD -/
theorem fm_of {S : fm_S} {y : MethodName} {d maxL : Nat} {cc : ByteArray} {ret : Option FieldType} {as : List fm_V} {M : fm_M} {post : Option Int32 → fm_M → Prop} {ls : fm_L}
    (hy : plainName y.cls = true) (hgd : S.2.2.2.all goodWord = true) (hn : as.length ≤ maxL) (he : fm_entry as maxL = ls)
    (body : ∀ X, fm_Ctx S (y.cls, cc, maxL, ret, d) X → fm_G S (y.cls, cc, maxL, ret, d) X M post 0 ls [] M) : fm_ct S y cc maxL ret d as M post := by
  subst he
  intro l D ad tA sz
  refine Met.ofW (cc := cc) (maxL := maxL) (ret := ret) hy rfl ?_
  intro p e s m args below meth c s₁ B hml hv
  obtain ⟨rfl, hsz, hP, hK, hD0⟩ := hv
  subst hsz
  have hlen : (lg_sl (as.map (fm_v ad))).length = as.length := by
    clear hP hK hD0 B hn body
    induction as with
    | nil => rfl
    | cons a r ih =>
      simp only [List.map_cons, lg_sl, List.flatMap_cons] at ih ⊢
      rw [if_neg (by rw [fm_v_cat]; decide)]
      simp only [List.length_append, List.length_cons, List.length_nil, ih]
      omega
  have hl := lv_entry (as.map (fm_v ad)) (n := maxL) (by rw [hlen]; exact hn)
  rw [lg_entry_eq]
  refine body (p, l, e, s, m, _, below, meth, c, D, ad, tA) ⟨B.exec, B.bytes, hml, B.returns, findClass_of_methodNamed B.named, fun w h => atoms_spec (ws := Cond.code y cc maxL ret :: S.2.2.2) B.pre w (List.mem_cons_of_mem _ h), hK, B.notSynchronized, hgd⟩ _ _ [] ⟨hl.1, hl.2.1, fun q hq => ?_⟩ hP (hD0.self) va_S.rf
  obtain ⟨j, x⟩ := q
  obtain ⟨v, hv, hx⟩ := fm_lv_mem.mp hq
  subst hx
  refine hl.2.2 (j, fm_v ad v) ?_
  have h1 : as[j]? = some v := by
    simp only [fm_entry] at hv
    by_cases hj : j < as.length
    · rw [List.getElem?_append_left (by simpa using hj), List.getElem?_map] at hv
      cases ha : as[j]? with
      | none => rw [ha] at hv; simp at hv
      | some u => rw [ha] at hv; simpa using hv
    · rw [List.getElem?_append_right (by simpa using hj)] at hv
      have := List.mem_of_getElem? hv
      rw [List.mem_replicate] at this
      exact absurd this.2 (by simp)
  have h2 := fm_lv_args ad as 0 j v h1
  rw [Nat.zero_add] at h2
  exact h2
/-- behind a call -/
theorem fm_back {S : fm_S} {Y : fm_Y} {M0 M : fm_M} {post : Option Int32 → fm_M → Prop} {pc : Nat} {ls : fm_L} {st : List fm_V} {p : Program} {l : Launch} {e : Env} {s : State} {m : MethodId} {args : Array Value} {below : List Frame} {meth : Method} {c : Code} {D : va_G} {ad : Nat → Nat} {tA : Nat → ClassId}
    {post1 : Option Int32 → fm_M → Prop} {la : Array Slot} {H : Heap} {locs : List Loc} {st0 : List Value} {a : Array Value}
    (hr : va_Run p l e (fm_rm Y.2.2.2.2) s m args below meth c H locs 0 0 0 0 (F0 m pc la st0) (st.map (fm_v ad)) (fm_Q S D ad tA (va_A (fm_W ad tA S.2.1 M) H.size) post1 a) (va_A (fm_W ad tA S.2.1 M) H.size))
    (hl : lv_has la Y.2.2.1 (fm_lv ad ls)) (hD : va_D (va_A (fm_W ad tA S.2.1 M0) s.heap.size) (fm_W ad tA S.2.1 M)) (hS : va_S (va_A (fm_W ad tA S.2.1 M0) s.heap.size) s.heap H locs)
    (k : ∀ (r : Option Int32) (M1 : fm_M), post1 r M1 → fm_G S Y (p, l, e, s, m, args, below, meth, c, D, ad, tA) M0 post (pc + 3) ls (r.toList.map Sum.inl ++ st) M1) :
    W p l e (fm_rm Y.2.2.2.2) s m args below meth c H locs 0 0 (MQ below (fm_Q S D ad tA (va_A (fm_W ad tA S.2.1 M0) s.heap.size) post) args s 0 0 (va_A (fm_W ad tA S.2.1 M0) s.heap.size)) (F0 m pc la st0) := by
  intro T hT X
  obtain ⟨v, st₀, t, T', L, h0, X', hL, e1, e2, ⟨⟨r, M1, hv, hp, hP1, hK1, hD1⟩, hz, hk⟩, stp⟩ := hr T hT X
  have hv : v = r.map Value.int := by
    injection hv
  rw [h0] at hz hk
  have hfree : ∀ q, va_A (fm_W ad tA S.2.1 M) H.size q → va_A (fm_W ad tA S.2.1 M0) s.heap.size q := fun q h => fm_A hS.1 h
  have hS1 : va_S (va_A (fm_W ad tA S.2.1 M0) s.heap.size) s.heap T'.heap (locs ++ L) := by
    refine ⟨Nat.le_trans hS.1 (by rw [e1]; exact hz), fun q h1 h2 => ?_, fun q hq => ?_⟩
    · rw [e1, hk q (Nat.lt_of_lt_of_le h1 hS.1) (fun z => h2 (hfree q z))]
      exact hS.2.1 q h1 h2
    · rcases List.mem_append.mp hq with h | h
      · exact hS.2.2 q h
      · exact hfree _ (hL q h)
  obtain ⟨t2, a1, b1⟩ := k r M1 hp la T'.heap (locs ++ L) hl (by rw [e1]; exact hP1) (fm_D hD) hS1 T' rfl X'
  refine ⟨t2, stp t2 ?_, b1⟩
  have hst : v.toList ++ st.map (fm_v ad) = (r.toList.map Sum.inl ++ st).map (fm_v ad) := by
    rw [hv]
    cases r <;> simp [fm_v]
  rw [hst]
  exact a1

/-- a call's words -/
def fm_cs (ws : List Cond) (own : String) (index : Nat) (y : MethodName) (bytes : ByteArray) (maxL : Nat) (ret : Option FieldType) (n : Nat) : Prop :=
  Cond.code y bytes maxL ret ∈ ws ∧ Cond.methodLink own index y ∈ ws ∧ Cond.initialized y.cls ∈ ws ∧
  (y.cls ≠ "java/lang/invoke/MethodHandle" ∧ y.cls ≠ "java/lang/invoke/VarHandle" ∧ (parseMethodDescriptor y.desc).map (fun d => d.parameters.length) = some n) ∧ maxL ≤ 27
theorem fm_good {ws : List Cond} (hg : ws.all goodWord = true) {w : Cond} (hw : w ∈ ws) : GoodIn ws (w :: ws) := fun u hu => by
  have hm : u ∈ ws := (List.mem_cons.mp hu).elim (fun e => e ▸ hw) id
  exact ⟨hm, good_of_word (List.all_eq_true.mp hg u hm)⟩
theorem fm_callS (hX : fm_Ctx S Y X) {pq : Nat} {y : MethodName} {bytes : ByteArray} {maxL d1 index n : Nat} {ret : Option FieldType} {as : List fm_V} {post1 : Option Int32 → fm_M → Prop} (hcs : fm_cs S.2.2.2 Y.1 index y bytes maxL ret n) (hstt : Cond.static y ∈ S.2.2.2) (hM : fm_ct S y bytes maxL ret d1 as M post1) (hlen : as.length = n) {stk : List fm_V} (hstk : stk = as.reverse ++ st) (hdp : d1 + 1 ≤ Y.2.2.2.2) (hst8 : st.length ≤ 8) (hd : decode Y.2.1 pc = .ok (.invokestatic index, 3)) (hq : pc + 3 = pq)
    (k : ∀ (r : Option Int32) (M1 : fm_M), post1 r M1 → fm_G S Y X M0 post pq ls (r.toList.map Sum.inl ++ st) M1) : fm_G S Y X M0 post pc ls stk M := by
  subst hstk
  subst hlen
  subst hq
  obtain ⟨hcode, hlink, hini, hdc, hmL⟩ := hcs
  obtain ⟨p, l, e, s, m, args, below, meth, c, D, ad, tA⟩ := X
  obtain ⟨hx, hb, hml, hr, hown, hts, hK, hlk, hgd⟩ := hX
  intro la H locs hl hP hD hS
  refine fm_back (M := M) (va_runS (nL := Y.2.2.1) (As := as.map (fm_v ad)) (rest := st.map (fm_v ad)) ⟨hx, hb, hml, hown, hts⟩ (hM l D ad tA H.size) ⟨callB_of as.length hts (fm_good hgd hcode) rfl rfl rfl (hts _ hini) (hts _ hlink) hdc ⟨hdp, by show 8 + (maxL + 11) + 46 * d1 ≤ 46 * Y.2.2.2.2; omega⟩, hts _ hstt⟩ ⟨fm_blind S D ad tA H.size as M, fun U hU hW => ⟨rfl, by rw [hU], by rw [hU]; exact hP, va_K.moved hW.alike hK, hD.weaken (fun _ _ _ _ => trivial)⟩⟩ rfl (by simp) hl.1 (by simp) (lv_room (by rw [fm_cats]; exact hst8)) hd ⟨Nat.le_refl _, Nat.le_refl _⟩) hl hD hS k
theorem fm_callV (hX : fm_Ctx S Y X) {pq : Nat} {b ci : Nat} {lb : List (Option Nat)} {C : String} {T : u_T} {N : Nat} (hb1 : S.2.1[b]? = some (.inr (ci, lb))) (hc : S.1[ci]? = some (C, T, N)) {y : MethodName} {bytes : ByteArray} {maxL d1 index n : Nat} {ret : Option FieldType} {as : List fm_V} {post1 : Option Int32 → fm_M → Prop} (hcs : fm_cs S.2.2.2 Y.1 index y bytes maxL ret n) (hC : y.cls = C) (hinm : Cond.instanceMethod y ∈ S.2.2.2) (hsel : Cond.selects C y y ∈ S.2.2.2) (hM : fm_ct S y bytes maxL ret d1 (.inr b :: as) M post1) (hlen : as.length = n) {stk : List fm_V} (hstk : stk = as.reverse ++ .inr b :: st) (hdp : d1 + 1 ≤ Y.2.2.2.2) (hst8 : st.length ≤ 8) (hd : decode Y.2.1 pc = .ok (.invokevirtual index, 3)) (hq : pc + 3 = pq)
    (k : ∀ (r : Option Int32) (M1 : fm_M), post1 r M1 → fm_G S Y X M0 post pq ls (r.toList.map Sum.inl ++ st) M1) : fm_G S Y X M0 post pc ls stk M := by
  subst hstk
  subst hlen
  subst hq
  obtain ⟨hcode, hlink, hini, hdc, hmL⟩ := hcs
  obtain ⟨p, l, e, s, m, args, below, meth, c, D, ad, tA⟩ := X
  obtain ⟨hx, hb, hml, hr, hown, hts, hK, hlk, hgd⟩ := hX
  intro la H locs hl hP hD hS
  refine fm_back (M := M) (va_runV (nL := Y.2.2.1) (C := C) (b := ad b) (As := as.map (fm_v ad)) (rest := st.map (fm_v ad)) ⟨hx, hb, hml, hown, hts⟩ (hM l D ad tA H.size) ⟨callB_of as.length hts (fm_good hgd hcode) rfl rfl rfl (hts _ hini) (hts _ hlink) hdc ⟨hdp, by show 8 + (maxL + 11) + 46 * d1 ≤ 46 * Y.2.2.2.2; omega⟩, hts _ hinm, hts _ hsel⟩ ⟨fm_blind S D ad tA H.size (.inr b :: as) M, va_recv hK hP hc (fm_W_at hb1), fun U hU hW => ⟨rfl, by rw [hU], by rw [hU]; exact hP, va_K.moved hW.alike hK, hD.weaken (fun _ _ _ _ => trivial)⟩⟩ rfl (by simp) hl.1 (by simp [fm_v]) (lv_room (by rw [fm_cats]; exact hst8)) hd ⟨Nat.le_refl _, Nat.le_refl _⟩) hl hD hS k
def bI (b : Bool) : Int32 := if b then 1 else 0
theorem bI_t : bI true = 1 := rfl
theorem bI_f : bI false = 0 := rfl
theorem bI_0 {b : Bool} : bI b = 0 ↔ b = false := by cases b <;> decide
theorem bI_1 {b : Bool} : bI b = 1 ↔ b = true := by cases b <;> decide
theorem fm_nb (b : Bool) : narrow .boolean (.int (bI b)) = .int (bI b) := by cases b <;> rfl
theorem fm_fb (b : Bool) : fits .boolean (.int (bI b)) = true := by cases b <;> rfl
theorem fm_vb (b : Bool) : vp_nar .boolean (bI b) = bI b := by cases b <;> rfl
theorem fm_bit (x : Int32) {a : Nat} (h : a < 32) : (x >>> (nI a &&& 31)) &&& nI 1 = bI (bt x a) := by
  apply b_ext
  intro i hi
  have e1 : ∀ i, i < 32 → bt (nI 1) i = decide (i = 0) := by decide +kernel
  have e2 : ∀ i, i < 32 → bt (1 : Int32) i = decide (i = 0) := by decide +kernel
  rw [b_and, b_sshr a h x hi, e1 i hi]
  by_cases z : i = 0
  · subst z
    rw [Nat.add_zero, if_pos h]
    cases bt x a
    · rw [bI_f, b_0]; rfl
    · rw [bI_t, e2 0 (by omega)]; rfl
  · rw [decide_eq_false z, Bool.and_false]
    cases bt x a
    · rw [bI_f, b_0]
    · rw [bI_t, e2 i hi, decide_eq_false z]
theorem fm_dec {n : Nat} (h : 0 < n) : nI n + Int32.ofInt (-1) = nI (n - 1) := by
  obtain ⟨k, rfl⟩ : ∃ k, n = k + 1 := ⟨n - 1, by omega⟩
  exact pk_m1 k
/-- a loop that counts up -/
theorem fm_ind {Q : Nat → Prop} (n : Nat) (h : ∀ i, i ≤ n → (i < n → Q (i + 1)) → Q i) : ∀ i, i ≤ n → Q i := by
  have key : ∀ d i, i + d = n → Q i := by
    intro d
    induction d with
    | zero => intro i hi; exact h i (by omega) (fun z => absurd z (by omega))
    | succ d ih => intro i hi; exact h i (by omega) (fun _ => ih (i + 1) (by omega))
  exact fun i hi => key (n - i) i (by omega)
theorem fm_n_eq (hX : fm_Ctx S Y X) {a b : Nat} {off : Int} {tgt pq : Nat} (hd : decode Y.2.1 pc = .ok (.if_icmp .eq off, 3)) (ht : (pc : Int) + off = (tgt : Int)) (hq : pc + 3 = pq) (ha : a < 2 ^ 31) (hb : b < 2 ^ 31)
    (kt : a = b → fm_G S Y X M0 post tgt ls st M) (kf : ¬ (a = b) → fm_G S Y X M0 post pq ls st M) : fm_G S Y X M0 post pc ls (.inl (nI b) :: .inl (nI a) :: st) M :=
  fm_icmp_eq hX hd ht hq (fun h => kt ((nI_eq ha hb).mp h)) (fun h => kf (fun z => h ((nI_eq ha hb).mpr z)))
theorem fm_z_eq (hX : fm_Ctx S Y X) {a : Nat} {off : Int} {tgt pq : Nat} (hd : decode Y.2.1 pc = .ok (.ifCond .eq off, 3)) (ht : (pc : Int) + off = (tgt : Int)) (hq : pc + 3 = pq) (ha : a < 2 ^ 31)
    (kt : a = 0 → fm_G S Y X M0 post tgt ls st M) (kf : ¬ (a = 0) → fm_G S Y X M0 post pq ls st M) : fm_G S Y X M0 post pc ls (.inl (nI a) :: st) M := by
  have hb : (0 : Nat) < 2 ^ 31 := by decide
  exact fm_if_eq hX hd ht hq (fun h => kt ((nI_eq ha hb).mp (by rw [nI_0]; exact h))) (fun h => kf (fun z => h (by have := (nI_eq ha hb).mpr z; rw [nI_0] at this; exact this)))
theorem fm_n_ne (hX : fm_Ctx S Y X) {a b : Nat} {off : Int} {tgt pq : Nat} (hd : decode Y.2.1 pc = .ok (.if_icmp .ne off, 3)) (ht : (pc : Int) + off = (tgt : Int)) (hq : pc + 3 = pq) (ha : a < 2 ^ 31) (hb : b < 2 ^ 31)
    (kt : ¬ a = b → fm_G S Y X M0 post tgt ls st M) (kf : a = b → fm_G S Y X M0 post pq ls st M) : fm_G S Y X M0 post pc ls (.inl (nI b) :: .inl (nI a) :: st) M :=
  fm_icmp_ne hX hd ht hq (fun h => kt ((not_congr (nI_eq ha hb)).mp h)) (fun h => kf ((nI_eq ha hb).mp h))
theorem fm_z_ne (hX : fm_Ctx S Y X) {a : Nat} {off : Int} {tgt pq : Nat} (hd : decode Y.2.1 pc = .ok (.ifCond .ne off, 3)) (ht : (pc : Int) + off = (tgt : Int)) (hq : pc + 3 = pq) (ha : a < 2 ^ 31)
    (kt : ¬ a = 0 → fm_G S Y X M0 post tgt ls st M) (kf : a = 0 → fm_G S Y X M0 post pq ls st M) : fm_G S Y X M0 post pc ls (.inl (nI a) :: st) M := by
  have hb : (0 : Nat) < 2 ^ 31 := by decide
  exact fm_if_ne hX hd ht hq (fun h => kt ((not_congr (nI_eq ha hb)).mp (by rw [nI_0]; exact h))) (fun h => kf ((nI_eq ha hb).mp (by rw [nI_0]; exact h)))
theorem fm_n_lt (hX : fm_Ctx S Y X) {a b : Nat} {off : Int} {tgt pq : Nat} (hd : decode Y.2.1 pc = .ok (.if_icmp .lt off, 3)) (ht : (pc : Int) + off = (tgt : Int)) (hq : pc + 3 = pq) (ha : a < 2 ^ 31) (hb : b < 2 ^ 31)
    (kt : a < b → fm_G S Y X M0 post tgt ls st M) (kf : ¬ (a < b) → fm_G S Y X M0 post pq ls st M) : fm_G S Y X M0 post pc ls (.inl (nI b) :: .inl (nI a) :: st) M :=
  fm_icmp_lt hX hd ht hq (fun h => kt ((nI_ltI ha hb).mp h)) (fun h => kf (fun z => h ((nI_ltI ha hb).mpr z)))
theorem fm_z_lt (hX : fm_Ctx S Y X) {a : Nat} {off : Int} {tgt pq : Nat} (hd : decode Y.2.1 pc = .ok (.ifCond .lt off, 3)) (ht : (pc : Int) + off = (tgt : Int)) (hq : pc + 3 = pq) (ha : a < 2 ^ 31)
    (kt : a < 0 → fm_G S Y X M0 post tgt ls st M) (kf : ¬ (a < 0) → fm_G S Y X M0 post pq ls st M) : fm_G S Y X M0 post pc ls (.inl (nI a) :: st) M := by
  have hb : (0 : Nat) < 2 ^ 31 := by decide
  exact fm_if_lt hX hd ht hq (fun h => kt ((nI_ltI ha hb).mp (by rw [nI_0]; exact h))) (fun h => kf (fun z => h (by have := (nI_ltI ha hb).mpr z; rw [nI_0] at this; exact this)))
theorem fm_n_ge (hX : fm_Ctx S Y X) {a b : Nat} {off : Int} {tgt pq : Nat} (hd : decode Y.2.1 pc = .ok (.if_icmp .ge off, 3)) (ht : (pc : Int) + off = (tgt : Int)) (hq : pc + 3 = pq) (ha : a < 2 ^ 31) (hb : b < 2 ^ 31)
    (kt : b ≤ a → fm_G S Y X M0 post tgt ls st M) (kf : ¬ (b ≤ a) → fm_G S Y X M0 post pq ls st M) : fm_G S Y X M0 post pc ls (.inl (nI b) :: .inl (nI a) :: st) M :=
  fm_icmp_ge hX hd ht hq (fun h => kt ((nI_leI hb ha).mp h)) (fun h => kf (fun z => h ((nI_leI hb ha).mpr z)))
theorem fm_z_ge (hX : fm_Ctx S Y X) {a : Nat} {off : Int} {tgt pq : Nat} (hd : decode Y.2.1 pc = .ok (.ifCond .ge off, 3)) (ht : (pc : Int) + off = (tgt : Int)) (hq : pc + 3 = pq) (ha : a < 2 ^ 31)
    (kt : 0 ≤ a → fm_G S Y X M0 post tgt ls st M) (kf : ¬ (0 ≤ a) → fm_G S Y X M0 post pq ls st M) : fm_G S Y X M0 post pc ls (.inl (nI a) :: st) M := by
  have hb : (0 : Nat) < 2 ^ 31 := by decide
  exact fm_if_ge hX hd ht hq (fun h => kt ((nI_leI hb ha).mp (by rw [nI_0]; exact h))) (fun h => kf (fun z => h (by have := (nI_leI hb ha).mpr z; rw [nI_0] at this; exact this)))
theorem fm_n_gt (hX : fm_Ctx S Y X) {a b : Nat} {off : Int} {tgt pq : Nat} (hd : decode Y.2.1 pc = .ok (.if_icmp .gt off, 3)) (ht : (pc : Int) + off = (tgt : Int)) (hq : pc + 3 = pq) (ha : a < 2 ^ 31) (hb : b < 2 ^ 31)
    (kt : b < a → fm_G S Y X M0 post tgt ls st M) (kf : ¬ (b < a) → fm_G S Y X M0 post pq ls st M) : fm_G S Y X M0 post pc ls (.inl (nI b) :: .inl (nI a) :: st) M :=
  fm_icmp_gt hX hd ht hq (fun h => kt ((nI_ltI hb ha).mp h)) (fun h => kf (fun z => h ((nI_ltI hb ha).mpr z)))
theorem fm_z_gt (hX : fm_Ctx S Y X) {a : Nat} {off : Int} {tgt pq : Nat} (hd : decode Y.2.1 pc = .ok (.ifCond .gt off, 3)) (ht : (pc : Int) + off = (tgt : Int)) (hq : pc + 3 = pq) (ha : a < 2 ^ 31)
    (kt : 0 < a → fm_G S Y X M0 post tgt ls st M) (kf : ¬ (0 < a) → fm_G S Y X M0 post pq ls st M) : fm_G S Y X M0 post pc ls (.inl (nI a) :: st) M := by
  have hb : (0 : Nat) < 2 ^ 31 := by decide
  exact fm_if_gt hX hd ht hq (fun h => kt ((nI_ltI hb ha).mp (by rw [nI_0]; exact h))) (fun h => kf (fun z => h (by have := (nI_ltI hb ha).mpr z; rw [nI_0] at this; exact this)))
theorem fm_n_le (hX : fm_Ctx S Y X) {a b : Nat} {off : Int} {tgt pq : Nat} (hd : decode Y.2.1 pc = .ok (.if_icmp .le off, 3)) (ht : (pc : Int) + off = (tgt : Int)) (hq : pc + 3 = pq) (ha : a < 2 ^ 31) (hb : b < 2 ^ 31)
    (kt : a ≤ b → fm_G S Y X M0 post tgt ls st M) (kf : ¬ (a ≤ b) → fm_G S Y X M0 post pq ls st M) : fm_G S Y X M0 post pc ls (.inl (nI b) :: .inl (nI a) :: st) M :=
  fm_icmp_le hX hd ht hq (fun h => kt ((nI_leI ha hb).mp h)) (fun h => kf (fun z => h ((nI_leI ha hb).mpr z)))
theorem fm_z_le (hX : fm_Ctx S Y X) {a : Nat} {off : Int} {tgt pq : Nat} (hd : decode Y.2.1 pc = .ok (.ifCond .le off, 3)) (ht : (pc : Int) + off = (tgt : Int)) (hq : pc + 3 = pq) (ha : a < 2 ^ 31)
    (kt : a ≤ 0 → fm_G S Y X M0 post tgt ls st M) (kf : ¬ (a ≤ 0) → fm_G S Y X M0 post pq ls st M) : fm_G S Y X M0 post pc ls (.inl (nI a) :: st) M := by
  have hb : (0 : Nat) < 2 ^ 31 := by decide
  exact fm_if_le hX hd ht hq (fun h => kt ((nI_leI ha hb).mp (by rw [nI_0]; exact h))) (fun h => kf (fun z => h (by have := (nI_leI ha hb).mpr z; rw [nI_0] at this; exact this)))
theorem fm_b1_eq (hX : fm_Ctx S Y X) {b : Bool} {off : Int} {tgt pq : Nat} (hd : decode Y.2.1 pc = .ok (.ifCond .eq off, 3)) (ht : (pc : Int) + off = (tgt : Int)) (hq : pc + 3 = pq)
    (kt : b = false → fm_G S Y X M0 post tgt ls st M) (kf : b = true → fm_G S Y X M0 post pq ls st M) : fm_G S Y X M0 post pc ls (.inl (bI b) :: st) M := by
  refine fm_if_eq hX hd ht hq (fun h => kt ?_) (fun h => kf ?_)
  all_goals (cases hb : (b) <;> rw [hb] at h <;> first | exact (fun h => h) hb | exact (fun h => h) hb | exact absurd h (by decide))
theorem fm_b2_eq0 (hX : fm_Ctx S Y X) {b : Bool} {off : Int} {tgt pq : Nat} (hd : decode Y.2.1 pc = .ok (.if_icmp .eq off, 3)) (ht : (pc : Int) + off = (tgt : Int)) (hq : pc + 3 = pq)
    (kt : b = false → fm_G S Y X M0 post tgt ls st M) (kf : b = true → fm_G S Y X M0 post pq ls st M) : fm_G S Y X M0 post pc ls (.inl (nI 0) :: .inl (bI b) :: st) M := by
  refine fm_icmp_eq hX hd ht hq (fun h => kt ?_) (fun h => kf ?_)
  all_goals (cases hb : (b) <;> rw [hb] at h <;> first | exact (fun h => h) hb | exact (fun h => h) hb | exact absurd h (by decide))
theorem fm_b2_eq1 (hX : fm_Ctx S Y X) {b : Bool} {off : Int} {tgt pq : Nat} (hd : decode Y.2.1 pc = .ok (.if_icmp .eq off, 3)) (ht : (pc : Int) + off = (tgt : Int)) (hq : pc + 3 = pq)
    (kt : b = true → fm_G S Y X M0 post tgt ls st M) (kf : b = false → fm_G S Y X M0 post pq ls st M) : fm_G S Y X M0 post pc ls (.inl (nI 1) :: .inl (bI b) :: st) M := by
  refine fm_icmp_eq hX hd ht hq (fun h => kt ?_) (fun h => kf ?_)
  all_goals (cases hb : (b) <;> rw [hb] at h <;> first | exact (fun h => h) hb | exact (fun h => h) hb | exact absurd h (by decide))
theorem fm_b1_ne (hX : fm_Ctx S Y X) {b : Bool} {off : Int} {tgt pq : Nat} (hd : decode Y.2.1 pc = .ok (.ifCond .ne off, 3)) (ht : (pc : Int) + off = (tgt : Int)) (hq : pc + 3 = pq)
    (kt : b = true → fm_G S Y X M0 post tgt ls st M) (kf : b = false → fm_G S Y X M0 post pq ls st M) : fm_G S Y X M0 post pc ls (.inl (bI b) :: st) M := by
  refine fm_if_ne hX hd ht hq (fun h => kt ?_) (fun h => kf ?_)
  all_goals (cases hb : (b) <;> rw [hb] at h <;> first | exact (fun h => h) hb | exact (fun h => h) hb | exact absurd h (by decide))
theorem fm_b2_ne0 (hX : fm_Ctx S Y X) {b : Bool} {off : Int} {tgt pq : Nat} (hd : decode Y.2.1 pc = .ok (.if_icmp .ne off, 3)) (ht : (pc : Int) + off = (tgt : Int)) (hq : pc + 3 = pq)
    (kt : b = true → fm_G S Y X M0 post tgt ls st M) (kf : b = false → fm_G S Y X M0 post pq ls st M) : fm_G S Y X M0 post pc ls (.inl (nI 0) :: .inl (bI b) :: st) M := by
  refine fm_icmp_ne hX hd ht hq (fun h => kt ?_) (fun h => kf ?_)
  all_goals (cases hb : (b) <;> rw [hb] at h <;> first | exact (fun h => h) hb | exact (fun h => h) hb | exact absurd h (by decide))
theorem fm_b2_ne1 (hX : fm_Ctx S Y X) {b : Bool} {off : Int} {tgt pq : Nat} (hd : decode Y.2.1 pc = .ok (.if_icmp .ne off, 3)) (ht : (pc : Int) + off = (tgt : Int)) (hq : pc + 3 = pq)
    (kt : b = false → fm_G S Y X M0 post tgt ls st M) (kf : b = true → fm_G S Y X M0 post pq ls st M) : fm_G S Y X M0 post pc ls (.inl (nI 1) :: .inl (bI b) :: st) M := by
  refine fm_icmp_ne hX hd ht hq (fun h => kt ?_) (fun h => kf ?_)
  all_goals (cases hb : (b) <;> rw [hb] at h <;> first | exact (fun h => h) hb | exact (fun h => h) hb | exact absurd h (by decide))
theorem fm_p1_eq (hX : fm_Ctx S Y X) {p : Prop} [Decidable p] {off : Int} {tgt pq : Nat} (hd : decode Y.2.1 pc = .ok (.ifCond .eq off, 3)) (ht : (pc : Int) + off = (tgt : Int)) (hq : pc + 3 = pq)
    (kt : ¬ p → fm_G S Y X M0 post tgt ls st M) (kf : p → fm_G S Y X M0 post pq ls st M) : fm_G S Y X M0 post pc ls (.inl (bI (decide p)) :: st) M := by
  refine fm_if_eq hX hd ht hq (fun h => kt ?_) (fun h => kf ?_)
  all_goals (cases hb : (decide p) <;> rw [hb] at h <;> first | exact of_decide_eq_true hb | exact of_decide_eq_false hb | exact absurd h (by decide))
theorem fm_p2_eq0 (hX : fm_Ctx S Y X) {p : Prop} [Decidable p] {off : Int} {tgt pq : Nat} (hd : decode Y.2.1 pc = .ok (.if_icmp .eq off, 3)) (ht : (pc : Int) + off = (tgt : Int)) (hq : pc + 3 = pq)
    (kt : ¬ p → fm_G S Y X M0 post tgt ls st M) (kf : p → fm_G S Y X M0 post pq ls st M) : fm_G S Y X M0 post pc ls (.inl (nI 0) :: .inl (bI (decide p)) :: st) M := by
  refine fm_icmp_eq hX hd ht hq (fun h => kt ?_) (fun h => kf ?_)
  all_goals (cases hb : (decide p) <;> rw [hb] at h <;> first | exact of_decide_eq_true hb | exact of_decide_eq_false hb | exact absurd h (by decide))
theorem fm_p2_eq1 (hX : fm_Ctx S Y X) {p : Prop} [Decidable p] {off : Int} {tgt pq : Nat} (hd : decode Y.2.1 pc = .ok (.if_icmp .eq off, 3)) (ht : (pc : Int) + off = (tgt : Int)) (hq : pc + 3 = pq)
    (kt : p → fm_G S Y X M0 post tgt ls st M) (kf : ¬ p → fm_G S Y X M0 post pq ls st M) : fm_G S Y X M0 post pc ls (.inl (nI 1) :: .inl (bI (decide p)) :: st) M := by
  refine fm_icmp_eq hX hd ht hq (fun h => kt ?_) (fun h => kf ?_)
  all_goals (cases hb : (decide p) <;> rw [hb] at h <;> first | exact of_decide_eq_true hb | exact of_decide_eq_false hb | exact absurd h (by decide))
theorem fm_p1_ne (hX : fm_Ctx S Y X) {p : Prop} [Decidable p] {off : Int} {tgt pq : Nat} (hd : decode Y.2.1 pc = .ok (.ifCond .ne off, 3)) (ht : (pc : Int) + off = (tgt : Int)) (hq : pc + 3 = pq)
    (kt : p → fm_G S Y X M0 post tgt ls st M) (kf : ¬ p → fm_G S Y X M0 post pq ls st M) : fm_G S Y X M0 post pc ls (.inl (bI (decide p)) :: st) M := by
  refine fm_if_ne hX hd ht hq (fun h => kt ?_) (fun h => kf ?_)
  all_goals (cases hb : (decide p) <;> rw [hb] at h <;> first | exact of_decide_eq_true hb | exact of_decide_eq_false hb | exact absurd h (by decide))
theorem fm_p2_ne0 (hX : fm_Ctx S Y X) {p : Prop} [Decidable p] {off : Int} {tgt pq : Nat} (hd : decode Y.2.1 pc = .ok (.if_icmp .ne off, 3)) (ht : (pc : Int) + off = (tgt : Int)) (hq : pc + 3 = pq)
    (kt : p → fm_G S Y X M0 post tgt ls st M) (kf : ¬ p → fm_G S Y X M0 post pq ls st M) : fm_G S Y X M0 post pc ls (.inl (nI 0) :: .inl (bI (decide p)) :: st) M := by
  refine fm_icmp_ne hX hd ht hq (fun h => kt ?_) (fun h => kf ?_)
  all_goals (cases hb : (decide p) <;> rw [hb] at h <;> first | exact of_decide_eq_true hb | exact of_decide_eq_false hb | exact absurd h (by decide))
theorem fm_p2_ne1 (hX : fm_Ctx S Y X) {p : Prop} [Decidable p] {off : Int} {tgt pq : Nat} (hd : decode Y.2.1 pc = .ok (.if_icmp .ne off, 3)) (ht : (pc : Int) + off = (tgt : Int)) (hq : pc + 3 = pq)
    (kt : ¬ p → fm_G S Y X M0 post tgt ls st M) (kf : p → fm_G S Y X M0 post pq ls st M) : fm_G S Y X M0 post pc ls (.inl (nI 1) :: .inl (bI (decide p)) :: st) M := by
  refine fm_icmp_ne hX hd ht hq (fun h => kt ?_) (fun h => kf ?_)
  all_goals (cases hb : (decide p) <;> rw [hb] at h <;> first | exact of_decide_eq_true hb | exact of_decide_eq_false hb | exact absurd h (by decide))
end FM
