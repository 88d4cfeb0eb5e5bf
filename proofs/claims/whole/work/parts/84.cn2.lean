/-! THE CONSTRUCTOR OF Facts. The rows up to END are of the printed names of this claim -/
/-! ===== BEGIN new T[n][m]: the outer array a place, the inner ones among the pooled ===== -/
/-- f, but v at every address of l -/
def vr_up {α : Type} (f : Nat → α) (l : List Nat) (v : α) : Nat → α := fun a => if a ∈ l then v else f a
theorem vr_up_in {α : Type} {f : Nat → α} {l : List Nat} {v : α} {a : Nat} (h : a ∈ l) : vr_up f l v a = v := if_pos h
theorem vr_up_ne {α : Type} {f : Nat → α} {l : List Nat} {v : α} {a : Nat} (h : a ∉ l) : vr_up f l v a = f a := if_neg h
theorem vr_rows {L l : List Nat} {f : Nat → va_E} {e : va_E} (h : ∀ a, a ∈ l → a ∉ L) : va_pl L f ++ l.map (fun a => (a, e)) = va_pl (L ++ l) (vr_up f l e) := by
  unfold va_pl
  rw [List.map_append]
  congr 1
  · apply List.map_congr_left
    intro a ha
    rw [vr_up_ne (fun q => h a q ha)]
  · apply List.map_congr_left
    intro a ha
    rw [vr_up_in ha]
theorem vr_lay {X rows : va_W} {x : Nat × va_E} {pl : va_W} {D : va_G} {cl : List vw_C} {H : Heap} (hP : va_P D cl (((X ++ pl) ++ [x]) ++ rows) H) : va_P D cl ((X ++ [x]) ++ (pl ++ rows)) H := by
  rw [List.append_assoc (X ++ pl)] at hP
  have h := va_P.swap hP
  rw [← List.append_assoc X] at h
  have h2 := va_P.swap h
  rw [List.append_assoc (X ++ [x])] at h2
  exact h2
theorem vr_layD {X rows : va_W} {x : Nat × va_E} {pl : va_W} {A : Nat → Prop} (hD : va_D A (((X ++ pl) ++ [x]) ++ rows)) : va_D A ((X ++ [x]) ++ (pl ++ rows)) := by
  rw [List.append_assoc (X ++ pl)] at hD
  have h := va_D.swap hD
  rw [← List.append_assoc X] at h
  have h2 := va_D.swap h
  rw [List.append_assoc (X ++ [x])] at h2
  exact h2
theorem vr_outer (c : ClassId) (N h0 : Nat) : ∀ i : Nat, Jvm.Free.Multi.outerC c N h0 i = arrV c N (fun j => va_rf (if j < i then some (h0 + 1 + j) else none))
  | 0 => by
    show ({ cls := c, slots := Array.replicate N .null, vm := .none } : Cell) = _
    rw [arrV_new]
    refine congrArg (arrV c N) (funext fun j => ?_)
    simp [va_rf]
  | i + 1 => by
    show (Jvm.Free.Multi.outerC c N h0 i).setSlot i (.ref (h0 + 1 + i)) = _
    rw [vr_outer c N h0 i, arrV_store]
    refine congrArg (arrV c N) (funext fun j => ?_)
    by_cases e : j = i
    · subst e
      simp [updV, va_rf]
    · by_cases h : j < i
      · simp [updV, e, h, Nat.lt_succ_of_lt h]
      · simp [updV, e, h, show ¬ j < i + 1 by omega]
/-- the tables hold the class of arrays of arrays of ty -/
def va_AOA (ty : FieldType) (U : State) : Prop := (Cond.arrayOver (.array ty)).before #[] U = true
theorem va_AOA.use {ty : FieldType} {A : Array Value} {U : State} (h : va_AOA ty U) : (Cond.arrayOver (.array ty)).before A U = true := h
theorem va_AOA.of {ty : FieldType} {A : Array Value} {U : State} (h : (Cond.arrayOver (.array ty)).before A U = true) : va_AOA ty U := h
section VGM
variable {p : Program} {l : Launch} {e : Env} {R : Room} {s : State} {m : MethodId} {args : Array Value} {below : List Frame} {meth : Method} {c : Code} {H : Heap} {locs : List Loc} {cells slots : Nat} {Q : State → Prop}
variable {cc : ByteArray} {pc : Nat} {ls : Array Slot} {rest : List Value} {D : va_G} {cl : List vw_C} {A : Nat → Prop} {a : Nat} {tys : List (ClassId × FieldType)} {ws : va_W} {H0 : Heap}
theorem va_mna {X : va_W} {L : List Nat} {f : Nat → va_E} {cc : ByteArray} (hexec : p.tables.exec = Jvm.exec) (hb : c.code = cc) {own : String} {index : Nat} {ty : FieldType} {cy : ClassId} (hown : s.vm.findClass own = some m.cls) (hclink : (Cond.classLink own index ("[" ++ (FieldType.array ty).toString)).before args s = true) (hover : va_AOA ty s) (harr : (Cond.arrayClass ty).before args s = true) (hcy : s.vm.findClass (FieldType.array ty).toString = some cy)
    (hK : va_K D cl tys s) (hP : va_P D cl (X ++ va_pl L f) H) (hD : va_D A (X ++ va_pl L f)) (hS : va_S A H0 H locs) (hA : ∀ q, H0.size ≤ q → A q) {n k : Int32} {N' K' : Nat} {z : vp_A} (hn : ¬ n < 0) (hk : ¬ k < 0) (hN : n.toNatClampNeg = N') (hM : k.toNatClampNeg = K')
    (hb1 : N' * 4 ≤ 536870912) (hb2 : K' * componentBytes ty ≤ 536870912) (hb3 : K' ≤ 536870912) (hdf : fits ty (defaultValue ty) = true) (hdd : (defaultValue ty).isDefault = true) (hcells : cells + (1 + N') ≤ R.cells) (hslots : slots + (N' + N' * K') ≤ R.slots) (hz : ∀ c : ClassId, Jvm.Free.Multi.innerC c K' (defaultValue ty) = vp_cell c z) (hdg : decode cc pc = .ok (.multianewarray index 2, 4))
    (kk : ∀ (q : Nat) (r : Nat → Nat) (cA : ClassId) (H1 : Heap), (∀ i j : Nat, i < N' → j < N' → r i = r j → i = j) → (∀ i : Nat, i < N' → r i ∉ L) → va_K D cl (tys ++ [(cA, .array ty)]) s →
      va_P D cl ((X ++ [(q, .inl (cA, N', .inr (.inr (.inr (.inr (fun i => if i < N' then some (r i) else none))))))]) ++ va_pl (L ++ (List.range N').map r) (vr_up f ((List.range N').map r) (.inl (cy, z)))) H1 → va_D A ((X ++ [(q, .inl (cA, N', .inr (.inr (.inr (.inr (fun i => if i < N' then some (r i) else none))))))]) ++ va_pl (L ++ (List.range N').map r) (vr_up f ((List.range N').map r) (.inl (cy, z)))) → va_S A H0 H1 locs →
      W p l e R s m args below meth c H1 locs (cells + 1 + N') (slots + N' + N' * K') Q (F0 m (pc + 4) ls (.ref q :: rest))) : W p l e R s m args below meth c H locs cells slots Q (F0 m pc ls (.int k :: .int n :: rest)) := by
  subst hN
  subst hM
  intro T hT Xs
  obtain ⟨vm₁, cA, comp, -, fA, fC, hO, -, X', step⟩ := Xs.multianewarray2F hexec hown hclink (va_AOA.use hover) harr (g := F0 m pc ls (.int k :: .int n :: rest)) rfl (by rw [hb]; exact hdg) rfl hn hk hb1 hb2 hb3 hdf hdd hcells hslots
  have ec : some cy = some comp := hcy.symm.trans fC
  cases ec
  generalize hF : Jvm.Free.Multi.fill (T.setVm vm₁) cA cy n.toNatClampNeg k.toNatClampNeg (defaultValue ty) n.toNatClampNeg = F at X' step
  have hTh : (T.setVm vm₁).heap = H := hT
  obtain ⟨f1, f2, -, -⟩ := Jvm.Free.Multi.fill_facts (T.setVm vm₁) cA cy n.toNatClampNeg k.toNatClampNeg (defaultValue ty) n.toNatClampNeg
  rw [hF, hTh] at f1 f2
  have hold : ∀ x : Nat, x < H.size → F.heap[x]? = H[x]? := fun x hx => by
    have := Jvm.Free.Multi.fill_old (T.setVm vm₁) cA cy n.toNatClampNeg k.toNatClampNeg (defaultValue ty) (a := x) (by rw [hTh]; exact hx) n.toNatClampNeg
    rw [hF, hTh] at this
    exact this
  have hrow : ∀ j : Nat, j < n.toNatClampNeg → F.heap[H.size + 1 + j]? = some (vp_cell cy z) := fun j hj => by
    have := Jvm.Free.Multi.fill_inner (T.setVm vm₁) cA cy n.toNatClampNeg k.toNatClampNeg (defaultValue ty) n.toNatClampNeg j hj
    rw [hF, hTh, hz] at this
    exact this
  have hout : Jvm.Free.Multi.outerC cA n.toNatClampNeg H.size n.toNatClampNeg = vp_cell cA (n.toNatClampNeg, .inr (.inr (.inr (.inr (fun i => if i < n.toNatClampNeg then some (H.size + 1 + i) else none))))) := by
    rw [vp_cell_q]
    exact vr_outer cA n.toNatClampNeg H.size n.toNatClampNeg
  rw [hout] at f2
  have hlt : ∀ a, a ∈ L → a < H.size := fun a ha => by
    obtain ⟨k9, hk9⟩ := va_pl_get (X := X) (f := f) ha
    exact (hP k9 _ hk9).lt
  have hnl : ∀ i : Nat, i < n.toNatClampNeg → H.size + 1 + i ∉ L := fun i _ h => by
    have := hlt _ h
    omega
  have hnm : ∀ a, a ∈ (List.range n.toNatClampNeg).map (fun i => H.size + 1 + i) → a ∉ L := fun a ha h => by
    obtain ⟨i, -, rfl⟩ := List.mem_map.mp ha
    have := hlt _ h
    omega
  have hP0 : va_P D cl (X ++ va_pl L f) F.heap := hP.kept (fun k9 x hx => hold x.1 ((hP k9 x hx).lt))
  have hP1 : va_P D cl ((X ++ va_pl L f) ++ [(H.size, .inl (cA, n.toNatClampNeg, .inr (.inr (.inr (.inr (fun i => if i < n.toNatClampNeg then some (H.size + 1 + i) else none))))))]) F.heap := hP0.app (fun k9 x hx => by
    have h0 : k9 < 1 := (List.getElem?_eq_some_iff.mp hx).1
    rw [show k9 = 0 by omega] at hx
    cases hx
    exact f2)
  have hP2 : va_P D cl (((X ++ va_pl L f) ++ [(H.size, .inl (cA, n.toNatClampNeg, .inr (.inr (.inr (.inr (fun i => if i < n.toNatClampNeg then some (H.size + 1 + i) else none))))))]) ++ ((List.range n.toNatClampNeg).map (fun i => H.size + 1 + i)).map (fun a => (a, .inl (cy, z)))) F.heap := hP1.app (fun k9 x hx => by
    obtain ⟨a, ha, rfl⟩ := List.mem_map.mp (List.mem_of_getElem? hx)
    obtain ⟨i, hi, rfl⟩ := List.mem_map.mp ha
    exact hrow i (List.mem_range.mp hi))
  have hD2 : va_D A (((X ++ va_pl L f) ++ [(H.size, .inl (cA, n.toNatClampNeg, .inr (.inr (.inr (.inr (fun i => if i < n.toNatClampNeg then some (H.size + 1 + i) else none))))))]) ++ ((List.range n.toNatClampNeg).map (fun i => H.size + 1 + i)).map (fun a => (a, .inl (cy, z)))) := by
    have hD1 := hD.push (e := .inl (cA, n.toNatClampNeg, .inr (.inr (.inr (.inr (fun i => if i < n.toNatClampNeg then some (H.size + 1 + i) else none)))))) hP rfl (hA _ hS.1)
    generalize hW1 : (X ++ va_pl L f) ++ [(H.size, .inl (cA, n.toNatClampNeg, .inr (.inr (.inr (.inr (fun i => if i < n.toNatClampNeg then some (H.size + 1 + i) else none))))))] = W1 at hD1 hP1 ⊢
    have hle : ∀ (k9 : Nat) (x : Nat × va_E), W1[k9]? = some x → x.1 ≤ H.size := fun k9 x hx => by
      rw [← hW1] at hx
      by_cases hl : k9 < (X ++ va_pl L f).length
      · rw [List.getElem?_append_left hl] at hx
        exact Nat.le_of_lt ((hP k9 x hx).lt)
      · rw [List.getElem?_append_right (by omega)] at hx
        have h0 : k9 - (X ++ va_pl L f).length < 1 := (List.getElem?_eq_some_iff.mp hx).1
        rw [show k9 - (X ++ va_pl L f).length = 0 by omega] at hx
        cases hx
        exact Nat.le_refl _
    have hr : ∀ (k9 : Nat) (x : Nat × va_E), (((List.range n.toNatClampNeg).map (fun i => H.size + 1 + i)).map (fun a => ((a, .inl (cy, z)) : Nat × va_E)))[k9]? = some x → x.1 = H.size + 1 + k9 := fun k9 x hx => by
      rw [List.getElem?_map, List.getElem?_map] at hx
      by_cases h9 : k9 < n.toNatClampNeg
      · rw [List.getElem?_range h9] at hx
        cases hx
        rfl
      · have hn0 : (List.range n.toNatClampNeg)[k9]? = none := List.getElem?_eq_none (by rw [List.length_range]; omega)
        rw [hn0] at hx
        cases hx
    refine ⟨fun i j x y hi hj hxy => ?_, fun k9 x hx => ?_⟩
    · by_cases h1 : i < W1.length <;> by_cases h2 : j < W1.length
      · rw [List.getElem?_append_left h1] at hi
        rw [List.getElem?_append_left h2] at hj
        exact hD1.1 i j x y hi hj hxy
      · rw [List.getElem?_append_left h1] at hi
        rw [List.getElem?_append_right (by omega)] at hj
        have := hle _ _ hi
        have := hr _ _ hj
        omega
      · rw [List.getElem?_append_right (by omega)] at hi
        rw [List.getElem?_append_left h2] at hj
        have := hle _ _ hj
        have := hr _ _ hi
        omega
      · rw [List.getElem?_append_right (by omega)] at hi hj
        have := hr _ _ hi
        have := hr _ _ hj
        omega
    · by_cases h1 : k9 < W1.length
      · rw [List.getElem?_append_left h1] at hx
        exact hD1.2 k9 x hx
      · rw [List.getElem?_append_right (by omega)] at hx
        have := hr _ _ hx
        exact hA _ (by have := hS.1; omega)
  have hAr : ArrOfT s cA (.array ty) := fun N9 z9 => by
    obtain ⟨-, k9, hk9, cm9, hkk9⟩ := (hO 0 0 0).1
    exact ⟨(fun q hq => by cases hq), k9, hk9, cm9, hkk9⟩
  have hK2 : va_K D cl (tys ++ [(cA, .array ty)]) s := ⟨hK.1, fun k9 x hx => by
    by_cases hl : k9 < tys.length
    · rw [List.getElem?_append_left hl] at hx
      exact hK.2 k9 x hx
    · rw [List.getElem?_append_right (by omega)] at hx
      have h0 : k9 - tys.length < 1 := (List.getElem?_eq_some_iff.mp hx).1
      rw [show k9 - tys.length = 0 by omega] at hx
      cases hx
      exact ⟨hAr, fA⟩⟩
  obtain ⟨t, a1, b1⟩ := kk H.size (fun i => H.size + 1 + i) cA F.heap (fun i j _ _ h => by have h9 : H.size + 1 + i = H.size + 1 + j := h; omega) hnl hK2 (by rw [← vr_rows hnm]; exact vr_lay hP2) (by rw [← vr_rows hnm]; exact vr_layD hD2) ⟨by rw [f1]; have := hS.1; omega, fun x h1 h2 => (hold x (Nat.lt_of_lt_of_le h1 hS.1)).trans (hS.2.1 x h1 h2), hS.2.2⟩ F rfl X'
  refine ⟨t, step t ?_, b1⟩
  have e : T.heap.size = H.size := by rw [hT]
  rw [e]
  exact a1
end VGM
/-! ===== END ===== -/
theorem cn_rows {r : Nat → Nat} {f : Nat → va_E} {v : va_E} : va_pl ([] ++ (List.range 2).map r) (vr_up f ((List.range 2).map r) v) = [(r 0, v), (r 1, v)] := by
  show [(r 0, vr_up f [r 0, r 1] v (r 0)), (r 1, vr_up f [r 0, r 1] v (r 1))] = _
  rw [vr_up_in (by simp), vr_up_in (by simp)]
/-- two rows of N numbers -/
theorem cn_mna {Ts : List Cond} {own : String} {cc : ByteArray} {n : Nat} {X : cn_X} {pc : Nat} {la : Array Slot} {st : List Value} {ws : va_W} {cells slots index : Nat} (C : cn_C Ts own cc n X) (hd : decode cc pc = .ok (.multianewarray index 2, 4)) (hcl : Cond.classLink own index "[[I" ∈ Ts) (hov : va_AOA .int X.1.2.2.2.2.1) (harr : Cond.arrayClass .int ∈ Ts) (hc : cells + 3 ≤ (cn_R X).cells) (hs : slots + 56 ≤ (cn_R X).slots)
    (kk : ∀ (q : Nat) (r : Nat → Nat), cn_G X (pc + 4) la (.ref q :: st) (ws ++ [(q, .inl (cn_tA X 5, 2, .inr (.inr (.inr (.inr (fun i => if i < 2 then some (r i) else none)))))), (r 0, cAr (cn_tA X) 27), (r 1, cAr (cn_tA X) 27)]) (cells + 3) (slots + 56)) : cn_G X pc la (.int 27 :: .int 2 :: st) ws cells slots := by
  obtain ⟨⟨p, l, e, R, s, m, args, below⟩, meth, c, D, tA, A, Q⟩ := X
  obtain ⟨hx, hb, hml, hown, hts, hK, hin, hA, hf, hlo, hr, hlk⟩ := C
  intro H locs g2 g3 g4
  have hcy : s.vm.findClass (FieldType.array .int).toString = some (tA 0) := (hK.2 0 _ (fm_tys_at (S := SC) (tA := tA) (t := 0) (ty := .int) rfl)).2
  have e0 : ws = ws ++ va_pl [] (fun _ => cAr tA 27) := (List.append_nil ws).symm
  refine va_mna (X := ws) (L := []) (f := fun _ => cAr tA 27) (ty := .int) (N' := 2) (K' := 27) (z := (27, .inl (fun _ => 0))) hx hb hown (hts _ hcl) hov (hts _ harr) hcy hK (by rw [← e0]; exact g2) (by rw [← e0]; exact g3) g4 hA (by decide) (by decide) (by decide) (by decide) (by decide) (by decide) (by decide) (by decide) (by decide) (by show cells + 3 ≤ R.cells; exact hc) (by show slots + 56 ≤ R.slots; exact hs) (fun c => ?_) hd (fun q r cA H1 _ _ hK1 q1 q2 q3 => ?_)
  · show ({ cls := c, slots := Array.replicate 27 (.int 0), vm := .none } : Cell) = _
    rw [arrV_new]
    rfl
  · have hcA : cA = tA 5 := va_RA_uq (hK1.2 (fm_tys SC tA).length (cA, .array .int) (by simp)).2 (hK.2 5 _ (fm_tys_at (S := SC) (tA := tA) (t := 5) (ty := .array .int) rfl)).2
    subst hcA
    rw [cn_rows, List.append_assoc] at q1 q2
    exact kk q r H1 locs q1 q2 q3
def cW_F (tA : Nat → ClassId) (h0 q1 q2 : Nat) (r : Nat → Nat) (q3 q4 : Nat) : va_W := [(h0, .inr (1, [.ref q1, .ref q2, .ref q3, .ref q4, .int 0, .int 0, .int 0, .int 0])), (q1, cAr tA 4), (q2, .inl (tA 5, 2, .inr (.inr (.inr (.inr (fun i => if i < 2 then some (r i) else none)))))), (r 0, cAr tA 27), (r 1, cAr tA 27), (q3, cAr tA 2), (q4, cAz tA 2)]

set_option maxRecDepth 100000 in
set_option maxHeartbeats 4000000 in
theorem k_F_init : cn_ct wsI y_F_init b_F_init 1 1 6 64 1 [.null, .null, .null, .null, .int 0, .int 0, .int 0, .int 0] (fun U => va_AOA .int U) (fun tA h0 ws => ∃ q1 q2 r q3 q4, ws = cW_F tA h0 q1 q2 r q3 q4) := by
  refine cn_of (by decide) rfl (by decide) (by decide) ?_
  intro X la h0 C hl hR hZ hret
  have hRc : (cn_R X).cells = 6 := by rw [hR]; rfl
  have hRs : (cn_R X).slots = 64 := by rw [hR]; rfl
  refine cn_aload C d_F_init_0 rfl hl 0 rfl ?_
  refine cn_obj C d_F_init_1 (wI_in (mem_i 1 rfl)) (wI_in (mem_i 6 rfl)) (wI_in (mem_i 7 rfl)) hl.1 ?_
  refine cn_aload C d_F_init_4 rfl hl 0 rfl ?_
  refine cn_iconst (v := 4) C d_F_init_5 (by decide) ?_
  refine cn_newa (t := 0) (N := 4) C d_F_init_6 rfl rfl (wI_in (mem_i 8 rfl)) (by decide) (by omega) (Or.inl rfl) (by rw [hRc]; omega) (by rw [hRs]; omega) (fun q1 => ?_)
  refine cn_putF (i0 := 0) (ty := .array .int) C d_F_init_8 (fl_I fF_9) ⟨nF, tF, 8, uF, rfl, tyF, nmF, rfl, rfl, rfl⟩ rfl (Nat.le_of_ble_eq_true rfl) rfl rfl ?_
  refine cn_eq (ws' := [(h0, .inr (1, [.ref q1, .null, .null, .null, .int 0, .int 0, .int 0, .int 0])), (q1, cAr (cn_tA X) 4)]) rfl ?_
  refine cn_aload C d_F_init_11 rfl hl 0 rfl ?_
  refine cn_iconst (v := 2) C d_F_init_12 (by decide) ?_
  refine cn_bipush (v := 27) C d_F_init_13 (by decide) ?_
  refine cn_mna C d_F_init_15 (wI_in (mem_i 14 rfl)) hZ (wI_in (mem_i 8 rfl)) (by rw [hRc]; omega) (by rw [hRs]; omega) (fun q2 r => ?_)
  refine cn_putF (i0 := 0) (ty := .array (.array .int)) C d_F_init_19 (fl_I fF_17) ⟨nF, tF, 8, uF, rfl, tyF, nmF, rfl, rfl, rfl⟩ rfl (Nat.le_of_ble_eq_true rfl) rfl rfl ?_
  refine cn_eq (ws' := [(h0, .inr (1, [.ref q1, .ref q2, .null, .null, .int 0, .int 0, .int 0, .int 0])), (q1, cAr (cn_tA X) 4), (q2, .inl (cn_tA X 5, 2, .inr (.inr (.inr (.inr (fun i => if i < 2 then some (r i) else none)))))), (r 0, cAr (cn_tA X) 27), (r 1, cAr (cn_tA X) 27)]) rfl ?_
  refine cn_aload C d_F_init_22 rfl hl 0 rfl ?_
  refine cn_iconst (v := 2) C d_F_init_23 (by decide) ?_
  refine cn_newa (t := 0) (N := 2) C d_F_init_24 rfl rfl (wI_in (mem_i 8 rfl)) (by decide) (by omega) (Or.inl rfl) (by rw [hRc]; omega) (by rw [hRs]; omega) (fun q3 => ?_)
  refine cn_putF (i0 := 0) (ty := .array .int) C d_F_init_26 (fl_I fF_20) ⟨nF, tF, 8, uF, rfl, tyF, nmF, rfl, rfl, rfl⟩ rfl (Nat.le_of_ble_eq_true rfl) rfl rfl ?_
  refine cn_eq (ws' := [(h0, .inr (1, [.ref q1, .ref q2, .ref q3, .null, .int 0, .int 0, .int 0, .int 0])), (q1, cAr (cn_tA X) 4), (q2, .inl (cn_tA X 5, 2, .inr (.inr (.inr (.inr (fun i => if i < 2 then some (r i) else none)))))), (r 0, cAr (cn_tA X) 27), (r 1, cAr (cn_tA X) 27), (q3, cAr (cn_tA X) 2)]) rfl ?_
  refine cn_aload C d_F_init_29 rfl hl 0 rfl ?_
  refine cn_iconst (v := 2) C d_F_init_30 (by decide) ?_
  refine cn_newa (t := 1) (N := 2) C d_F_init_31 rfl rfl (wI_in (mem_i 9 rfl)) (by decide) (by omega) (Or.inr rfl) (by rw [hRc]; omega) (by rw [hRs]; omega) (fun q4 => ?_)
  refine cn_putF (i0 := 0) (ty := .array .boolean) C d_F_init_33 (fl_I fF_23) ⟨nF, tF, 8, uF, rfl, tyF, nmF, rfl, rfl, rfl⟩ rfl (Nat.le_of_ble_eq_true rfl) rfl rfl ?_
  refine cn_eq (ws' := [(h0, .inr (1, [.ref q1, .ref q2, .ref q3, .ref q4, .int 0, .int 0, .int 0, .int 0])), (q1, cAr (cn_tA X) 4), (q2, .inl (cn_tA X 5, 2, .inr (.inr (.inr (.inr (fun i => if i < 2 then some (r i) else none)))))), (r 0, cAr (cn_tA X) 27), (r 1, cAr (cn_tA X) 27), (q3, cAr (cn_tA X) 2), (q4, cAz (cn_tA X) 2)]) rfl ?_
  refine cn_aload C d_F_init_36 rfl hl 0 rfl ?_
  refine cn_iconst (v := 0) C d_F_init_37 (by decide) ?_
  refine cn_puti (i0 := 0) C d_F_init_38 (fl_I fF_27) pF_4 rfl (Nat.le_of_ble_eq_true rfl) (by decide) (by decide) ?_
  refine cn_eq (ws' := [(h0, .inr (1, [.ref q1, .ref q2, .ref q3, .ref q4, .int 0, .int 0, .int 0, .int 0])), (q1, cAr (cn_tA X) 4), (q2, .inl (cn_tA X 5, 2, .inr (.inr (.inr (.inr (fun i => if i < 2 then some (r i) else none)))))), (r 0, cAr (cn_tA X) 27), (r 1, cAr (cn_tA X) 27), (q3, cAr (cn_tA X) 2), (q4, cAz (cn_tA X) 2)]) rfl ?_
  refine cn_aload C d_F_init_41 rfl hl 0 rfl ?_
  refine cn_iconst (v := 0) C d_F_init_42 (by decide) ?_
  refine cn_puti (i0 := 0) C d_F_init_43 (fl_I fF_31) pF_5 rfl (Nat.le_of_ble_eq_true rfl) (by decide) (by decide) ?_
  refine cn_eq (ws' := [(h0, .inr (1, [.ref q1, .ref q2, .ref q3, .ref q4, .int 0, .int 0, .int 0, .int 0])), (q1, cAr (cn_tA X) 4), (q2, .inl (cn_tA X 5, 2, .inr (.inr (.inr (.inr (fun i => if i < 2 then some (r i) else none)))))), (r 0, cAr (cn_tA X) 27), (r 1, cAr (cn_tA X) 27), (q3, cAr (cn_tA X) 2), (q4, cAz (cn_tA X) 2)]) rfl ?_
  refine cn_aload C d_F_init_46 rfl hl 0 rfl ?_
  refine cn_iconst (v := 0) C d_F_init_47 (by decide) ?_
  refine cn_puti (i0 := 0) C d_F_init_48 (fl_I fF_34) pF_6 rfl (Nat.le_of_ble_eq_true rfl) (by decide) (by decide) ?_
  refine cn_eq (ws' := [(h0, .inr (1, [.ref q1, .ref q2, .ref q3, .ref q4, .int 0, .int 0, .int 0, .int 0])), (q1, cAr (cn_tA X) 4), (q2, .inl (cn_tA X 5, 2, .inr (.inr (.inr (.inr (fun i => if i < 2 then some (r i) else none)))))), (r 0, cAr (cn_tA X) 27), (r 1, cAr (cn_tA X) 27), (q3, cAr (cn_tA X) 2), (q4, cAz (cn_tA X) 2)]) rfl ?_
  refine cn_aload C d_F_init_51 rfl hl 0 rfl ?_
  refine cn_iconst (v := 0) C d_F_init_52 (by decide) ?_
  refine cn_puti (i0 := 0) C d_F_init_53 (fl_I fF_37) pF_7 rfl (Nat.le_of_ble_eq_true rfl) (by decide) (by decide) ?_
  refine cn_eq (ws' := [(h0, .inr (1, [.ref q1, .ref q2, .ref q3, .ref q4, .int 0, .int 0, .int 0, .int 0])), (q1, cAr (cn_tA X) 4), (q2, .inl (cn_tA X 5, 2, .inr (.inr (.inr (.inr (fun i => if i < 2 then some (r i) else none)))))), (r 0, cAr (cn_tA X) 27), (r 1, cAr (cn_tA X) 27), (q3, cAr (cn_tA X) 2), (q4, cAz (cn_tA X) 2)]) rfl ?_
  exact hret _ _ _ _ (by omega) (by omega) d_F_init_56 ⟨q1, q2, r, q3, q4, rfl⟩ _
