/-! The reference: leaves (written by program) -/
theorem rA_hk {M : fm_M} {m k : Nat} (h : k < 54) : M 9 (54 * m + k) = (rA M m).2.1 (k / 2) (k % 2) := by
  rw [rA_h (by omega) (by omega)]
  congr 1
  omega
abbrev Y_R_reached : fm_Y := ("EscapeMillModel", b_R_reached, 6, (some .int), 1)
set_option maxRecDepth 100000 in
set_option maxHeartbeats 4000000 in
theorem k_R_reached {m : Nat} (hm : m < 5) (M : fm_M) (s0 : Int32) : fm_ct SR y_R_reached b_R_reached 6 (some .int) 1 [.inr 0, .inl (nI m), .inl s0] M (fm_rv (an_rc (rA M m).2.1 s0) M) := by
  refine fm_of (ls := [some (.inr 0), some (.inl (nI m)), some (.inl s0), none, none, none]) (by decide) wsA_good (Nat.le_of_ble_eq_true rfl) rfl (fun X hX => ?_)
  have L15 : ∀ (t : Nat) (x : Int32), (∀ y, y = an_rt (rA M m).2.1 x 27 → fm_G SR Y_R_reached X M (fm_rv (an_rc (rA M m).2.1 s0) M) 72 [some (.inr 0), some (.inl (nI m)), some (.inl s0), some (.inl y), some (.inl (nI t)), none] [] M) → ∀ o, o ≤ 27 → ∀ y, y = an_rt (rA M m).2.1 x o → fm_G SR Y_R_reached X M (fm_rv (an_rc (rA M m).2.1 s0) M) 15 [some (.inr 0), some (.inl (nI m)), some (.inl s0), some (.inl y), some (.inl (nI t)), some (.inl (nI o))] [] M := by
    intro t x K
    refine fm_ind 27 (fun o hle ih => ?_)
    intro y hy
    refine fm_iload (pq := 17) hX d_R_reached_15 rfl rfl ?_
    refine fm_bipush (pq := 19) (v := nI 27) hX d_R_reached_17 (by decide) rfl ?_
    refine fm_n_ge (tgt := 72) (pq := 22) hX d_R_reached_19 rfl rfl (by omega) (by omega) (fun h19 => ?_) (fun h19 => ?_)
    · show fm_G SR Y_R_reached X M (fm_rv (an_rc (rA M m).2.1 s0) M) 72 [some (.inr 0), some (.inl (nI m)), some (.inl s0), some (.inl y), some (.inl (nI t)), some (.inl (nI o))] [] M
      refine fm_drop 5 rfl ?_
      have e : o = 27 := by omega
      rw [e] at hy
      exact K y hy
    · show fm_G SR Y_R_reached X M (fm_rv (an_rc (rA M m).2.1 s0) M) 22 [some (.inr 0), some (.inl (nI m)), some (.inl s0), some (.inl y), some (.inl (nI t)), some (.inl (nI o))] [] M
      refine fm_iload_n (pq := 23) hX d_R_reached_22 rfl rfl rfl ?_
      refine fm_iload (pq := 25) hX d_R_reached_23 rfl rfl ?_
      refine fm_ishr (pq := 26) (v := y >>> (nI o &&& 31)) hX d_R_reached_25 rfl rfl ?_
      refine fm_iconst (pq := 27) (v := nI 1) hX d_R_reached_26 (by decide) rfl ?_
      refine fm_iand (pq := 28) (v := bI (bt y o)) hX d_R_reached_27 (fm_bit _ (by omega)) rfl ?_
      refine fm_iconst (pq := 29) (v := nI 1) hX d_R_reached_28 (by decide) rfl ?_
      refine fm_b2_ne1 (tgt := 66) (pq := 32) hX d_R_reached_29 rfl rfl (fun h29 => ?_) (fun h29 => ?_)
      · show fm_G SR Y_R_reached X M (fm_rv (an_rc (rA M m).2.1 s0) M) 66 [some (.inr 0), some (.inl (nI m)), some (.inl s0), some (.inl y), some (.inl (nI t)), some (.inl (nI o))] [] M
        refine fm_iinc (pq := 69) (v := nI (o + 1)) (ls1 := [some (.inr 0), some (.inl (nI m)), some (.inl s0), some (.inl y), some (.inl (nI t)), some (.inl (nI (o + 1)))]) hX d_R_reached_66 rfl (nI_add _ _) (by decide) rfl rfl ?_
        refine fm_goto (tgt := 15) hX d_R_reached_69 rfl ?_
        first | exact ih (by omega) _ (by subst hy; exact (an_rt_t h29).symm) | exact ih (by omega) _ (by subst hy; exact (an_rt_f h29).symm)
      · show fm_G SR Y_R_reached X M (fm_rv (an_rc (rA M m).2.1 s0) M) 32 [some (.inr 0), some (.inl (nI m)), some (.inl s0), some (.inl y), some (.inl (nI t)), some (.inl (nI o))] [] M
        refine fm_iload_n (pq := 33) hX d_R_reached_32 rfl rfl rfl ?_
        refine fm_aload_n (pq := 34) hX d_R_reached_33 rfl rfl rfl ?_
        refine fm_getr (pq := 37) (q := 9) hX fR_34 rfl rfl d_R_reached_34 rfl ?_
        refine fm_bipush (pq := 39) (v := nI 54) hX d_R_reached_37 (by decide) rfl ?_
        refine fm_iload_n (pq := 40) hX d_R_reached_39 rfl rfl rfl ?_
        refine fm_imul (pq := 41) (v := nI (54 * m)) hX d_R_reached_40 (pk_mul _ _) rfl ?_
        refine fm_iconst (pq := 42) (v := nI 2) hX d_R_reached_41 (by decide) rfl ?_
        refine fm_iload (pq := 44) hX d_R_reached_42 rfl rfl ?_
        refine fm_imul (pq := 45) (v := nI (2 * o)) hX d_R_reached_44 (pk_mul _ _) rfl ?_
        refine fm_iadd (pq := 46) (v := nI (54 * m + (2 * o))) hX d_R_reached_45 (nI_add _ _) rfl ?_
        refine fm_iald (pq := 47) (v := (rA M m).2.1 o 0) hX rfl rfl rfl (by omega) (by decide) (rA_h (a := o) (g := 0) (by omega) (by omega)).symm d_R_reached_46 rfl ?_
        refine fm_ior (pq := 48) (v := y ||| ((rA M m).2.1 o 0)) hX d_R_reached_47 rfl rfl ?_
        refine fm_aload_n (pq := 49) hX d_R_reached_48 rfl rfl rfl ?_
        refine fm_getr (pq := 52) (q := 9) hX fR_34 rfl rfl d_R_reached_49 rfl ?_
        refine fm_bipush (pq := 54) (v := nI 54) hX d_R_reached_52 (by decide) rfl ?_
        refine fm_iload_n (pq := 55) hX d_R_reached_54 rfl rfl rfl ?_
        refine fm_imul (pq := 56) (v := nI (54 * m)) hX d_R_reached_55 (pk_mul _ _) rfl ?_
        refine fm_iconst (pq := 57) (v := nI 2) hX d_R_reached_56 (by decide) rfl ?_
        refine fm_iload (pq := 59) hX d_R_reached_57 rfl rfl ?_
        refine fm_imul (pq := 60) (v := nI (2 * o)) hX d_R_reached_59 (pk_mul _ _) rfl ?_
        refine fm_iadd (pq := 61) (v := nI (54 * m + (2 * o))) hX d_R_reached_60 (nI_add _ _) rfl ?_
        refine fm_iconst (pq := 62) (v := nI 1) hX d_R_reached_61 (by decide) rfl ?_
        refine fm_iadd (pq := 63) (v := nI (54 * m + (2 * o) + 1)) hX d_R_reached_62 (nI_add _ _) rfl ?_
        refine fm_iald (pq := 64) (v := (rA M m).2.1 o 1) hX rfl rfl rfl (by omega) (by decide) (rA_h (a := o) (g := 1) (by omega) (by omega)).symm d_R_reached_63 rfl ?_
        refine fm_ior (pq := 65) (v := (y ||| ((rA M m).2.1 o 0)) ||| ((rA M m).2.1 o 1)) hX d_R_reached_64 rfl rfl ?_
        refine fm_istore_n (pq := 66) (ls1 := [some (.inr 0), some (.inl (nI m)), some (.inl s0), some (.inl ((y ||| ((rA M m).2.1 o 0)) ||| ((rA M m).2.1 o 1))), some (.inl (nI t)), some (.inl (nI o))]) hX d_R_reached_65 rfl (by decide) rfl rfl ?_
        refine fm_iinc (pq := 69) (v := nI (o + 1)) (ls1 := [some (.inr 0), some (.inl (nI m)), some (.inl s0), some (.inl ((y ||| ((rA M m).2.1 o 0)) ||| ((rA M m).2.1 o 1))), some (.inl (nI t)), some (.inl (nI (o + 1)))]) hX d_R_reached_66 rfl (nI_add _ _) (by decide) rfl rfl ?_
        refine fm_goto (tgt := 15) hX d_R_reached_69 rfl ?_
        first | exact ih (by omega) _ (by subst hy; exact (an_rt_t h29).symm) | exact ih (by omega) _ (by subst hy; exact (an_rt_f h29).symm)
  have L5 : ∀ t, t ≤ 28 → ∀ x, an_rr (rA M m).2.1 (28 - t) x = an_rr (rA M m).2.1 28 s0 → fm_G SR Y_R_reached X M (fm_rv (an_rc (rA M m).2.1 s0) M) 5 [some (.inr 0), some (.inl (nI m)), some (.inl s0), some (.inl x), some (.inl (nI t)), none] [] M := by
    refine fm_ind 28 (fun t hle ih => ?_)
    intro x hx0
    refine fm_iload (pq := 7) hX d_R_reached_5 rfl rfl ?_
    refine fm_bipush (pq := 9) (v := nI 28) hX d_R_reached_7 (by decide) rfl ?_
    refine fm_n_ge (tgt := 78) (pq := 12) hX d_R_reached_9 rfl rfl (by omega) (by omega) (fun h9 => ?_) (fun h9 => ?_)
    · show fm_G SR Y_R_reached X M (fm_rv (an_rc (rA M m).2.1 s0) M) 78 [some (.inr 0), some (.inl (nI m)), some (.inl s0), some (.inl x), some (.inl (nI t)), none] [] M
      refine fm_iload_n (pq := 79) hX d_R_reached_78 rfl rfl rfl ?_
      refine fm_iret hX rfl d_R_reached_79 ?_
      exact fm_rvi (by rw [← an_rr_eq, ← hx0, show 28 - t = 0 by omega]; rfl)
    · show fm_G SR Y_R_reached X M (fm_rv (an_rc (rA M m).2.1 s0) M) 12 [some (.inr 0), some (.inl (nI m)), some (.inl s0), some (.inl x), some (.inl (nI t)), none] [] M
      refine fm_iconst (pq := 13) (v := nI 0) hX d_R_reached_12 (by decide) rfl ?_
      refine fm_istore (pq := 15) (ls1 := [some (.inr 0), some (.inl (nI m)), some (.inl s0), some (.inl x), some (.inl (nI t)), some (.inl (nI 0))]) hX d_R_reached_13 (by decide) rfl rfl ?_
      refine L15 t x (fun y hy => ?_) 0 (by omega) _ rfl
      show fm_G SR Y_R_reached X M (fm_rv (an_rc (rA M m).2.1 s0) M) 72 [some (.inr 0), some (.inl (nI m)), some (.inl s0), some (.inl y), some (.inl (nI t)), none] [] M
      refine fm_iinc (pq := 75) (v := nI (t + 1)) (ls1 := [some (.inr 0), some (.inl (nI m)), some (.inl s0), some (.inl y), some (.inl (nI (t + 1))), none]) hX d_R_reached_72 rfl (nI_add _ _) (by decide) rfl rfl ?_
      refine fm_goto (tgt := 5) hX d_R_reached_75 rfl ?_
      exact ih (by omega) _ (by rw [← hx0, show 28 - t = (28 - (t + 1)) + 1 by omega, hy]; rfl)
  show fm_G SR Y_R_reached X M (fm_rv (an_rc (rA M m).2.1 s0) M) 0 [some (.inr 0), some (.inl (nI m)), some (.inl s0), none, none, none] [] M
  refine fm_iload_n (pq := 1) hX d_R_reached_0 rfl rfl rfl ?_
  refine fm_istore_n (pq := 2) (ls1 := [some (.inr 0), some (.inl (nI m)), some (.inl s0), some (.inl s0), none, none]) hX d_R_reached_1 rfl (by decide) rfl rfl ?_
  refine fm_iconst (pq := 3) (v := nI 0) hX d_R_reached_2 (by decide) rfl ?_
  refine fm_istore (pq := 5) (ls1 := [some (.inr 0), some (.inl (nI m)), some (.inl s0), some (.inl s0), some (.inl (nI 0)), none]) hX d_R_reached_3 (by decide) rfl rfl ?_
  exact L5 0 (by omega) _ rfl
abbrev Y_R_held : fm_Y := ("EscapeMillModel", b_R_held, 6, (some .int), 1)
set_option maxRecDepth 100000 in
set_option maxHeartbeats 4000000 in
theorem k_R_held {m : Nat} (hm : m < 5) (M : fm_M) (who : Int32) {f : Nat} (hf : f < 2) : fm_ct SR y_R_held b_R_held 6 (some .int) 1 [.inr 0, .inl (nI m), .inl who, .inl (nI f)] M (fm_rv (an_hb (fun a => (rA M m).2.1 a f) who 27) M) := by
  refine fm_of (ls := [some (.inr 0), some (.inl (nI m)), some (.inl who), some (.inl (nI f)), none, none]) (by decide) wsA_good (Nat.le_of_ble_eq_true rfl) rfl (fun X hX => ?_)
  have L6 : ∀ i, i ≤ 27 → ∀ x, x = an_hb (fun a => (rA M m).2.1 a f) who i → fm_G SR Y_R_held X M (fm_rv (an_hb (fun a => (rA M m).2.1 a f) who 27) M) 6 [some (.inr 0), some (.inl (nI m)), some (.inl who), some (.inl (nI f)), some (.inl x), some (.inl (nI i))] [] M := by
    refine fm_ind 27 (fun i hle ih => ?_)
    intro x hx0
    refine fm_iload (pq := 8) hX d_R_held_6 rfl rfl ?_
    refine fm_bipush (pq := 10) (v := nI 27) hX d_R_held_8 (by decide) rfl ?_
    refine fm_n_ge (tgt := 55) (pq := 13) hX d_R_held_10 rfl rfl (by omega) (by omega) (fun h10 => ?_) (fun h10 => ?_)
    · show fm_G SR Y_R_held X M (fm_rv (an_hb (fun a => (rA M m).2.1 a f) who 27) M) 55 [some (.inr 0), some (.inl (nI m)), some (.inl who), some (.inl (nI f)), some (.inl x), some (.inl (nI i))] [] M
      refine fm_iload (pq := 57) hX d_R_held_55 rfl rfl ?_
      refine fm_iret hX rfl d_R_held_57 ?_
      exact fm_rvi (by rw [hx0, show i = 27 by omega])
    · show fm_G SR Y_R_held X M (fm_rv (an_hb (fun a => (rA M m).2.1 a f) who 27) M) 13 [some (.inr 0), some (.inl (nI m)), some (.inl who), some (.inl (nI f)), some (.inl x), some (.inl (nI i))] [] M
      refine fm_iload_n (pq := 14) hX d_R_held_13 rfl rfl rfl ?_
      refine fm_iload (pq := 16) hX d_R_held_14 rfl rfl ?_
      refine fm_ishr (pq := 17) (v := who >>> (nI i &&& 31)) hX d_R_held_16 rfl rfl ?_
      refine fm_iconst (pq := 18) (v := nI 1) hX d_R_held_17 (by decide) rfl ?_
      refine fm_iand (pq := 19) (v := bI (bt who i)) hX d_R_held_18 (fm_bit _ (by omega)) rfl ?_
      refine fm_iconst (pq := 20) (v := nI 1) hX d_R_held_19 (by decide) rfl ?_
      refine fm_b2_ne1 (tgt := 45) (pq := 23) hX d_R_held_20 rfl rfl (fun h20 => ?_) (fun h20 => ?_)
      · show fm_G SR Y_R_held X M (fm_rv (an_hb (fun a => (rA M m).2.1 a f) who 27) M) 45 [some (.inr 0), some (.inl (nI m)), some (.inl who), some (.inl (nI f)), some (.inl x), some (.inl (nI i))] [] M
        refine fm_iload (pq := 47) hX d_R_held_45 rfl rfl ?_
        refine fm_istore (pq := 49) (ls1 := [some (.inr 0), some (.inl (nI m)), some (.inl who), some (.inl (nI f)), some (.inl x), some (.inl (nI i))]) hX d_R_held_47 (by decide) rfl rfl ?_
        refine fm_iinc (pq := 52) (v := nI (i + 1)) (ls1 := [some (.inr 0), some (.inl (nI m)), some (.inl who), some (.inl (nI f)), some (.inl x), some (.inl (nI (i + 1)))]) hX d_R_held_49 rfl (nI_add _ _) (by decide) rfl rfl ?_
        refine fm_goto (tgt := 6) hX d_R_held_52 rfl ?_
        first | exact ih (by omega) _ (by rw [hx0]; exact (an_hb_t h20).symm) | exact ih (by omega) _ (by rw [hx0]; exact (an_hb_f h20).symm)
      · show fm_G SR Y_R_held X M (fm_rv (an_hb (fun a => (rA M m).2.1 a f) who 27) M) 23 [some (.inr 0), some (.inl (nI m)), some (.inl who), some (.inl (nI f)), some (.inl x), some (.inl (nI i))] [] M
        refine fm_iload (pq := 25) hX d_R_held_23 rfl rfl ?_
        refine fm_aload_n (pq := 26) hX d_R_held_25 rfl rfl rfl ?_
        refine fm_getr (pq := 29) (q := 9) hX fR_34 rfl rfl d_R_held_26 rfl ?_
        refine fm_bipush (pq := 31) (v := nI 54) hX d_R_held_29 (by decide) rfl ?_
        refine fm_iload_n (pq := 32) hX d_R_held_31 rfl rfl rfl ?_
        refine fm_imul (pq := 33) (v := nI (54 * m)) hX d_R_held_32 (pk_mul _ _) rfl ?_
        refine fm_iconst (pq := 34) (v := nI 2) hX d_R_held_33 (by decide) rfl ?_
        refine fm_iload (pq := 36) hX d_R_held_34 rfl rfl ?_
        refine fm_imul (pq := 37) (v := nI (2 * i)) hX d_R_held_36 (pk_mul _ _) rfl ?_
        refine fm_iadd (pq := 38) (v := nI (54 * m + (2 * i))) hX d_R_held_37 (nI_add _ _) rfl ?_
        refine fm_iload_n (pq := 39) hX d_R_held_38 rfl rfl rfl ?_
        refine fm_iadd (pq := 40) (v := nI (54 * m + (2 * i) + f)) hX d_R_held_39 (nI_add _ _) rfl ?_
        refine fm_iald (pq := 41) (v := (rA M m).2.1 i f) hX rfl rfl rfl (by omega) (by decide) (rA_h (a := i) (g := f) (by omega) (by omega)).symm d_R_held_40 rfl ?_
        refine fm_ior (pq := 42) (v := x ||| ((rA M m).2.1 i f)) hX d_R_held_41 rfl rfl ?_
        refine fm_goto (tgt := 47) hX d_R_held_42 rfl ?_
        refine fm_istore (pq := 49) (ls1 := [some (.inr 0), some (.inl (nI m)), some (.inl who), some (.inl (nI f)), some (.inl (x ||| ((rA M m).2.1 i f))), some (.inl (nI i))]) hX d_R_held_47 (by decide) rfl rfl ?_
        refine fm_iinc (pq := 52) (v := nI (i + 1)) (ls1 := [some (.inr 0), some (.inl (nI m)), some (.inl who), some (.inl (nI f)), some (.inl (x ||| ((rA M m).2.1 i f))), some (.inl (nI (i + 1)))]) hX d_R_held_49 rfl (nI_add _ _) (by decide) rfl rfl ?_
        refine fm_goto (tgt := 6) hX d_R_held_52 rfl ?_
        first | exact ih (by omega) _ (by rw [hx0]; exact (an_hb_t h20).symm) | exact ih (by omega) _ (by rw [hx0]; exact (an_hb_f h20).symm)
  show fm_G SR Y_R_held X M (fm_rv (an_hb (fun a => (rA M m).2.1 a f) who 27) M) 0 [some (.inr 0), some (.inl (nI m)), some (.inl who), some (.inl (nI f)), none, none] [] M
  refine fm_iconst (pq := 1) (v := nI 0) hX d_R_held_0 (by decide) rfl ?_
  refine fm_istore (pq := 3) (ls1 := [some (.inr 0), some (.inl (nI m)), some (.inl who), some (.inl (nI f)), some (.inl (nI 0)), none]) hX d_R_held_1 (by decide) rfl rfl ?_
  refine fm_iconst (pq := 4) (v := nI 0) hX d_R_held_3 (by decide) rfl ?_
  refine fm_istore (pq := 6) (ls1 := [some (.inr 0), some (.inl (nI m)), some (.inl who), some (.inl (nI f)), some (.inl (nI 0)), some (.inl (nI 0))]) hX d_R_held_4 (by decide) rfl rfl ?_
  exact L6 0 (by omega) _ rfl
abbrev Y_R_holds : fm_Y := ("EscapeMillModel", b_R_holds, 8, none, 1)
set_option maxRecDepth 100000 in
set_option maxHeartbeats 4000000 in
theorem k_R_holds {m : Nat} (hm : m < 5) (M : fm_M) (who : Int32) {f : Nat} (hf : f ≤ 2) (s : Int32) : fm_ct SR y_R_holds b_R_holds 8 none 1 [.inr 0, .inl (nI m), .inl who, .inl (nI f), .inl s] M (fm_vr (fun M' => rS m M M' (an_h (rA M m) who (rHs f) s))) := by
  refine fm_of (ls := [some (.inr 0), some (.inl (nI m)), some (.inl who), some (.inl (nI f)), some (.inl s), none, none, none]) (by decide) wsA_good (Nat.le_of_ble_eq_true rfl) rfl (fun X hX => ?_)
  have L23 : ∀ o, o < 27 → bt who o = true → (∀ M2, rS m M M2 (an_h (rA M m) who (rHn f (2 * (o + 1))) s) → fm_G SR Y_R_holds X M (fm_vr (fun M' => rS m M M' (an_h (rA M m) who (rHs f) s))) 94 [some (.inr 0), some (.inl (nI m)), some (.inl who), some (.inl (nI f)), some (.inl s), some (.inl (nI o)), none, none] [] M2) → ∀ g, g ≤ 2 → ∀ M2, rS m M M2 (an_h (rA M m) who (rHn f (2 * o + g)) s) → fm_G SR Y_R_holds X M (fm_vr (fun M' => rS m M M' (an_h (rA M m) who (rHs f) s))) 23 [some (.inr 0), some (.inl (nI m)), some (.inl who), some (.inl (nI f)), some (.inl s), some (.inl (nI o)), some (.inl (nI g)), none] [] M2 := by
    intro o ho hw1 K
    refine fm_ind 2 (fun g hle ih => ?_)
    intro M2 hc
    refine fm_iload (pq := 25) hX d_R_holds_23 rfl rfl ?_
    refine fm_iconst (pq := 26) (v := nI 2) hX d_R_holds_25 (by decide) rfl ?_
    refine fm_n_ge (tgt := 94) (pq := 29) hX d_R_holds_26 rfl rfl (by omega) (by omega) (fun h26 => ?_) (fun h26 => ?_)
    · show fm_G SR Y_R_holds X M (fm_vr (fun M' => rS m M M' (an_h (rA M m) who (rHs f) s))) 94 [some (.inr 0), some (.inl (nI m)), some (.inl who), some (.inl (nI f)), some (.inl s), some (.inl (nI o)), some (.inl (nI g)), none] [] M2
      refine fm_drop 6 rfl ?_
      have e : g = 2 := by omega
      rw [e] at hc
      exact K M2 hc
    · show fm_G SR Y_R_holds X M (fm_vr (fun M' => rS m M M' (an_h (rA M m) who (rHs f) s))) 29 [some (.inr 0), some (.inl (nI m)), some (.inl who), some (.inl (nI f)), some (.inl s), some (.inl (nI o)), some (.inl (nI g)), none] [] M2
      refine fm_bipush (pq := 31) (v := nI 54) hX d_R_holds_29 (by decide) rfl ?_
      refine fm_iload_n (pq := 32) hX d_R_holds_31 rfl rfl rfl ?_
      refine fm_imul (pq := 33) (v := nI (54 * m)) hX d_R_holds_32 (pk_mul _ _) rfl ?_
      refine fm_iconst (pq := 34) (v := nI 2) hX d_R_holds_33 (by decide) rfl ?_
      refine fm_iload (pq := 36) hX d_R_holds_34 rfl rfl ?_
      refine fm_imul (pq := 37) (v := nI (2 * o)) hX d_R_holds_36 (pk_mul _ _) rfl ?_
      refine fm_iadd (pq := 38) (v := nI (54 * m + (2 * o))) hX d_R_holds_37 (nI_add _ _) rfl ?_
      refine fm_iload (pq := 40) hX d_R_holds_38 rfl rfl ?_
      refine fm_iadd (pq := 41) (v := nI (54 * m + (2 * o) + g)) hX d_R_holds_40 (nI_add _ _) rfl ?_
      refine fm_istore (pq := 43) (ls1 := [some (.inr 0), some (.inl (nI m)), some (.inl who), some (.inl (nI f)), some (.inl s), some (.inl (nI o)), some (.inl (nI g)), some (.inl (nI (54 * m + (2 * o) + g)))]) hX d_R_holds_41 (by decide) rfl rfl ?_
      refine fm_aload_n (pq := 44) hX d_R_holds_43 rfl rfl rfl ?_
      refine fm_getr (pq := 47) (q := 9) hX fR_34 rfl rfl d_R_holds_44 rfl ?_
      refine fm_iload (pq := 49) hX d_R_holds_47 rfl rfl ?_
      refine fm_iload (pq := 51) hX d_R_holds_49 rfl rfl ?_
      refine fm_bipush (pq := 53) (v := nI 23) hX d_R_holds_51 (by decide) rfl ?_
      refine fm_n_gt (tgt := 67) (pq := 56) hX d_R_holds_53 rfl rfl (by omega) (by omega) (fun h53 => ?_) (fun h53 => ?_)
      · show fm_G SR Y_R_holds X M (fm_vr (fun M' => rS m M M' (an_h (rA M m) who (rHs f) s))) 67 [some (.inr 0), some (.inl (nI m)), some (.inl who), some (.inl (nI f)), some (.inl s), some (.inl (nI o)), some (.inl (nI g)), some (.inl (nI (54 * m + (2 * o) + g)))] [.inl (nI (54 * m + (2 * o) + g)), .inr 9] M2
        refine fm_aload_n (pq := 68) hX d_R_holds_67 rfl rfl rfl ?_
        refine fm_getr (pq := 71) (q := 9) hX fR_34 rfl rfl d_R_holds_68 rfl ?_
        refine fm_iload (pq := 73) hX d_R_holds_71 rfl rfl ?_
        refine fm_iald (pq := 74) (v := M2 9 (54 * m + (2 * o) + g)) hX rfl rfl rfl (by omega) (by decide) rfl d_R_holds_73 rfl ?_
        refine fm_iload (pq := 76) hX d_R_holds_74 rfl rfl ?_
        refine fm_ior (pq := 77) (v := (M2 9 (54 * m + (2 * o) + g)) ||| s) hX d_R_holds_76 rfl rfl ?_
        refine fm_goto (tgt := 87) hX d_R_holds_77 rfl ?_
        refine fm_iast (pq := 88) hX rfl rfl rfl (by omega) (by decide) d_R_holds_87 rfl ?_
        refine fm_iinc (pq := 91) (v := nI (g + 1)) (ls1 := [some (.inr 0), some (.inl (nI m)), some (.inl who), some (.inl (nI f)), some (.inl s), some (.inl (nI o)), some (.inl (nI (g + 1))), some (.inl (nI (54 * m + (2 * o) + g)))]) hX d_R_holds_88 rfl (nI_add _ _) (by decide) rfl rfl ?_
        refine fm_goto (tgt := 23) hX d_R_holds_91 rfl ?_
        refine fm_drop 7 (ls1 := [some (.inr 0), some (.inl (nI m)), some (.inl who), some (.inl (nI f)), some (.inl s), some (.inl (nI o)), some (.inl (nI (g + 1))), none]) rfl ?_
        first | exact ih (by omega) _ (rS_hp ho (by omega) hw1 hc (by rw [if_pos (by simp [rHs]; omega)])) | exact ih (by omega) _ (rS_hp ho (by omega) hw1 hc (by rw [if_neg (by simp [rHs]; omega)]))
      · show fm_G SR Y_R_holds X M (fm_vr (fun M' => rS m M M' (an_h (rA M m) who (rHs f) s))) 56 [some (.inr 0), some (.inl (nI m)), some (.inl who), some (.inl (nI f)), some (.inl s), some (.inl (nI o)), some (.inl (nI g)), some (.inl (nI (54 * m + (2 * o) + g)))] [.inl (nI (54 * m + (2 * o) + g)), .inr 9] M2
        refine fm_iload (pq := 58) hX d_R_holds_56 rfl rfl ?_
        refine fm_iload_n (pq := 59) hX d_R_holds_58 rfl rfl rfl ?_
        refine fm_n_eq (tgt := 67) (pq := 62) hX d_R_holds_59 rfl rfl (by omega) (by omega) (fun h59 => ?_) (fun h59 => ?_)
        · show fm_G SR Y_R_holds X M (fm_vr (fun M' => rS m M M' (an_h (rA M m) who (rHs f) s))) 67 [some (.inr 0), some (.inl (nI m)), some (.inl who), some (.inl (nI f)), some (.inl s), some (.inl (nI o)), some (.inl (nI g)), some (.inl (nI (54 * m + (2 * o) + g)))] [.inl (nI (54 * m + (2 * o) + g)), .inr 9] M2
          refine fm_aload_n (pq := 68) hX d_R_holds_67 rfl rfl rfl ?_
          refine fm_getr (pq := 71) (q := 9) hX fR_34 rfl rfl d_R_holds_68 rfl ?_
          refine fm_iload (pq := 73) hX d_R_holds_71 rfl rfl ?_
          refine fm_iald (pq := 74) (v := M2 9 (54 * m + (2 * o) + g)) hX rfl rfl rfl (by omega) (by decide) rfl d_R_holds_73 rfl ?_
          refine fm_iload (pq := 76) hX d_R_holds_74 rfl rfl ?_
          refine fm_ior (pq := 77) (v := (M2 9 (54 * m + (2 * o) + g)) ||| s) hX d_R_holds_76 rfl rfl ?_
          refine fm_goto (tgt := 87) hX d_R_holds_77 rfl ?_
          refine fm_iast (pq := 88) hX rfl rfl rfl (by omega) (by decide) d_R_holds_87 rfl ?_
          refine fm_iinc (pq := 91) (v := nI (g + 1)) (ls1 := [some (.inr 0), some (.inl (nI m)), some (.inl who), some (.inl (nI f)), some (.inl s), some (.inl (nI o)), some (.inl (nI (g + 1))), some (.inl (nI (54 * m + (2 * o) + g)))]) hX d_R_holds_88 rfl (nI_add _ _) (by decide) rfl rfl ?_
          refine fm_goto (tgt := 23) hX d_R_holds_91 rfl ?_
          refine fm_drop 7 (ls1 := [some (.inr 0), some (.inl (nI m)), some (.inl who), some (.inl (nI f)), some (.inl s), some (.inl (nI o)), some (.inl (nI (g + 1))), none]) rfl ?_
          first | exact ih (by omega) _ (rS_hp ho (by omega) hw1 hc (by rw [if_pos (by simp [rHs]; omega)])) | exact ih (by omega) _ (rS_hp ho (by omega) hw1 hc (by rw [if_neg (by simp [rHs]; omega)]))
        · show fm_G SR Y_R_holds X M (fm_vr (fun M' => rS m M M' (an_h (rA M m) who (rHs f) s))) 62 [some (.inr 0), some (.inl (nI m)), some (.inl who), some (.inl (nI f)), some (.inl s), some (.inl (nI o)), some (.inl (nI g)), some (.inl (nI (54 * m + (2 * o) + g)))] [.inl (nI (54 * m + (2 * o) + g)), .inr 9] M2
          refine fm_iload_n (pq := 63) hX d_R_holds_62 rfl rfl rfl ?_
          refine fm_iconst (pq := 64) (v := nI 2) hX d_R_holds_63 (by decide) rfl ?_
          refine fm_n_ne (tgt := 80) (pq := 67) hX d_R_holds_64 rfl rfl (by omega) (by omega) (fun h64 => ?_) (fun h64 => ?_)
          · show fm_G SR Y_R_holds X M (fm_vr (fun M' => rS m M M' (an_h (rA M m) who (rHs f) s))) 80 [some (.inr 0), some (.inl (nI m)), some (.inl who), some (.inl (nI f)), some (.inl s), some (.inl (nI o)), some (.inl (nI g)), some (.inl (nI (54 * m + (2 * o) + g)))] [.inl (nI (54 * m + (2 * o) + g)), .inr 9] M2
            refine fm_aload_n (pq := 81) hX d_R_holds_80 rfl rfl rfl ?_
            refine fm_getr (pq := 84) (q := 9) hX fR_34 rfl rfl d_R_holds_81 rfl ?_
            refine fm_iload (pq := 86) hX d_R_holds_84 rfl rfl ?_
            refine fm_iald (pq := 87) (v := M2 9 (54 * m + (2 * o) + g)) hX rfl rfl rfl (by omega) (by decide) rfl d_R_holds_86 rfl ?_
            refine fm_iast (pq := 88) hX rfl rfl rfl (by omega) (by decide) d_R_holds_87 rfl ?_
            refine fm_iinc (pq := 91) (v := nI (g + 1)) (ls1 := [some (.inr 0), some (.inl (nI m)), some (.inl who), some (.inl (nI f)), some (.inl s), some (.inl (nI o)), some (.inl (nI (g + 1))), some (.inl (nI (54 * m + (2 * o) + g)))]) hX d_R_holds_88 rfl (nI_add _ _) (by decide) rfl rfl ?_
            refine fm_goto (tgt := 23) hX d_R_holds_91 rfl ?_
            refine fm_drop 7 (ls1 := [some (.inr 0), some (.inl (nI m)), some (.inl who), some (.inl (nI f)), some (.inl s), some (.inl (nI o)), some (.inl (nI (g + 1))), none]) rfl ?_
            first | exact ih (by omega) _ (rS_hp ho (by omega) hw1 hc (by rw [if_pos (by simp [rHs]; omega)])) | exact ih (by omega) _ (rS_hp ho (by omega) hw1 hc (by rw [if_neg (by simp [rHs]; omega)]))
          · show fm_G SR Y_R_holds X M (fm_vr (fun M' => rS m M M' (an_h (rA M m) who (rHs f) s))) 67 [some (.inr 0), some (.inl (nI m)), some (.inl who), some (.inl (nI f)), some (.inl s), some (.inl (nI o)), some (.inl (nI g)), some (.inl (nI (54 * m + (2 * o) + g)))] [.inl (nI (54 * m + (2 * o) + g)), .inr 9] M2
            refine fm_aload_n (pq := 68) hX d_R_holds_67 rfl rfl rfl ?_
            refine fm_getr (pq := 71) (q := 9) hX fR_34 rfl rfl d_R_holds_68 rfl ?_
            refine fm_iload (pq := 73) hX d_R_holds_71 rfl rfl ?_
            refine fm_iald (pq := 74) (v := M2 9 (54 * m + (2 * o) + g)) hX rfl rfl rfl (by omega) (by decide) rfl d_R_holds_73 rfl ?_
            refine fm_iload (pq := 76) hX d_R_holds_74 rfl rfl ?_
            refine fm_ior (pq := 77) (v := (M2 9 (54 * m + (2 * o) + g)) ||| s) hX d_R_holds_76 rfl rfl ?_
            refine fm_goto (tgt := 87) hX d_R_holds_77 rfl ?_
            refine fm_iast (pq := 88) hX rfl rfl rfl (by omega) (by decide) d_R_holds_87 rfl ?_
            refine fm_iinc (pq := 91) (v := nI (g + 1)) (ls1 := [some (.inr 0), some (.inl (nI m)), some (.inl who), some (.inl (nI f)), some (.inl s), some (.inl (nI o)), some (.inl (nI (g + 1))), some (.inl (nI (54 * m + (2 * o) + g)))]) hX d_R_holds_88 rfl (nI_add _ _) (by decide) rfl rfl ?_
            refine fm_goto (tgt := 23) hX d_R_holds_91 rfl ?_
            refine fm_drop 7 (ls1 := [some (.inr 0), some (.inl (nI m)), some (.inl who), some (.inl (nI f)), some (.inl s), some (.inl (nI o)), some (.inl (nI (g + 1))), none]) rfl ?_
            first | exact ih (by omega) _ (rS_hp ho (by omega) hw1 hc (by rw [if_pos (by simp [rHs]; omega)])) | exact ih (by omega) _ (rS_hp ho (by omega) hw1 hc (by rw [if_neg (by simp [rHs]; omega)]))
  have L3 : ∀ o, o ≤ 27 → ∀ M1, rS m M M1 (an_h (rA M m) who (rHn f (2 * o)) s) → fm_G SR Y_R_holds X M (fm_vr (fun M' => rS m M M' (an_h (rA M m) who (rHs f) s))) 3 [some (.inr 0), some (.inl (nI m)), some (.inl who), some (.inl (nI f)), some (.inl s), some (.inl (nI o)), none, none] [] M1 := by
    refine fm_ind 27 (fun o hle ih => ?_)
    intro M1 hc
    refine fm_iload (pq := 5) hX d_R_holds_3 rfl rfl ?_
    refine fm_bipush (pq := 7) (v := nI 27) hX d_R_holds_5 (by decide) rfl ?_
    refine fm_n_ge (tgt := 100) (pq := 10) hX d_R_holds_7 rfl rfl (by omega) (by omega) (fun h7 => ?_) (fun h7 => ?_)
    · show fm_G SR Y_R_holds X M (fm_vr (fun M' => rS m M M' (an_h (rA M m) who (rHs f) s))) 100 [some (.inr 0), some (.inl (nI m)), some (.inl who), some (.inl (nI f)), some (.inl s), some (.inl (nI o)), none, none] [] M1
      refine fm_vret hX rfl d_R_holds_100 ?_
      have e : o = 27 := by omega
      rw [e] at hc
      exact ⟨rfl, rS_eq hc (rHn_54 _ _ _ _)⟩
    · show fm_G SR Y_R_holds X M (fm_vr (fun M' => rS m M M' (an_h (rA M m) who (rHs f) s))) 10 [some (.inr 0), some (.inl (nI m)), some (.inl who), some (.inl (nI f)), some (.inl s), some (.inl (nI o)), none, none] [] M1
      refine fm_iload_n (pq := 11) hX d_R_holds_10 rfl rfl rfl ?_
      refine fm_iload (pq := 13) hX d_R_holds_11 rfl rfl ?_
      refine fm_ishr (pq := 14) (v := who >>> (nI o &&& 31)) hX d_R_holds_13 rfl rfl ?_
      refine fm_iconst (pq := 15) (v := nI 1) hX d_R_holds_14 (by decide) rfl ?_
      refine fm_iand (pq := 16) (v := bI (bt who o)) hX d_R_holds_15 (fm_bit _ (by omega)) rfl ?_
      refine fm_iconst (pq := 17) (v := nI 1) hX d_R_holds_16 (by decide) rfl ?_
      refine fm_b2_ne1 (tgt := 94) (pq := 20) hX d_R_holds_17 rfl rfl (fun h17 => ?_) (fun h17 => ?_)
      · show fm_G SR Y_R_holds X M (fm_vr (fun M' => rS m M M' (an_h (rA M m) who (rHs f) s))) 94 [some (.inr 0), some (.inl (nI m)), some (.inl who), some (.inl (nI f)), some (.inl s), some (.inl (nI o)), none, none] [] M1
        refine fm_iinc (pq := 97) (v := nI (o + 1)) (ls1 := [some (.inr 0), some (.inl (nI m)), some (.inl who), some (.inl (nI f)), some (.inl s), some (.inl (nI (o + 1))), none, none]) hX d_R_holds_94 rfl (nI_add _ _) (by decide) rfl rfl ?_
        refine fm_goto (tgt := 3) hX d_R_holds_97 rfl ?_
        exact ih (by omega) _ (rS_hs hc (by rw [h17]; decide))
      · show fm_G SR Y_R_holds X M (fm_vr (fun M' => rS m M M' (an_h (rA M m) who (rHs f) s))) 20 [some (.inr 0), some (.inl (nI m)), some (.inl who), some (.inl (nI f)), some (.inl s), some (.inl (nI o)), none, none] [] M1
        refine fm_iconst (pq := 21) (v := nI 0) hX d_R_holds_20 (by decide) rfl ?_
        refine fm_istore (pq := 23) (ls1 := [some (.inr 0), some (.inl (nI m)), some (.inl who), some (.inl (nI f)), some (.inl s), some (.inl (nI o)), some (.inl (nI 0)), none]) hX d_R_holds_21 (by decide) rfl rfl ?_
        refine L23 o (by omega) h17 (fun M2 h2 => ?_) 0 (by omega) _ hc
        show fm_G SR Y_R_holds X M (fm_vr (fun M' => rS m M M' (an_h (rA M m) who (rHs f) s))) 94 [some (.inr 0), some (.inl (nI m)), some (.inl who), some (.inl (nI f)), some (.inl s), some (.inl (nI o)), none, none] [] M2
        refine fm_iinc (pq := 97) (v := nI (o + 1)) (ls1 := [some (.inr 0), some (.inl (nI m)), some (.inl who), some (.inl (nI f)), some (.inl s), some (.inl (nI (o + 1))), none, none]) hX d_R_holds_94 rfl (nI_add _ _) (by decide) rfl rfl ?_
        refine fm_goto (tgt := 3) hX d_R_holds_97 rfl ?_
        exact ih (by omega) _ h2
  show fm_G SR Y_R_holds X M (fm_vr (fun M' => rS m M M' (an_h (rA M m) who (rHs f) s))) 0 [some (.inr 0), some (.inl (nI m)), some (.inl who), some (.inl (nI f)), some (.inl s), none, none, none] [] M
  refine fm_iconst (pq := 1) (v := nI 0) hX d_R_holds_0 (by decide) rfl ?_
  refine fm_istore (pq := 3) (ls1 := [some (.inr 0), some (.inl (nI m)), some (.inl who), some (.inl (nI f)), some (.inl s), some (.inl (nI 0)), none, none]) hX d_R_holds_1 (by decide) rfl rfl ?_
  exact L3 0 (by omega) M (rS_eq (rS_rf m M) (rHn_0 _ _ _ _).symm)
abbrev Y_R_stateOf : fm_Y := ("EscapeMillModel", b_R_stateOf, 4, (some .int), 1)
set_option maxRecDepth 100000 in
set_option maxHeartbeats 4000000 in
theorem k_R_stateOf {P : pr_T} {m : Nat} (hm : m < 5) (M : fm_M) (hP : rP M P) (hw : pr_wf P) {E : an_E} (hE : rE P m E M) {k p : Nat} (hk : k < 5) (hp : p < P.2.1 k) : fm_ct SR y_R_stateOf b_R_stateOf 4 (some .int) 1 [.inr 0, .inl (nI m), .inl (nI k), .inl (nI p)] M (fm_rv (nI (E.2.1 k p)) M) := by
  refine fm_of (ls := [some (.inr 0), some (.inl (nI m)), some (.inl (nI k)), some (.inl (nI p))]) (by decide) wsA_good (Nat.le_of_ble_eq_true rfl) rfl (fun X hX => ?_)
  have wk := (hw k hk).1
  have wk2 := (hw k hk).2.1
  show fm_G SR Y_R_stateOf X M (fm_rv (nI (E.2.1 k p)) M) 0 [some (.inr 0), some (.inl (nI m)), some (.inl (nI k)), some (.inl (nI p))] [] M
  refine fm_iload_n (pq := 1) hX d_R_stateOf_0 rfl rfl rfl ?_
  refine fm_iload_n (pq := 2) hX d_R_stateOf_1 rfl rfl rfl ?_
  refine fm_n_le (tgt := 14) (pq := 5) hX d_R_stateOf_2 rfl rfl (by omega) (by omega) (fun h2 => ?_) (fun h2 => ?_)
  · show fm_G SR Y_R_stateOf X M (fm_rv (nI (E.2.1 k p)) M) 14 [some (.inr 0), some (.inl (nI m)), some (.inl (nI k)), some (.inl (nI p))] [] M
    refine fm_iconst (pq := 15) (v := nI 2) hX d_R_stateOf_14 (by decide) rfl ?_
    refine fm_goto (tgt := 28) hX d_R_stateOf_15 rfl ?_
    refine fm_iret hX rfl d_R_stateOf_28 ?_
    first | exact fm_rvi (by rw [(hE.2.1 k p (by omega)).1]) | exact fm_rvi (rE_s hE hk hp (by omega))
  · show fm_G SR Y_R_stateOf X M (fm_rv (nI (E.2.1 k p)) M) 5 [some (.inr 0), some (.inl (nI m)), some (.inl (nI k)), some (.inl (nI p))] [] M
    refine fm_aload_n (pq := 6) hX d_R_stateOf_5 rfl rfl rfl ?_
    refine fm_getr (pq := 9) (q := 2) hX fR_13 rfl rfl d_R_stateOf_6 rfl ?_
    refine fm_iload_n (pq := 10) hX d_R_stateOf_9 rfl rfl rfl ?_
    refine fm_iald (pq := 11) (v := nI (P.1 k)) hX rfl rfl rfl (by omega) (by decide) (hP k (by omega)).1 d_R_stateOf_10 rfl ?_
    refine fm_z_ne (tgt := 18) (pq := 14) hX d_R_stateOf_11 rfl rfl (by omega) (fun h11 => ?_) (fun h11 => ?_)
    · show fm_G SR Y_R_stateOf X M (fm_rv (nI (E.2.1 k p)) M) 18 [some (.inr 0), some (.inl (nI m)), some (.inl (nI k)), some (.inl (nI p))] [] M
      refine fm_aload_n (pq := 19) hX d_R_stateOf_18 rfl rfl rfl ?_
      refine fm_getr (pq := 22) (q := 11) hX fR_40 rfl rfl d_R_stateOf_19 rfl ?_
      refine fm_iconst (pq := 23) (v := nI 2) hX d_R_stateOf_22 (by decide) rfl ?_
      refine fm_iload_n (pq := 24) hX d_R_stateOf_23 rfl rfl rfl ?_
      refine fm_imul (pq := 25) (v := nI (2 * k)) hX d_R_stateOf_24 (pk_mul _ _) rfl ?_
      refine fm_iload_n (pq := 26) hX d_R_stateOf_25 rfl rfl rfl ?_
      refine fm_iadd (pq := 27) (v := nI (2 * k + p)) hX d_R_stateOf_26 (nI_add _ _) rfl ?_
      refine fm_iald (pq := 28) (v := M 11 (2 * k + p)) hX rfl rfl rfl (by omega) (by decide) rfl d_R_stateOf_27 rfl ?_
      refine fm_iret hX rfl d_R_stateOf_28 ?_
      first | exact fm_rvi (by rw [(hE.2.1 k p (by omega)).1]) | exact fm_rvi (rE_s hE hk hp (by omega))
    · show fm_G SR Y_R_stateOf X M (fm_rv (nI (E.2.1 k p)) M) 14 [some (.inr 0), some (.inl (nI m)), some (.inl (nI k)), some (.inl (nI p))] [] M
      refine fm_iconst (pq := 15) (v := nI 2) hX d_R_stateOf_14 (by decide) rfl ?_
      refine fm_goto (tgt := 28) hX d_R_stateOf_15 rfl ?_
      refine fm_iret hX rfl d_R_stateOf_28 ?_
      first | exact fm_rvi (by rw [(hE.2.1 k p (by omega)).1]) | exact fm_rvi (rE_s hE hk hp (by omega))
abbrev Y_R_weight : fm_Y := ("EscapeMillModel", b_R_weight, 5, (some .int), 1)
set_option maxRecDepth 100000 in
set_option maxHeartbeats 4000000 in
theorem k_R_weight {m : Nat} (hm : m < 5) (M : fm_M) : fm_ct SR y_R_weight b_R_weight 5 (some .int) 1 [.inr 0, .inl (nI m)] M (fm_rv (nI (an_wt (rA M m))) M) := by
  refine fm_of (ls := [some (.inr 0), some (.inl (nI m)), none, none, none]) (by decide) wsA_good (Nat.le_of_ble_eq_true rfl) rfl (fun X hX => ?_)
  have L59 : ∀ (b : Nat), b < 27 → ∀ x0 : Nat, (∀ y, y = x0 + an_sum (fun k => an_bit ((rA M m).2.1 (k / 2) (k % 2)) b) 54 → fm_G SR Y_R_weight X M (fm_rv (nI (an_wt (rA M m))) M) 91 [some (.inr 0), some (.inl (nI m)), some (.inl (nI y)), some (.inl (nI b)), none] [] M) → ∀ k, k ≤ 54 → ∀ y, y = x0 + an_sum (fun k => an_bit ((rA M m).2.1 (k / 2) (k % 2)) b) k → fm_G SR Y_R_weight X M (fm_rv (nI (an_wt (rA M m))) M) 59 [some (.inr 0), some (.inl (nI m)), some (.inl (nI y)), some (.inl (nI b)), some (.inl (nI k))] [] M := by
    intro b hb x0 K
    refine fm_ind 54 (fun k hle ih => ?_)
    intro y hy
    refine fm_iload (pq := 61) hX d_R_weight_59 rfl rfl ?_
    refine fm_bipush (pq := 63) (v := nI 54) hX d_R_weight_61 (by decide) rfl ?_
    refine fm_n_ge (tgt := 91) (pq := 66) hX d_R_weight_63 rfl rfl (by omega) (by omega) (fun h63 => ?_) (fun h63 => ?_)
    · show fm_G SR Y_R_weight X M (fm_rv (nI (an_wt (rA M m))) M) 91 [some (.inr 0), some (.inl (nI m)), some (.inl (nI y)), some (.inl (nI b)), some (.inl (nI k))] [] M
      refine fm_drop 4 rfl ?_
      have e : k = 54 := by omega
      rw [e] at hy
      exact K y hy
    · show fm_G SR Y_R_weight X M (fm_rv (nI (an_wt (rA M m))) M) 66 [some (.inr 0), some (.inl (nI m)), some (.inl (nI y)), some (.inl (nI b)), some (.inl (nI k))] [] M
      refine fm_iload_n (pq := 67) hX d_R_weight_66 rfl rfl rfl ?_
      refine fm_aload_n (pq := 68) hX d_R_weight_67 rfl rfl rfl ?_
      refine fm_getr (pq := 71) (q := 9) hX fR_34 rfl rfl d_R_weight_68 rfl ?_
      refine fm_bipush (pq := 73) (v := nI 54) hX d_R_weight_71 (by decide) rfl ?_
      refine fm_iload_n (pq := 74) hX d_R_weight_73 rfl rfl rfl ?_
      refine fm_imul (pq := 75) (v := nI (54 * m)) hX d_R_weight_74 (pk_mul _ _) rfl ?_
      refine fm_iload (pq := 77) hX d_R_weight_75 rfl rfl ?_
      refine fm_iadd (pq := 78) (v := nI (54 * m + k)) hX d_R_weight_77 (nI_add _ _) rfl ?_
      refine fm_iald (pq := 79) (v := (rA M m).2.1 (k / 2) (k % 2)) hX rfl rfl rfl (by omega) (by decide) (rA_hk (by omega)) d_R_weight_78 rfl ?_
      refine fm_iload_n (pq := 80) hX d_R_weight_79 rfl rfl rfl ?_
      refine fm_ishr (pq := 81) (v := ((rA M m).2.1 (k / 2) (k % 2)) >>> (nI b &&& 31)) hX d_R_weight_80 rfl rfl ?_
      refine fm_iconst (pq := 82) (v := nI 1) hX d_R_weight_81 (by decide) rfl ?_
      refine fm_iand (pq := 83) (v := bI (bt ((rA M m).2.1 (k / 2) (k % 2)) b)) hX d_R_weight_82 (fm_bit _ (by omega)) rfl ?_
      refine fm_iadd (pq := 84) (v := nI (y + an_bit ((rA M m).2.1 (k / 2) (k % 2)) b)) hX d_R_weight_83 fm_addb rfl ?_
      refine fm_istore_n (pq := 85) (ls1 := [some (.inr 0), some (.inl (nI m)), some (.inl (nI (y + an_bit ((rA M m).2.1 (k / 2) (k % 2)) b))), some (.inl (nI b)), some (.inl (nI k))]) hX d_R_weight_84 rfl (by decide) rfl rfl ?_
      refine fm_iinc (pq := 88) (v := nI (k + 1)) (ls1 := [some (.inr 0), some (.inl (nI m)), some (.inl (nI (y + an_bit ((rA M m).2.1 (k / 2) (k % 2)) b))), some (.inl (nI b)), some (.inl (nI (k + 1)))]) hX d_R_weight_85 rfl (nI_add _ _) (by decide) rfl rfl ?_
      refine fm_goto (tgt := 59) hX d_R_weight_88 rfl ?_
      exact ih (by omega) _ (by rw [hy]; simp only [an_sum]; omega)
  have L26 : ∀ (b : Nat), b < 27 → ∀ x0 : Nat, (∀ y, y = x0 + an_sum (fun k => an_bit ((rA M m).1 k) b) 4 → fm_G SR Y_R_weight X M (fm_rv (nI (an_wt (rA M m))) M) 56 [some (.inr 0), some (.inl (nI m)), some (.inl (nI y)), some (.inl (nI b)), none] [] M) → ∀ k, k ≤ 4 → ∀ y, y = x0 + an_sum (fun k => an_bit ((rA M m).1 k) b) k → fm_G SR Y_R_weight X M (fm_rv (nI (an_wt (rA M m))) M) 26 [some (.inr 0), some (.inl (nI m)), some (.inl (nI y)), some (.inl (nI b)), some (.inl (nI k))] [] M := by
    intro b hb x0 K
    refine fm_ind 4 (fun k hle ih => ?_)
    intro y hy
    refine fm_iload (pq := 28) hX d_R_weight_26 rfl rfl ?_
    refine fm_iconst (pq := 29) (v := nI 4) hX d_R_weight_28 (by decide) rfl ?_
    refine fm_n_ge (tgt := 56) (pq := 32) hX d_R_weight_29 rfl rfl (by omega) (by omega) (fun h29 => ?_) (fun h29 => ?_)
    · show fm_G SR Y_R_weight X M (fm_rv (nI (an_wt (rA M m))) M) 56 [some (.inr 0), some (.inl (nI m)), some (.inl (nI y)), some (.inl (nI b)), some (.inl (nI k))] [] M
      refine fm_drop 4 rfl ?_
      have e : k = 4 := by omega
      rw [e] at hy
      exact K y hy
    · show fm_G SR Y_R_weight X M (fm_rv (nI (an_wt (rA M m))) M) 32 [some (.inr 0), some (.inl (nI m)), some (.inl (nI y)), some (.inl (nI b)), some (.inl (nI k))] [] M
      refine fm_iload_n (pq := 33) hX d_R_weight_32 rfl rfl rfl ?_
      refine fm_aload_n (pq := 34) hX d_R_weight_33 rfl rfl rfl ?_
      refine fm_getr (pq := 37) (q := 8) hX fR_31 rfl rfl d_R_weight_34 rfl ?_
      refine fm_iconst (pq := 38) (v := nI 4) hX d_R_weight_37 (by decide) rfl ?_
      refine fm_iload_n (pq := 39) hX d_R_weight_38 rfl rfl rfl ?_
      refine fm_imul (pq := 40) (v := nI (4 * m)) hX d_R_weight_39 (pk_mul _ _) rfl ?_
      refine fm_iload (pq := 42) hX d_R_weight_40 rfl rfl ?_
      refine fm_iadd (pq := 43) (v := nI (4 * m + k)) hX d_R_weight_42 (nI_add _ _) rfl ?_
      refine fm_iald (pq := 44) (v := (rA M m).1 k) hX rfl rfl rfl (by omega) (by decide) (rA_m (by omega)).symm d_R_weight_43 rfl ?_
      refine fm_iload_n (pq := 45) hX d_R_weight_44 rfl rfl rfl ?_
      refine fm_ishr (pq := 46) (v := ((rA M m).1 k) >>> (nI b &&& 31)) hX d_R_weight_45 rfl rfl ?_
      refine fm_iconst (pq := 47) (v := nI 1) hX d_R_weight_46 (by decide) rfl ?_
      refine fm_iand (pq := 48) (v := bI (bt ((rA M m).1 k) b)) hX d_R_weight_47 (fm_bit _ (by omega)) rfl ?_
      refine fm_iadd (pq := 49) (v := nI (y + an_bit ((rA M m).1 k) b)) hX d_R_weight_48 fm_addb rfl ?_
      refine fm_istore_n (pq := 50) (ls1 := [some (.inr 0), some (.inl (nI m)), some (.inl (nI (y + an_bit ((rA M m).1 k) b))), some (.inl (nI b)), some (.inl (nI k))]) hX d_R_weight_49 rfl (by decide) rfl rfl ?_
      refine fm_iinc (pq := 53) (v := nI (k + 1)) (ls1 := [some (.inr 0), some (.inl (nI m)), some (.inl (nI (y + an_bit ((rA M m).1 k) b))), some (.inl (nI b)), some (.inl (nI (k + 1)))]) hX d_R_weight_50 rfl (nI_add _ _) (by decide) rfl rfl ?_
      refine fm_goto (tgt := 26) hX d_R_weight_53 rfl ?_
      exact ih (by omega) _ (by rw [hy]; simp only [an_sum]; omega)
  have L4 : ∀ b, b ≤ 27 → ∀ x, x = an_sum (an_wtb (rA M m)) b → fm_G SR Y_R_weight X M (fm_rv (nI (an_wt (rA M m))) M) 4 [some (.inr 0), some (.inl (nI m)), some (.inl (nI x)), some (.inl (nI b)), none] [] M := by
    refine fm_ind 27 (fun b hle ih => ?_)
    intro x hx0
    refine fm_iload_n (pq := 5) hX d_R_weight_4 rfl rfl rfl ?_
    refine fm_bipush (pq := 7) (v := nI 27) hX d_R_weight_5 (by decide) rfl ?_
    refine fm_n_ge (tgt := 97) (pq := 10) hX d_R_weight_7 rfl rfl (by omega) (by omega) (fun h7 => ?_) (fun h7 => ?_)
    · show fm_G SR Y_R_weight X M (fm_rv (nI (an_wt (rA M m))) M) 97 [some (.inr 0), some (.inl (nI m)), some (.inl (nI x)), some (.inl (nI b)), none] [] M
      refine fm_iload_n (pq := 98) hX d_R_weight_97 rfl rfl rfl ?_
      refine fm_iret hX rfl d_R_weight_98 ?_
      exact fm_rvi (by rw [hx0, show b = 27 by omega]; rfl)
    · show fm_G SR Y_R_weight X M (fm_rv (nI (an_wt (rA M m))) M) 10 [some (.inr 0), some (.inl (nI m)), some (.inl (nI x)), some (.inl (nI b)), none] [] M
      refine fm_iload_n (pq := 11) hX d_R_weight_10 rfl rfl rfl ?_
      refine fm_aload_n (pq := 12) hX d_R_weight_11 rfl rfl rfl ?_
      refine fm_getr (pq := 15) (q := 10) hX fR_37 rfl rfl d_R_weight_12 rfl ?_
      refine fm_iload_n (pq := 16) hX d_R_weight_15 rfl rfl rfl ?_
      refine fm_iald (pq := 17) (v := (rA M m).2.2) hX rfl rfl rfl (by omega) (by decide) rfl d_R_weight_16 rfl ?_
      refine fm_iload_n (pq := 18) hX d_R_weight_17 rfl rfl rfl ?_
      refine fm_ishr (pq := 19) (v := ((rA M m).2.2) >>> (nI b &&& 31)) hX d_R_weight_18 rfl rfl ?_
      refine fm_iconst (pq := 20) (v := nI 1) hX d_R_weight_19 (by decide) rfl ?_
      refine fm_iand (pq := 21) (v := bI (bt ((rA M m).2.2) b)) hX d_R_weight_20 (fm_bit _ (by omega)) rfl ?_
      refine fm_iadd (pq := 22) (v := nI (x + an_bit ((rA M m).2.2) b)) hX d_R_weight_21 fm_addb rfl ?_
      refine fm_istore_n (pq := 23) (ls1 := [some (.inr 0), some (.inl (nI m)), some (.inl (nI (x + an_bit ((rA M m).2.2) b))), some (.inl (nI b)), none]) hX d_R_weight_22 rfl (by decide) rfl rfl ?_
      refine fm_iconst (pq := 24) (v := nI 0) hX d_R_weight_23 (by decide) rfl ?_
      refine fm_istore (pq := 26) (ls1 := [some (.inr 0), some (.inl (nI m)), some (.inl (nI (x + an_bit ((rA M m).2.2) b))), some (.inl (nI b)), some (.inl (nI 0))]) hX d_R_weight_24 (by decide) rfl rfl ?_
      refine L26 b (by omega) (x + an_bit (rA M m).2.2 b) (fun y1 hy1 => ?_) 0 (by omega) _ rfl
      show fm_G SR Y_R_weight X M (fm_rv (nI (an_wt (rA M m))) M) 56 [some (.inr 0), some (.inl (nI m)), some (.inl (nI y1)), some (.inl (nI b)), none] [] M
      refine fm_iconst (pq := 57) (v := nI 0) hX d_R_weight_56 (by decide) rfl ?_
      refine fm_istore (pq := 59) (ls1 := [some (.inr 0), some (.inl (nI m)), some (.inl (nI y1)), some (.inl (nI b)), some (.inl (nI 0))]) hX d_R_weight_57 (by decide) rfl rfl ?_
      refine L59 b (by omega) y1 (fun y2 hy2 => ?_) 0 (by omega) _ rfl
      show fm_G SR Y_R_weight X M (fm_rv (nI (an_wt (rA M m))) M) 91 [some (.inr 0), some (.inl (nI m)), some (.inl (nI y2)), some (.inl (nI b)), none] [] M
      refine fm_iinc (pq := 94) (v := nI (b + 1)) (ls1 := [some (.inr 0), some (.inl (nI m)), some (.inl (nI y2)), some (.inl (nI (b + 1))), none]) hX d_R_weight_91 rfl (nI_add _ _) (by decide) rfl rfl ?_
      refine fm_goto (tgt := 4) hX d_R_weight_94 rfl ?_
      exact ih (by omega) _ (by rw [hy2, hy1, hx0]; simp only [an_sum, an_wtb]; omega)
  show fm_G SR Y_R_weight X M (fm_rv (nI (an_wt (rA M m))) M) 0 [some (.inr 0), some (.inl (nI m)), none, none, none] [] M
  refine fm_iconst (pq := 1) (v := nI 0) hX d_R_weight_0 (by decide) rfl ?_
  refine fm_istore_n (pq := 2) (ls1 := [some (.inr 0), some (.inl (nI m)), some (.inl (nI 0)), none, none]) hX d_R_weight_1 rfl (by decide) rfl rfl ?_
  refine fm_iconst (pq := 3) (v := nI 0) hX d_R_weight_2 (by decide) rfl ?_
  refine fm_istore_n (pq := 4) (ls1 := [some (.inr 0), some (.inl (nI m)), some (.inl (nI 0)), some (.inl (nI 0)), none]) hX d_R_weight_3 rfl (by decide) rfl rfl ?_
  exact L4 0 (by omega) _ rfl
abbrev Y_R_argsOf : fm_Y := ("EscapeMillModel", b_R_argsOf, 2, (some .int), 1)
set_option maxRecDepth 100000 in
set_option maxHeartbeats 4000000 in
theorem k_R_argsOf {P : pr_T} {m : Nat} (hm : m < 5) (M : fm_M) (hP : rP M P) (hw : pr_wf P) : fm_ct SR y_R_argsOf b_R_argsOf 2 (some .int) 1 [.inr 0, .inl (nI m)] M (fm_rv (an_as (P.2.1 m)) M) := by
  refine fm_of (ls := [some (.inr 0), some (.inl (nI m))]) (by decide) wsA_good (Nat.le_of_ble_eq_true rfl) rfl (fun X hX => ?_)
  obtain ⟨wl, wi, wI⟩ := hw m hm
  show fm_G SR Y_R_argsOf X M (fm_rv (an_as (P.2.1 m)) M) 0 [some (.inr 0), some (.inl (nI m))] [] M
  refine fm_aload_n (pq := 1) hX d_R_argsOf_0 rfl rfl rfl ?_
  refine fm_getr (pq := 4) (q := 1) hX fR_7 rfl rfl d_R_argsOf_1 rfl ?_
  refine fm_iload_n (pq := 5) hX d_R_argsOf_4 rfl rfl rfl ?_
  refine fm_iald (pq := 6) (v := nI (P.2.1 m)) hX rfl rfl rfl (by omega) (by decide) (hP m (by omega)).2.1 d_R_argsOf_5 rfl ?_
  refine fm_z_ne (tgt := 13) (pq := 9) hX d_R_argsOf_6 rfl rfl (by omega) (fun h6 => ?_) (fun h6 => ?_)
  · show fm_G SR Y_R_argsOf X M (fm_rv (an_as (P.2.1 m)) M) 13 [some (.inr 0), some (.inl (nI m))] [] M
    refine fm_aload_n (pq := 14) hX d_R_argsOf_13 rfl rfl rfl ?_
    refine fm_getr (pq := 17) (q := 1) hX fR_7 rfl rfl d_R_argsOf_14 rfl ?_
    refine fm_iload_n (pq := 18) hX d_R_argsOf_17 rfl rfl rfl ?_
    refine fm_iald (pq := 19) (v := nI (P.2.1 m)) hX rfl rfl rfl (by omega) (by decide) (hP m (by omega)).2.1 d_R_argsOf_18 rfl ?_
    refine fm_iconst (pq := 20) (v := nI 1) hX d_R_argsOf_19 (by decide) rfl ?_
    refine fm_n_ne (tgt := 28) (pq := 23) hX d_R_argsOf_20 rfl rfl (by omega) (by omega) (fun h20 => ?_) (fun h20 => ?_)
    · show fm_G SR Y_R_argsOf X M (fm_rv (an_as (P.2.1 m)) M) 28 [some (.inr 0), some (.inl (nI m))] [] M
      refine fm_ldc (pq := 30) (v := an_1 24 ||| an_1 25) hX d_R_argsOf_28 kR_113 rfl ?_
      refine fm_iret hX rfl d_R_argsOf_30 ?_
      refine fm_rvi ?_
      unfold an_as
      first | rw [if_neg h6, if_neg h20] | rw [if_neg h6, if_pos h20] | (rw [if_pos h6]; rfl)
    · show fm_G SR Y_R_argsOf X M (fm_rv (an_as (P.2.1 m)) M) 23 [some (.inr 0), some (.inl (nI m))] [] M
      refine fm_ldc (pq := 25) (v := an_1 24) hX d_R_argsOf_23 kR_112 rfl ?_
      refine fm_goto (tgt := 30) hX d_R_argsOf_25 rfl ?_
      refine fm_iret hX rfl d_R_argsOf_30 ?_
      refine fm_rvi ?_
      unfold an_as
      first | rw [if_neg h6, if_neg h20] | rw [if_neg h6, if_pos h20] | (rw [if_pos h6]; rfl)
  · show fm_G SR Y_R_argsOf X M (fm_rv (an_as (P.2.1 m)) M) 9 [some (.inr 0), some (.inl (nI m))] [] M
    refine fm_iconst (pq := 10) (v := nI 0) hX d_R_argsOf_9 (by decide) rfl ?_
    refine fm_goto (tgt := 30) hX d_R_argsOf_10 rfl ?_
    refine fm_iret hX rfl d_R_argsOf_30 ?_
    refine fm_rvi ?_
    unfold an_as
    first | rw [if_neg h6, if_neg h20] | rw [if_neg h6, if_pos h20] | (rw [if_pos h6]; rfl)
abbrev Y_R_isMethod : fm_Y := ("EscapeMillModel", b_R_isMethod, 1, (some .boolean), 1)
set_option maxRecDepth 100000 in
set_option maxHeartbeats 4000000 in
theorem k_R_isMethod_y {m : Nat} (hm : m < 5) (M : fm_M) : fm_ct SR y_R_isMethod b_R_isMethod 1 (some .boolean) 1 [.inl (nI m)] M (fm_rv (nI 1) M) := by
  refine fm_of (ls := [some (.inl (nI m))]) (by decide) wsA_good (Nat.le_of_ble_eq_true rfl) rfl (fun X hX => ?_)
  show fm_G SR Y_R_isMethod X M (fm_rv (nI 1) M) 0 [some (.inl (nI m))] [] M
  refine fm_iload_n (pq := 1) hX d_R_isMethod_0 rfl rfl rfl ?_
  refine fm_z_lt (tgt := 13) (pq := 4) hX d_R_isMethod_1 rfl rfl (by omega) (fun h1 => ?_) (fun h1 => ?_)
  · exact absurd h1 (by omega)
  · show fm_G SR Y_R_isMethod X M (fm_rv (nI 1) M) 4 [some (.inl (nI m))] [] M
    refine fm_iload_n (pq := 5) hX d_R_isMethod_4 rfl rfl rfl ?_
    refine fm_iconst (pq := 6) (v := nI 4) hX d_R_isMethod_5 (by decide) rfl ?_
    refine fm_n_gt (tgt := 13) (pq := 9) hX d_R_isMethod_6 rfl rfl (by omega) (by omega) (fun h6 => ?_) (fun h6 => ?_)
    · exact absurd h6 (by omega)
    · show fm_G SR Y_R_isMethod X M (fm_rv (nI 1) M) 9 [some (.inl (nI m))] [] M
      refine fm_iconst (pq := 10) (v := nI 1) hX d_R_isMethod_9 (by decide) rfl ?_
      refine fm_goto (tgt := 14) hX d_R_isMethod_10 rfl ?_
      refine fm_zret hX rfl (by decide) d_R_isMethod_14 ?_
      exact fm_rvi rfl
set_option maxRecDepth 100000 in
set_option maxHeartbeats 4000000 in
theorem k_R_isMethod_n (v : Int32) (hv : v < 0 ∨ nI 4 < v) (M : fm_M) : fm_ct SR y_R_isMethod b_R_isMethod 1 (some .boolean) 1 [.inl v] M (fm_rv (nI 0) M) := by
  refine fm_of (ls := [some (.inl v)]) (by decide) wsA_good (Nat.le_of_ble_eq_true rfl) rfl (fun X hX => ?_)
  show fm_G SR Y_R_isMethod X M (fm_rv (nI 0) M) 0 [some (.inl v)] [] M
  refine fm_iload_n (pq := 1) hX d_R_isMethod_0 rfl rfl rfl ?_
  refine fm_if_lt (tgt := 13) (pq := 4) hX d_R_isMethod_1 rfl rfl (fun h1 => ?_) (fun h1 => ?_)
  · show fm_G SR Y_R_isMethod X M (fm_rv (nI 0) M) 13 [some (.inl v)] [] M
    refine fm_iconst (pq := 14) (v := nI 0) hX d_R_isMethod_13 (by decide) rfl ?_
    refine fm_zret hX rfl (by decide) d_R_isMethod_14 ?_
    exact fm_rvi rfl
  · show fm_G SR Y_R_isMethod X M (fm_rv (nI 0) M) 4 [some (.inl v)] [] M
    refine fm_iload_n (pq := 5) hX d_R_isMethod_4 rfl rfl rfl ?_
    refine fm_iconst (pq := 6) (v := nI 4) hX d_R_isMethod_5 (by decide) rfl ?_
    refine fm_icmp_gt (tgt := 13) (pq := 9) hX d_R_isMethod_6 rfl rfl (fun h6 => ?_) (fun h6 => ?_)
    · show fm_G SR Y_R_isMethod X M (fm_rv (nI 0) M) 13 [some (.inl v)] [] M
      refine fm_iconst (pq := 14) (v := nI 0) hX d_R_isMethod_13 (by decide) rfl ?_
      refine fm_zret hX rfl (by decide) d_R_isMethod_14 ?_
      exact fm_rvi rfl
    · exact absurd (hv.resolve_left h1) h6
abbrev Y_R_isInstruction : fm_Y := ("EscapeMillModel", b_R_isInstruction, 3, (some .boolean), 2)
set_option maxRecDepth 100000 in
set_option maxHeartbeats 4000000 in
theorem k_R_isInstruction {P : pr_T} {m : Nat} (hm : m < 5) (M : fm_M) (hP : rP M P) (hw : pr_wf P) (w : Int32) : fm_ct SR y_R_isInstruction b_R_isInstruction 3 (some .boolean) 2 [.inr 0, .inl (nI m), .inl w] M (fm_rv (bI (decide (0 ≤ w ∧ w < nI (P.1 m)))) M) := by
  refine fm_of (ls := [some (.inr 0), some (.inl (nI m)), some (.inl w)]) (by decide) wsA_good (Nat.le_of_ble_eq_true rfl) rfl (fun X hX => ?_)
  obtain ⟨wl, wi, wI⟩ := hw m hm
  show fm_G SR Y_R_isInstruction X M (fm_rv (bI (decide (0 ≤ w ∧ w < nI (P.1 m)))) M) 0 [some (.inr 0), some (.inl (nI m)), some (.inl w)] [] M
  refine fm_iload_n (pq := 1) hX d_R_isInstruction_0 rfl rfl rfl ?_
  refine fm_callS_i (as := [.inl (nI m)]) (st := []) (pq := 4) hX cR_81 st_R_isMethod (k_R_isMethod_y (m := m) (by omega) M) rfl rfl (Nat.le_of_ble_eq_true rfl) (Nat.le_of_ble_eq_true rfl) d_R_isInstruction_1 rfl ?_
  refine fm_z_eq (tgt := 25) (pq := 7) hX d_R_isInstruction_4 rfl rfl (by omega) (fun h4 => ?_) (fun h4 => ?_)
  · exact absurd h4 (by decide)
  · show fm_G SR Y_R_isInstruction X M (fm_rv (bI (decide (0 ≤ w ∧ w < nI (P.1 m)))) M) 7 [some (.inr 0), some (.inl (nI m)), some (.inl w)] [] M
    refine fm_iload_n (pq := 8) hX d_R_isInstruction_7 rfl rfl rfl ?_
    refine fm_if_lt (tgt := 25) (pq := 11) hX d_R_isInstruction_8 rfl rfl (fun h8 => ?_) (fun h8 => ?_)
    · show fm_G SR Y_R_isInstruction X M (fm_rv (bI (decide (0 ≤ w ∧ w < nI (P.1 m)))) M) 25 [some (.inr 0), some (.inl (nI m)), some (.inl w)] [] M
      refine fm_iconst (pq := 26) (v := nI 0) hX d_R_isInstruction_25 (by decide) rfl ?_
      refine fm_zret hX rfl (by decide) d_R_isInstruction_26 ?_
      first | exact fm_rvi (fm_b1 ⟨Int32.not_lt.mp h8, Int32.not_le.mp h18⟩) | exact fm_rvi (fm_b0 (fun z => Int32.not_le.mpr z.2 h18)) | exact fm_rvi (fm_b0 (fun z => Int32.not_lt.mpr z.1 h8))
    · show fm_G SR Y_R_isInstruction X M (fm_rv (bI (decide (0 ≤ w ∧ w < nI (P.1 m)))) M) 11 [some (.inr 0), some (.inl (nI m)), some (.inl w)] [] M
      refine fm_iload_n (pq := 12) hX d_R_isInstruction_11 rfl rfl rfl ?_
      refine fm_aload_n (pq := 13) hX d_R_isInstruction_12 rfl rfl rfl ?_
      refine fm_getr (pq := 16) (q := 2) hX fR_13 rfl rfl d_R_isInstruction_13 rfl ?_
      refine fm_iload_n (pq := 17) hX d_R_isInstruction_16 rfl rfl rfl ?_
      refine fm_iald (pq := 18) (v := nI (P.1 m)) hX rfl rfl rfl (by omega) (by decide) (hP m (by omega)).1 d_R_isInstruction_17 rfl ?_
      refine fm_icmp_ge (tgt := 25) (pq := 21) hX d_R_isInstruction_18 rfl rfl (fun h18 => ?_) (fun h18 => ?_)
      · show fm_G SR Y_R_isInstruction X M (fm_rv (bI (decide (0 ≤ w ∧ w < nI (P.1 m)))) M) 25 [some (.inr 0), some (.inl (nI m)), some (.inl w)] [] M
        refine fm_iconst (pq := 26) (v := nI 0) hX d_R_isInstruction_25 (by decide) rfl ?_
        refine fm_zret hX rfl (by decide) d_R_isInstruction_26 ?_
        first | exact fm_rvi (fm_b1 ⟨Int32.not_lt.mp h8, Int32.not_le.mp h18⟩) | exact fm_rvi (fm_b0 (fun z => Int32.not_le.mpr z.2 h18)) | exact fm_rvi (fm_b0 (fun z => Int32.not_lt.mpr z.1 h8))
      · show fm_G SR Y_R_isInstruction X M (fm_rv (bI (decide (0 ≤ w ∧ w < nI (P.1 m)))) M) 21 [some (.inr 0), some (.inl (nI m)), some (.inl w)] [] M
        refine fm_iconst (pq := 22) (v := nI 1) hX d_R_isInstruction_21 (by decide) rfl ?_
        refine fm_goto (tgt := 26) hX d_R_isInstruction_22 rfl ?_
        refine fm_zret hX rfl (by decide) d_R_isInstruction_26 ?_
        first | exact fm_rvi (fm_b1 ⟨Int32.not_lt.mp h8, Int32.not_le.mp h18⟩) | exact fm_rvi (fm_b0 (fun z => Int32.not_le.mpr z.2 h18)) | exact fm_rvi (fm_b0 (fun z => Int32.not_lt.mpr z.1 h8))
abbrev Y_R_defines : fm_Y := ("EscapeMillModel", b_R_defines, 1, (some .boolean), 1)
set_option maxRecDepth 100000 in
set_option maxHeartbeats 4000000 in
theorem k_R_defines {o : Nat} (ho : o ≤ 18) (M : fm_M) : fm_ct SR y_R_defines b_R_defines 1 (some .boolean) 1 [.inl (nI o)] M (fm_rv (bI (decide (o ≤ 3 ∨ o = 13 ∨ o = 16))) M) := by
  refine fm_of (ls := [some (.inl (nI o))]) (by decide) wsA_good (Nat.le_of_ble_eq_true rfl) rfl (fun X hX => ?_)
  show fm_G SR Y_R_defines X M (fm_rv (bI (decide (o ≤ 3 ∨ o = 13 ∨ o = 16))) M) 0 [some (.inl (nI o))] [] M
  refine fm_iload_n (pq := 1) hX d_R_defines_0 rfl rfl rfl ?_
  refine fm_z_lt (tgt := 9) (pq := 4) hX d_R_defines_1 rfl rfl (by omega) (fun h1 => ?_) (fun h1 => ?_)
  · exact absurd h1 (by omega)
  · show fm_G SR Y_R_defines X M (fm_rv (bI (decide (o ≤ 3 ∨ o = 13 ∨ o = 16))) M) 4 [some (.inl (nI o))] [] M
    refine fm_iload_n (pq := 5) hX d_R_defines_4 rfl rfl rfl ?_
    refine fm_iconst (pq := 6) (v := nI 3) hX d_R_defines_5 (by decide) rfl ?_
    refine fm_n_le (tgt := 21) (pq := 9) hX d_R_defines_6 rfl rfl (by omega) (by omega) (fun h6 => ?_) (fun h6 => ?_)
    · show fm_G SR Y_R_defines X M (fm_rv (bI (decide (o ≤ 3 ∨ o = 13 ∨ o = 16))) M) 21 [some (.inl (nI o))] [] M
      refine fm_iconst (pq := 22) (v := nI 1) hX d_R_defines_21 (by decide) rfl ?_
      refine fm_goto (tgt := 26) hX d_R_defines_22 rfl ?_
      refine fm_zret hX rfl (by decide) d_R_defines_26 ?_
      first | exact fm_rvi (fm_b1 (by omega)) | exact fm_rvi (fm_b0 (by omega))
    · show fm_G SR Y_R_defines X M (fm_rv (bI (decide (o ≤ 3 ∨ o = 13 ∨ o = 16))) M) 9 [some (.inl (nI o))] [] M
      refine fm_iload_n (pq := 10) hX d_R_defines_9 rfl rfl rfl ?_
      refine fm_bipush (pq := 12) (v := nI 13) hX d_R_defines_10 (by decide) rfl ?_
      refine fm_n_eq (tgt := 21) (pq := 15) hX d_R_defines_12 rfl rfl (by omega) (by omega) (fun h12 => ?_) (fun h12 => ?_)
      · show fm_G SR Y_R_defines X M (fm_rv (bI (decide (o ≤ 3 ∨ o = 13 ∨ o = 16))) M) 21 [some (.inl (nI o))] [] M
        refine fm_iconst (pq := 22) (v := nI 1) hX d_R_defines_21 (by decide) rfl ?_
        refine fm_goto (tgt := 26) hX d_R_defines_22 rfl ?_
        refine fm_zret hX rfl (by decide) d_R_defines_26 ?_
        first | exact fm_rvi (fm_b1 (by omega)) | exact fm_rvi (fm_b0 (by omega))
      · show fm_G SR Y_R_defines X M (fm_rv (bI (decide (o ≤ 3 ∨ o = 13 ∨ o = 16))) M) 15 [some (.inl (nI o))] [] M
        refine fm_iload_n (pq := 16) hX d_R_defines_15 rfl rfl rfl ?_
        refine fm_bipush (pq := 18) (v := nI 16) hX d_R_defines_16 (by decide) rfl ?_
        refine fm_n_ne (tgt := 25) (pq := 21) hX d_R_defines_18 rfl rfl (by omega) (by omega) (fun h18 => ?_) (fun h18 => ?_)
        · show fm_G SR Y_R_defines X M (fm_rv (bI (decide (o ≤ 3 ∨ o = 13 ∨ o = 16))) M) 25 [some (.inl (nI o))] [] M
          refine fm_iconst (pq := 26) (v := nI 0) hX d_R_defines_25 (by decide) rfl ?_
          refine fm_zret hX rfl (by decide) d_R_defines_26 ?_
          first | exact fm_rvi (fm_b1 (by omega)) | exact fm_rvi (fm_b0 (by omega))
        · show fm_G SR Y_R_defines X M (fm_rv (bI (decide (o ≤ 3 ∨ o = 13 ∨ o = 16))) M) 21 [some (.inl (nI o))] [] M
          refine fm_iconst (pq := 22) (v := nI 1) hX d_R_defines_21 (by decide) rfl ?_
          refine fm_goto (tgt := 26) hX d_R_defines_22 rfl ?_
          refine fm_zret hX rfl (by decide) d_R_defines_26 ?_
          first | exact fm_rvi (fm_b1 (by omega)) | exact fm_rvi (fm_b0 (by omega))
abbrev Y_R_worksOn : fm_Y := ("EscapeMillModel", b_R_worksOn, 8, (some .boolean), 1)
set_option maxRecDepth 100000 in
set_option maxHeartbeats 4000000 in
theorem k_R_worksOn {P : pr_T} {m : Nat} (hm : m < 5) (M : fm_M) (hP : rP M P) (hw : pr_wf P) {i : Nat} (hi : i < P.1 m) {r : Nat} (hr : r < 4) : fm_ct SR y_R_worksOn b_R_worksOn 8 (some .boolean) 1 [.inr 0, .inl (nI m), .inl (nI i), .inl (nI r)] M (fm_rv (bI (decide (fa_wk (P.2.2 m i) r))) M) := by
  refine fm_of (ls := [some (.inr 0), some (.inl (nI m)), some (.inl (nI i)), some (.inl (nI r)), none, none, none, none]) (by decide) wsA_good (Nat.le_of_ble_eq_true rfl) rfl (fun X hX => ?_)
  obtain ⟨wl, wi, wI⟩ := hw m hm
  obtain ⟨w1, w2, w3, w4, w5, w6⟩ := wI i hi
  show fm_G SR Y_R_worksOn X M (fm_rv (bI (decide (fa_wk (P.2.2 m i) r))) M) 0 [some (.inr 0), some (.inl (nI m)), some (.inl (nI i)), some (.inl (nI r)), none, none, none, none] [] M
  refine fm_bipush (pq := 2) (v := nI 24) hX d_R_worksOn_0 (by decide) rfl ?_
  refine fm_iload_n (pq := 3) hX d_R_worksOn_2 rfl rfl rfl ?_
  refine fm_imul (pq := 4) (v := nI (24 * m)) hX d_R_worksOn_3 (pk_mul _ _) rfl ?_
  refine fm_iload_n (pq := 5) hX d_R_worksOn_4 rfl rfl rfl ?_
  refine fm_iadd (pq := 6) (v := nI (24 * m + i)) hX d_R_worksOn_5 (nI_add _ _) rfl ?_
  refine fm_istore (pq := 8) (ls1 := [some (.inr 0), some (.inl (nI m)), some (.inl (nI i)), some (.inl (nI r)), some (.inl (nI (24 * m + i))), none, none, none]) hX d_R_worksOn_6 (by decide) rfl rfl ?_
  refine fm_aload_n (pq := 9) hX d_R_worksOn_8 rfl rfl rfl ?_
  refine fm_getr (pq := 12) (q := 3) hX fR_16 rfl rfl d_R_worksOn_9 rfl ?_
  refine fm_iload (pq := 14) hX d_R_worksOn_12 rfl rfl ?_
  refine fm_iald (pq := 15) (v := nI ((P.2.2 m i).1)) hX rfl rfl rfl (by omega) (by decide) ((hP m (by omega)).2.2 i (by omega)).1 d_R_worksOn_14 rfl ?_
  refine fm_istore (pq := 17) (ls1 := [some (.inr 0), some (.inl (nI m)), some (.inl (nI i)), some (.inl (nI r)), some (.inl (nI (24 * m + i))), some (.inl (nI ((P.2.2 m i).1))), none, none]) hX d_R_worksOn_15 (by decide) rfl rfl ?_
  have L41 : ∀ b : Bool, (b = true ↔ ((P.2.2 m i).1 = 3 ∨ (P.2.2 m i).1 = 5 ∨ (P.2.2 m i).1 = 9)) → fm_G SR Y_R_worksOn X M (fm_rv (bI (decide (fa_wk (P.2.2 m i) r))) M) 41 [some (.inr 0), some (.inl (nI m)), some (.inl (nI i)), some (.inl (nI r)), some (.inl (nI (24 * m + i))), some (.inl (nI ((P.2.2 m i).1))), none, none] [.inl (bI b)] M := by
    intro b41 hb41
    refine fm_istore (pq := 43) (ls1 := [some (.inr 0), some (.inl (nI m)), some (.inl (nI i)), some (.inl (nI r)), some (.inl (nI (24 * m + i))), some (.inl (nI ((P.2.2 m i).1))), some (.inl (bI b41)), none]) hX d_R_worksOn_41 (by decide) rfl rfl ?_
    have L75 : ∀ b : Bool, (b = true ↔ ((P.2.2 m i).1 = 4 ∨ (P.2.2 m i).1 = 6 ∨ (P.2.2 m i).1 = 10 ∨ (P.2.2 m i).1 = 11)) → fm_G SR Y_R_worksOn X M (fm_rv (bI (decide (fa_wk (P.2.2 m i) r))) M) 75 [some (.inr 0), some (.inl (nI m)), some (.inl (nI i)), some (.inl (nI r)), some (.inl (nI (24 * m + i))), some (.inl (nI ((P.2.2 m i).1))), some (.inl (bI b41)), none] [.inl (bI b)] M := by
      intro b75 hb75
      refine fm_istore (pq := 77) (ls1 := [some (.inr 0), some (.inl (nI m)), some (.inl (nI i)), some (.inl (nI r)), some (.inl (nI (24 * m + i))), some (.inl (nI ((P.2.2 m i).1))), some (.inl (bI b41)), some (.inl (bI b75))]) hX d_R_worksOn_75 (by decide) rfl rfl ?_
      refine fm_iload (pq := 79) hX d_R_worksOn_77 rfl rfl ?_
      refine fm_b1_eq (tgt := 93) (pq := 82) hX d_R_worksOn_79 rfl rfl (fun h79 => ?_) (fun h79 => ?_)
      · show fm_G SR Y_R_worksOn X M (fm_rv (bI (decide (fa_wk (P.2.2 m i) r))) M) 93 [some (.inr 0), some (.inl (nI m)), some (.inl (nI i)), some (.inl (nI r)), some (.inl (nI (24 * m + i))), some (.inl (nI ((P.2.2 m i).1))), some (.inl (bI b41)), some (.inl (bI b75))] [] M
        refine fm_iload (pq := 95) hX d_R_worksOn_93 rfl rfl ?_
        refine fm_b1_eq (tgt := 109) (pq := 98) hX d_R_worksOn_95 rfl rfl (fun h95 => ?_) (fun h95 => ?_)
        · show fm_G SR Y_R_worksOn X M (fm_rv (bI (decide (fa_wk (P.2.2 m i) r))) M) 109 [some (.inr 0), some (.inl (nI m)), some (.inl (nI i)), some (.inl (nI r)), some (.inl (nI (24 * m + i))), some (.inl (nI ((P.2.2 m i).1))), some (.inl (bI b41)), some (.inl (bI b75))] [] M
          refine fm_iload (pq := 111) hX d_R_worksOn_109 rfl rfl ?_
          refine fm_bipush (pq := 113) (v := nI 9) hX d_R_worksOn_111 (by decide) rfl ?_
          refine fm_n_ne (tgt := 131) (pq := 116) hX d_R_worksOn_113 rfl rfl (by omega) (by omega) (fun h113 => ?_) (fun h113 => ?_)
          · show fm_G SR Y_R_worksOn X M (fm_rv (bI (decide (fa_wk (P.2.2 m i) r))) M) 131 [some (.inr 0), some (.inl (nI m)), some (.inl (nI i)), some (.inl (nI r)), some (.inl (nI (24 * m + i))), some (.inl (nI ((P.2.2 m i).1))), some (.inl (bI b41)), some (.inl (bI b75))] [] M
            refine fm_iconst (pq := 132) (v := nI 0) hX d_R_worksOn_131 (by decide) rfl ?_
            refine fm_zret hX rfl (by decide) d_R_worksOn_132 ?_
            have q41 : b41 = false → ¬ _ := fun z y => absurd (hb41.mpr y) (by rw [z]; decide)
            have q75 : b75 = false → ¬ _ := fun z y => absurd (hb75.mpr y) (by rw [z]; decide)
            first
            | exact fm_rvi (fm_b1 (by omega))
            | exact fm_rvi (fm_b0 (by omega))
            | exact fm_rvi (fm_b0 (by have := q41 h79; omega))
            | exact fm_rvi (fm_b0 (by have := q75 h95; omega))
            | exact fm_rvi (fm_b0 (by have := q41 h79; have := q75 h95; omega))
          · show fm_G SR Y_R_worksOn X M (fm_rv (bI (decide (fa_wk (P.2.2 m i) r))) M) 116 [some (.inr 0), some (.inl (nI m)), some (.inl (nI i)), some (.inl (nI r)), some (.inl (nI (24 * m + i))), some (.inl (nI ((P.2.2 m i).1))), some (.inl (bI b41)), some (.inl (bI b75))] [] M
            refine fm_aload_n (pq := 117) hX d_R_worksOn_116 rfl rfl rfl ?_
            refine fm_getr (pq := 120) (q := 6) hX fR_25 rfl rfl d_R_worksOn_117 rfl ?_
            refine fm_iload (pq := 122) hX d_R_worksOn_120 rfl rfl ?_
            refine fm_iald (pq := 123) (v := nI ((P.2.2 m i).2.2.2.1)) hX rfl rfl rfl (by omega) (by decide) ((hP m (by omega)).2.2 i (by omega)).2.2.2.1 d_R_worksOn_122 rfl ?_
            refine fm_iload_n (pq := 124) hX d_R_worksOn_123 rfl rfl rfl ?_
            refine fm_n_ne (tgt := 131) (pq := 127) hX d_R_worksOn_124 rfl rfl (by omega) (by omega) (fun h124 => ?_) (fun h124 => ?_)
            · show fm_G SR Y_R_worksOn X M (fm_rv (bI (decide (fa_wk (P.2.2 m i) r))) M) 131 [some (.inr 0), some (.inl (nI m)), some (.inl (nI i)), some (.inl (nI r)), some (.inl (nI (24 * m + i))), some (.inl (nI ((P.2.2 m i).1))), some (.inl (bI b41)), some (.inl (bI b75))] [] M
              refine fm_iconst (pq := 132) (v := nI 0) hX d_R_worksOn_131 (by decide) rfl ?_
              refine fm_zret hX rfl (by decide) d_R_worksOn_132 ?_
              have q41 : b41 = false → ¬ _ := fun z y => absurd (hb41.mpr y) (by rw [z]; decide)
              have q75 : b75 = false → ¬ _ := fun z y => absurd (hb75.mpr y) (by rw [z]; decide)
              first
              | exact fm_rvi (fm_b1 (by omega))
              | exact fm_rvi (fm_b0 (by omega))
              | exact fm_rvi (fm_b0 (by have := q41 h79; omega))
              | exact fm_rvi (fm_b0 (by have := q75 h95; omega))
              | exact fm_rvi (fm_b0 (by have := q41 h79; have := q75 h95; omega))
            · show fm_G SR Y_R_worksOn X M (fm_rv (bI (decide (fa_wk (P.2.2 m i) r))) M) 127 [some (.inr 0), some (.inl (nI m)), some (.inl (nI i)), some (.inl (nI r)), some (.inl (nI (24 * m + i))), some (.inl (nI ((P.2.2 m i).1))), some (.inl (bI b41)), some (.inl (bI b75))] [] M
              refine fm_iconst (pq := 128) (v := nI 1) hX d_R_worksOn_127 (by decide) rfl ?_
              refine fm_goto (tgt := 132) hX d_R_worksOn_128 rfl ?_
              refine fm_zret hX rfl (by decide) d_R_worksOn_132 ?_
              have q41 : b41 = false → ¬ _ := fun z y => absurd (hb41.mpr y) (by rw [z]; decide)
              have q75 : b75 = false → ¬ _ := fun z y => absurd (hb75.mpr y) (by rw [z]; decide)
              first
              | exact fm_rvi (fm_b1 (by omega))
              | exact fm_rvi (fm_b0 (by omega))
              | exact fm_rvi (fm_b0 (by have := q41 h79; omega))
              | exact fm_rvi (fm_b0 (by have := q75 h95; omega))
              | exact fm_rvi (fm_b0 (by have := q41 h79; have := q75 h95; omega))
        · show fm_G SR Y_R_worksOn X M (fm_rv (bI (decide (fa_wk (P.2.2 m i) r))) M) 98 [some (.inr 0), some (.inl (nI m)), some (.inl (nI i)), some (.inl (nI r)), some (.inl (nI (24 * m + i))), some (.inl (nI ((P.2.2 m i).1))), some (.inl (bI b41)), some (.inl (bI b75))] [] M
          have p75 := hb75.mp h95
          refine fm_aload_n (pq := 99) hX d_R_worksOn_98 rfl rfl rfl ?_
          refine fm_getr (pq := 102) (q := 4) hX fR_19 rfl rfl d_R_worksOn_99 rfl ?_
          refine fm_iload (pq := 104) hX d_R_worksOn_102 rfl rfl ?_
          refine fm_iald (pq := 105) (v := nI ((P.2.2 m i).2.1)) hX rfl rfl rfl (by omega) (by decide) ((hP m (by omega)).2.2 i (by omega)).2.1 d_R_worksOn_104 rfl ?_
          refine fm_iload_n (pq := 106) hX d_R_worksOn_105 rfl rfl rfl ?_
          refine fm_n_eq (tgt := 127) (pq := 109) hX d_R_worksOn_106 rfl rfl (by omega) (by omega) (fun h106 => ?_) (fun h106 => ?_)
          · show fm_G SR Y_R_worksOn X M (fm_rv (bI (decide (fa_wk (P.2.2 m i) r))) M) 127 [some (.inr 0), some (.inl (nI m)), some (.inl (nI i)), some (.inl (nI r)), some (.inl (nI (24 * m + i))), some (.inl (nI ((P.2.2 m i).1))), some (.inl (bI b41)), some (.inl (bI b75))] [] M
            refine fm_iconst (pq := 128) (v := nI 1) hX d_R_worksOn_127 (by decide) rfl ?_
            refine fm_goto (tgt := 132) hX d_R_worksOn_128 rfl ?_
            refine fm_zret hX rfl (by decide) d_R_worksOn_132 ?_
            have q41 : b41 = false → ¬ _ := fun z y => absurd (hb41.mpr y) (by rw [z]; decide)
            have q75 : b75 = false → ¬ _ := fun z y => absurd (hb75.mpr y) (by rw [z]; decide)
            first
            | exact fm_rvi (fm_b1 (by omega))
            | exact fm_rvi (fm_b0 (by omega))
            | exact fm_rvi (fm_b0 (by have := q41 h79; omega))
            | exact fm_rvi (fm_b0 (by have := q75 h95; omega))
            | exact fm_rvi (fm_b0 (by have := q41 h79; have := q75 h95; omega))
          · show fm_G SR Y_R_worksOn X M (fm_rv (bI (decide (fa_wk (P.2.2 m i) r))) M) 109 [some (.inr 0), some (.inl (nI m)), some (.inl (nI i)), some (.inl (nI r)), some (.inl (nI (24 * m + i))), some (.inl (nI ((P.2.2 m i).1))), some (.inl (bI b41)), some (.inl (bI b75))] [] M
            refine fm_iload (pq := 111) hX d_R_worksOn_109 rfl rfl ?_
            refine fm_bipush (pq := 113) (v := nI 9) hX d_R_worksOn_111 (by decide) rfl ?_
            refine fm_n_ne (tgt := 131) (pq := 116) hX d_R_worksOn_113 rfl rfl (by omega) (by omega) (fun h113 => ?_) (fun h113 => ?_)
            · show fm_G SR Y_R_worksOn X M (fm_rv (bI (decide (fa_wk (P.2.2 m i) r))) M) 131 [some (.inr 0), some (.inl (nI m)), some (.inl (nI i)), some (.inl (nI r)), some (.inl (nI (24 * m + i))), some (.inl (nI ((P.2.2 m i).1))), some (.inl (bI b41)), some (.inl (bI b75))] [] M
              refine fm_iconst (pq := 132) (v := nI 0) hX d_R_worksOn_131 (by decide) rfl ?_
              refine fm_zret hX rfl (by decide) d_R_worksOn_132 ?_
              have q41 : b41 = false → ¬ _ := fun z y => absurd (hb41.mpr y) (by rw [z]; decide)
              have q75 : b75 = false → ¬ _ := fun z y => absurd (hb75.mpr y) (by rw [z]; decide)
              first
              | exact fm_rvi (fm_b1 (by omega))
              | exact fm_rvi (fm_b0 (by omega))
              | exact fm_rvi (fm_b0 (by have := q41 h79; omega))
              | exact fm_rvi (fm_b0 (by have := q75 h95; omega))
              | exact fm_rvi (fm_b0 (by have := q41 h79; have := q75 h95; omega))
            · show fm_G SR Y_R_worksOn X M (fm_rv (bI (decide (fa_wk (P.2.2 m i) r))) M) 116 [some (.inr 0), some (.inl (nI m)), some (.inl (nI i)), some (.inl (nI r)), some (.inl (nI (24 * m + i))), some (.inl (nI ((P.2.2 m i).1))), some (.inl (bI b41)), some (.inl (bI b75))] [] M
              refine fm_aload_n (pq := 117) hX d_R_worksOn_116 rfl rfl rfl ?_
              refine fm_getr (pq := 120) (q := 6) hX fR_25 rfl rfl d_R_worksOn_117 rfl ?_
              refine fm_iload (pq := 122) hX d_R_worksOn_120 rfl rfl ?_
              refine fm_iald (pq := 123) (v := nI ((P.2.2 m i).2.2.2.1)) hX rfl rfl rfl (by omega) (by decide) ((hP m (by omega)).2.2 i (by omega)).2.2.2.1 d_R_worksOn_122 rfl ?_
              refine fm_iload_n (pq := 124) hX d_R_worksOn_123 rfl rfl rfl ?_
              refine fm_n_ne (tgt := 131) (pq := 127) hX d_R_worksOn_124 rfl rfl (by omega) (by omega) (fun h124 => ?_) (fun h124 => ?_)
              · show fm_G SR Y_R_worksOn X M (fm_rv (bI (decide (fa_wk (P.2.2 m i) r))) M) 131 [some (.inr 0), some (.inl (nI m)), some (.inl (nI i)), some (.inl (nI r)), some (.inl (nI (24 * m + i))), some (.inl (nI ((P.2.2 m i).1))), some (.inl (bI b41)), some (.inl (bI b75))] [] M
                refine fm_iconst (pq := 132) (v := nI 0) hX d_R_worksOn_131 (by decide) rfl ?_
                refine fm_zret hX rfl (by decide) d_R_worksOn_132 ?_
                have q41 : b41 = false → ¬ _ := fun z y => absurd (hb41.mpr y) (by rw [z]; decide)
                have q75 : b75 = false → ¬ _ := fun z y => absurd (hb75.mpr y) (by rw [z]; decide)
                first
                | exact fm_rvi (fm_b1 (by omega))
                | exact fm_rvi (fm_b0 (by omega))
                | exact fm_rvi (fm_b0 (by have := q41 h79; omega))
                | exact fm_rvi (fm_b0 (by have := q75 h95; omega))
                | exact fm_rvi (fm_b0 (by have := q41 h79; have := q75 h95; omega))
              · show fm_G SR Y_R_worksOn X M (fm_rv (bI (decide (fa_wk (P.2.2 m i) r))) M) 127 [some (.inr 0), some (.inl (nI m)), some (.inl (nI i)), some (.inl (nI r)), some (.inl (nI (24 * m + i))), some (.inl (nI ((P.2.2 m i).1))), some (.inl (bI b41)), some (.inl (bI b75))] [] M
                refine fm_iconst (pq := 128) (v := nI 1) hX d_R_worksOn_127 (by decide) rfl ?_
                refine fm_goto (tgt := 132) hX d_R_worksOn_128 rfl ?_
                refine fm_zret hX rfl (by decide) d_R_worksOn_132 ?_
                have q41 : b41 = false → ¬ _ := fun z y => absurd (hb41.mpr y) (by rw [z]; decide)
                have q75 : b75 = false → ¬ _ := fun z y => absurd (hb75.mpr y) (by rw [z]; decide)
                first
                | exact fm_rvi (fm_b1 (by omega))
                | exact fm_rvi (fm_b0 (by omega))
                | exact fm_rvi (fm_b0 (by have := q41 h79; omega))
                | exact fm_rvi (fm_b0 (by have := q75 h95; omega))
                | exact fm_rvi (fm_b0 (by have := q41 h79; have := q75 h95; omega))
      · show fm_G SR Y_R_worksOn X M (fm_rv (bI (decide (fa_wk (P.2.2 m i) r))) M) 82 [some (.inr 0), some (.inl (nI m)), some (.inl (nI i)), some (.inl (nI r)), some (.inl (nI (24 * m + i))), some (.inl (nI ((P.2.2 m i).1))), some (.inl (bI b41)), some (.inl (bI b75))] [] M
        have p41 := hb41.mp h79
        refine fm_aload_n (pq := 83) hX d_R_worksOn_82 rfl rfl rfl ?_
        refine fm_getr (pq := 86) (q := 5) hX fR_22 rfl rfl d_R_worksOn_83 rfl ?_
        refine fm_iload (pq := 88) hX d_R_worksOn_86 rfl rfl ?_
        refine fm_iald (pq := 89) (v := nI ((P.2.2 m i).2.2.1)) hX rfl rfl rfl (by omega) (by decide) ((hP m (by omega)).2.2 i (by omega)).2.2.1 d_R_worksOn_88 rfl ?_
        refine fm_iload_n (pq := 90) hX d_R_worksOn_89 rfl rfl rfl ?_
        refine fm_n_eq (tgt := 127) (pq := 93) hX d_R_worksOn_90 rfl rfl (by omega) (by omega) (fun h90 => ?_) (fun h90 => ?_)
        · show fm_G SR Y_R_worksOn X M (fm_rv (bI (decide (fa_wk (P.2.2 m i) r))) M) 127 [some (.inr 0), some (.inl (nI m)), some (.inl (nI i)), some (.inl (nI r)), some (.inl (nI (24 * m + i))), some (.inl (nI ((P.2.2 m i).1))), some (.inl (bI b41)), some (.inl (bI b75))] [] M
          refine fm_iconst (pq := 128) (v := nI 1) hX d_R_worksOn_127 (by decide) rfl ?_
          refine fm_goto (tgt := 132) hX d_R_worksOn_128 rfl ?_
          refine fm_zret hX rfl (by decide) d_R_worksOn_132 ?_
          have q41 : b41 = false → ¬ _ := fun z y => absurd (hb41.mpr y) (by rw [z]; decide)
          have q75 : b75 = false → ¬ _ := fun z y => absurd (hb75.mpr y) (by rw [z]; decide)
          first
          | exact fm_rvi (fm_b1 (by omega))
          | exact fm_rvi (fm_b0 (by omega))
          | exact fm_rvi (fm_b0 (by have := q41 h79; omega))
          | exact fm_rvi (fm_b0 (by have := q75 h95; omega))
          | exact fm_rvi (fm_b0 (by have := q41 h79; have := q75 h95; omega))
        · show fm_G SR Y_R_worksOn X M (fm_rv (bI (decide (fa_wk (P.2.2 m i) r))) M) 93 [some (.inr 0), some (.inl (nI m)), some (.inl (nI i)), some (.inl (nI r)), some (.inl (nI (24 * m + i))), some (.inl (nI ((P.2.2 m i).1))), some (.inl (bI b41)), some (.inl (bI b75))] [] M
          refine fm_iload (pq := 95) hX d_R_worksOn_93 rfl rfl ?_
          refine fm_b1_eq (tgt := 109) (pq := 98) hX d_R_worksOn_95 rfl rfl (fun h95 => ?_) (fun h95 => ?_)
          · show fm_G SR Y_R_worksOn X M (fm_rv (bI (decide (fa_wk (P.2.2 m i) r))) M) 109 [some (.inr 0), some (.inl (nI m)), some (.inl (nI i)), some (.inl (nI r)), some (.inl (nI (24 * m + i))), some (.inl (nI ((P.2.2 m i).1))), some (.inl (bI b41)), some (.inl (bI b75))] [] M
            refine fm_iload (pq := 111) hX d_R_worksOn_109 rfl rfl ?_
            refine fm_bipush (pq := 113) (v := nI 9) hX d_R_worksOn_111 (by decide) rfl ?_
            refine fm_n_ne (tgt := 131) (pq := 116) hX d_R_worksOn_113 rfl rfl (by omega) (by omega) (fun h113 => ?_) (fun h113 => ?_)
            · show fm_G SR Y_R_worksOn X M (fm_rv (bI (decide (fa_wk (P.2.2 m i) r))) M) 131 [some (.inr 0), some (.inl (nI m)), some (.inl (nI i)), some (.inl (nI r)), some (.inl (nI (24 * m + i))), some (.inl (nI ((P.2.2 m i).1))), some (.inl (bI b41)), some (.inl (bI b75))] [] M
              refine fm_iconst (pq := 132) (v := nI 0) hX d_R_worksOn_131 (by decide) rfl ?_
              refine fm_zret hX rfl (by decide) d_R_worksOn_132 ?_
              have q41 : b41 = false → ¬ _ := fun z y => absurd (hb41.mpr y) (by rw [z]; decide)
              have q75 : b75 = false → ¬ _ := fun z y => absurd (hb75.mpr y) (by rw [z]; decide)
              first
              | exact fm_rvi (fm_b1 (by omega))
              | exact fm_rvi (fm_b0 (by omega))
              | exact fm_rvi (fm_b0 (by have := q41 h79; omega))
              | exact fm_rvi (fm_b0 (by have := q75 h95; omega))
              | exact fm_rvi (fm_b0 (by have := q41 h79; have := q75 h95; omega))
            · show fm_G SR Y_R_worksOn X M (fm_rv (bI (decide (fa_wk (P.2.2 m i) r))) M) 116 [some (.inr 0), some (.inl (nI m)), some (.inl (nI i)), some (.inl (nI r)), some (.inl (nI (24 * m + i))), some (.inl (nI ((P.2.2 m i).1))), some (.inl (bI b41)), some (.inl (bI b75))] [] M
              refine fm_aload_n (pq := 117) hX d_R_worksOn_116 rfl rfl rfl ?_
              refine fm_getr (pq := 120) (q := 6) hX fR_25 rfl rfl d_R_worksOn_117 rfl ?_
              refine fm_iload (pq := 122) hX d_R_worksOn_120 rfl rfl ?_
              refine fm_iald (pq := 123) (v := nI ((P.2.2 m i).2.2.2.1)) hX rfl rfl rfl (by omega) (by decide) ((hP m (by omega)).2.2 i (by omega)).2.2.2.1 d_R_worksOn_122 rfl ?_
              refine fm_iload_n (pq := 124) hX d_R_worksOn_123 rfl rfl rfl ?_
              refine fm_n_ne (tgt := 131) (pq := 127) hX d_R_worksOn_124 rfl rfl (by omega) (by omega) (fun h124 => ?_) (fun h124 => ?_)
              · show fm_G SR Y_R_worksOn X M (fm_rv (bI (decide (fa_wk (P.2.2 m i) r))) M) 131 [some (.inr 0), some (.inl (nI m)), some (.inl (nI i)), some (.inl (nI r)), some (.inl (nI (24 * m + i))), some (.inl (nI ((P.2.2 m i).1))), some (.inl (bI b41)), some (.inl (bI b75))] [] M
                refine fm_iconst (pq := 132) (v := nI 0) hX d_R_worksOn_131 (by decide) rfl ?_
                refine fm_zret hX rfl (by decide) d_R_worksOn_132 ?_
                have q41 : b41 = false → ¬ _ := fun z y => absurd (hb41.mpr y) (by rw [z]; decide)
                have q75 : b75 = false → ¬ _ := fun z y => absurd (hb75.mpr y) (by rw [z]; decide)
                first
                | exact fm_rvi (fm_b1 (by omega))
                | exact fm_rvi (fm_b0 (by omega))
                | exact fm_rvi (fm_b0 (by have := q41 h79; omega))
                | exact fm_rvi (fm_b0 (by have := q75 h95; omega))
                | exact fm_rvi (fm_b0 (by have := q41 h79; have := q75 h95; omega))
              · show fm_G SR Y_R_worksOn X M (fm_rv (bI (decide (fa_wk (P.2.2 m i) r))) M) 127 [some (.inr 0), some (.inl (nI m)), some (.inl (nI i)), some (.inl (nI r)), some (.inl (nI (24 * m + i))), some (.inl (nI ((P.2.2 m i).1))), some (.inl (bI b41)), some (.inl (bI b75))] [] M
                refine fm_iconst (pq := 128) (v := nI 1) hX d_R_worksOn_127 (by decide) rfl ?_
                refine fm_goto (tgt := 132) hX d_R_worksOn_128 rfl ?_
                refine fm_zret hX rfl (by decide) d_R_worksOn_132 ?_
                have q41 : b41 = false → ¬ _ := fun z y => absurd (hb41.mpr y) (by rw [z]; decide)
                have q75 : b75 = false → ¬ _ := fun z y => absurd (hb75.mpr y) (by rw [z]; decide)
                first
                | exact fm_rvi (fm_b1 (by omega))
                | exact fm_rvi (fm_b0 (by omega))
                | exact fm_rvi (fm_b0 (by have := q41 h79; omega))
                | exact fm_rvi (fm_b0 (by have := q75 h95; omega))
                | exact fm_rvi (fm_b0 (by have := q41 h79; have := q75 h95; omega))
          · show fm_G SR Y_R_worksOn X M (fm_rv (bI (decide (fa_wk (P.2.2 m i) r))) M) 98 [some (.inr 0), some (.inl (nI m)), some (.inl (nI i)), some (.inl (nI r)), some (.inl (nI (24 * m + i))), some (.inl (nI ((P.2.2 m i).1))), some (.inl (bI b41)), some (.inl (bI b75))] [] M
            have p75 := hb75.mp h95
            refine fm_aload_n (pq := 99) hX d_R_worksOn_98 rfl rfl rfl ?_
            refine fm_getr (pq := 102) (q := 4) hX fR_19 rfl rfl d_R_worksOn_99 rfl ?_
            refine fm_iload (pq := 104) hX d_R_worksOn_102 rfl rfl ?_
            refine fm_iald (pq := 105) (v := nI ((P.2.2 m i).2.1)) hX rfl rfl rfl (by omega) (by decide) ((hP m (by omega)).2.2 i (by omega)).2.1 d_R_worksOn_104 rfl ?_
            refine fm_iload_n (pq := 106) hX d_R_worksOn_105 rfl rfl rfl ?_
            refine fm_n_eq (tgt := 127) (pq := 109) hX d_R_worksOn_106 rfl rfl (by omega) (by omega) (fun h106 => ?_) (fun h106 => ?_)
            · show fm_G SR Y_R_worksOn X M (fm_rv (bI (decide (fa_wk (P.2.2 m i) r))) M) 127 [some (.inr 0), some (.inl (nI m)), some (.inl (nI i)), some (.inl (nI r)), some (.inl (nI (24 * m + i))), some (.inl (nI ((P.2.2 m i).1))), some (.inl (bI b41)), some (.inl (bI b75))] [] M
              refine fm_iconst (pq := 128) (v := nI 1) hX d_R_worksOn_127 (by decide) rfl ?_
              refine fm_goto (tgt := 132) hX d_R_worksOn_128 rfl ?_
              refine fm_zret hX rfl (by decide) d_R_worksOn_132 ?_
              have q41 : b41 = false → ¬ _ := fun z y => absurd (hb41.mpr y) (by rw [z]; decide)
              have q75 : b75 = false → ¬ _ := fun z y => absurd (hb75.mpr y) (by rw [z]; decide)
              first
              | exact fm_rvi (fm_b1 (by omega))
              | exact fm_rvi (fm_b0 (by omega))
              | exact fm_rvi (fm_b0 (by have := q41 h79; omega))
              | exact fm_rvi (fm_b0 (by have := q75 h95; omega))
              | exact fm_rvi (fm_b0 (by have := q41 h79; have := q75 h95; omega))
            · show fm_G SR Y_R_worksOn X M (fm_rv (bI (decide (fa_wk (P.2.2 m i) r))) M) 109 [some (.inr 0), some (.inl (nI m)), some (.inl (nI i)), some (.inl (nI r)), some (.inl (nI (24 * m + i))), some (.inl (nI ((P.2.2 m i).1))), some (.inl (bI b41)), some (.inl (bI b75))] [] M
              refine fm_iload (pq := 111) hX d_R_worksOn_109 rfl rfl ?_
              refine fm_bipush (pq := 113) (v := nI 9) hX d_R_worksOn_111 (by decide) rfl ?_
              refine fm_n_ne (tgt := 131) (pq := 116) hX d_R_worksOn_113 rfl rfl (by omega) (by omega) (fun h113 => ?_) (fun h113 => ?_)
              · show fm_G SR Y_R_worksOn X M (fm_rv (bI (decide (fa_wk (P.2.2 m i) r))) M) 131 [some (.inr 0), some (.inl (nI m)), some (.inl (nI i)), some (.inl (nI r)), some (.inl (nI (24 * m + i))), some (.inl (nI ((P.2.2 m i).1))), some (.inl (bI b41)), some (.inl (bI b75))] [] M
                refine fm_iconst (pq := 132) (v := nI 0) hX d_R_worksOn_131 (by decide) rfl ?_
                refine fm_zret hX rfl (by decide) d_R_worksOn_132 ?_
                have q41 : b41 = false → ¬ _ := fun z y => absurd (hb41.mpr y) (by rw [z]; decide)
                have q75 : b75 = false → ¬ _ := fun z y => absurd (hb75.mpr y) (by rw [z]; decide)
                first
                | exact fm_rvi (fm_b1 (by omega))
                | exact fm_rvi (fm_b0 (by omega))
                | exact fm_rvi (fm_b0 (by have := q41 h79; omega))
                | exact fm_rvi (fm_b0 (by have := q75 h95; omega))
                | exact fm_rvi (fm_b0 (by have := q41 h79; have := q75 h95; omega))
              · show fm_G SR Y_R_worksOn X M (fm_rv (bI (decide (fa_wk (P.2.2 m i) r))) M) 116 [some (.inr 0), some (.inl (nI m)), some (.inl (nI i)), some (.inl (nI r)), some (.inl (nI (24 * m + i))), some (.inl (nI ((P.2.2 m i).1))), some (.inl (bI b41)), some (.inl (bI b75))] [] M
                refine fm_aload_n (pq := 117) hX d_R_worksOn_116 rfl rfl rfl ?_
                refine fm_getr (pq := 120) (q := 6) hX fR_25 rfl rfl d_R_worksOn_117 rfl ?_
                refine fm_iload (pq := 122) hX d_R_worksOn_120 rfl rfl ?_
                refine fm_iald (pq := 123) (v := nI ((P.2.2 m i).2.2.2.1)) hX rfl rfl rfl (by omega) (by decide) ((hP m (by omega)).2.2 i (by omega)).2.2.2.1 d_R_worksOn_122 rfl ?_
                refine fm_iload_n (pq := 124) hX d_R_worksOn_123 rfl rfl rfl ?_
                refine fm_n_ne (tgt := 131) (pq := 127) hX d_R_worksOn_124 rfl rfl (by omega) (by omega) (fun h124 => ?_) (fun h124 => ?_)
                · show fm_G SR Y_R_worksOn X M (fm_rv (bI (decide (fa_wk (P.2.2 m i) r))) M) 131 [some (.inr 0), some (.inl (nI m)), some (.inl (nI i)), some (.inl (nI r)), some (.inl (nI (24 * m + i))), some (.inl (nI ((P.2.2 m i).1))), some (.inl (bI b41)), some (.inl (bI b75))] [] M
                  refine fm_iconst (pq := 132) (v := nI 0) hX d_R_worksOn_131 (by decide) rfl ?_
                  refine fm_zret hX rfl (by decide) d_R_worksOn_132 ?_
                  have q41 : b41 = false → ¬ _ := fun z y => absurd (hb41.mpr y) (by rw [z]; decide)
                  have q75 : b75 = false → ¬ _ := fun z y => absurd (hb75.mpr y) (by rw [z]; decide)
                  first
                  | exact fm_rvi (fm_b1 (by omega))
                  | exact fm_rvi (fm_b0 (by omega))
                  | exact fm_rvi (fm_b0 (by have := q41 h79; omega))
                  | exact fm_rvi (fm_b0 (by have := q75 h95; omega))
                  | exact fm_rvi (fm_b0 (by have := q41 h79; have := q75 h95; omega))
                · show fm_G SR Y_R_worksOn X M (fm_rv (bI (decide (fa_wk (P.2.2 m i) r))) M) 127 [some (.inr 0), some (.inl (nI m)), some (.inl (nI i)), some (.inl (nI r)), some (.inl (nI (24 * m + i))), some (.inl (nI ((P.2.2 m i).1))), some (.inl (bI b41)), some (.inl (bI b75))] [] M
                  refine fm_iconst (pq := 128) (v := nI 1) hX d_R_worksOn_127 (by decide) rfl ?_
                  refine fm_goto (tgt := 132) hX d_R_worksOn_128 rfl ?_
                  refine fm_zret hX rfl (by decide) d_R_worksOn_132 ?_
                  have q41 : b41 = false → ¬ _ := fun z y => absurd (hb41.mpr y) (by rw [z]; decide)
                  have q75 : b75 = false → ¬ _ := fun z y => absurd (hb75.mpr y) (by rw [z]; decide)
                  first
                  | exact fm_rvi (fm_b1 (by omega))
                  | exact fm_rvi (fm_b0 (by omega))
                  | exact fm_rvi (fm_b0 (by have := q41 h79; omega))
                  | exact fm_rvi (fm_b0 (by have := q75 h95; omega))
                  | exact fm_rvi (fm_b0 (by have := q41 h79; have := q75 h95; omega))
    refine fm_iload (pq := 45) hX d_R_worksOn_43 rfl rfl ?_
    refine fm_iconst (pq := 46) (v := nI 4) hX d_R_worksOn_45 (by decide) rfl ?_
    refine fm_n_eq (tgt := 70) (pq := 49) hX d_R_worksOn_46 rfl rfl (by omega) (by omega) (fun h46 => ?_) (fun h46 => ?_)
    · show fm_G SR Y_R_worksOn X M (fm_rv (bI (decide (fa_wk (P.2.2 m i) r))) M) 70 [some (.inr 0), some (.inl (nI m)), some (.inl (nI i)), some (.inl (nI r)), some (.inl (nI (24 * m + i))), some (.inl (nI ((P.2.2 m i).1))), some (.inl (bI b41)), none] [] M
      refine fm_iconst (pq := 71) (v := nI 1) hX d_R_worksOn_70 (by decide) rfl ?_
      refine fm_goto (tgt := 75) hX d_R_worksOn_71 rfl ?_
      first | exact L75 true ⟨fun _ => by omega, fun _ => rfl⟩ | exact L75 false ⟨fun z => absurd z (by decide), fun z => absurd z (by omega)⟩
    · show fm_G SR Y_R_worksOn X M (fm_rv (bI (decide (fa_wk (P.2.2 m i) r))) M) 49 [some (.inr 0), some (.inl (nI m)), some (.inl (nI i)), some (.inl (nI r)), some (.inl (nI (24 * m + i))), some (.inl (nI ((P.2.2 m i).1))), some (.inl (bI b41)), none] [] M
      refine fm_iload (pq := 51) hX d_R_worksOn_49 rfl rfl ?_
      refine fm_bipush (pq := 53) (v := nI 6) hX d_R_worksOn_51 (by decide) rfl ?_
      refine fm_n_eq (tgt := 70) (pq := 56) hX d_R_worksOn_53 rfl rfl (by omega) (by omega) (fun h53 => ?_) (fun h53 => ?_)
      · show fm_G SR Y_R_worksOn X M (fm_rv (bI (decide (fa_wk (P.2.2 m i) r))) M) 70 [some (.inr 0), some (.inl (nI m)), some (.inl (nI i)), some (.inl (nI r)), some (.inl (nI (24 * m + i))), some (.inl (nI ((P.2.2 m i).1))), some (.inl (bI b41)), none] [] M
        refine fm_iconst (pq := 71) (v := nI 1) hX d_R_worksOn_70 (by decide) rfl ?_
        refine fm_goto (tgt := 75) hX d_R_worksOn_71 rfl ?_
        first | exact L75 true ⟨fun _ => by omega, fun _ => rfl⟩ | exact L75 false ⟨fun z => absurd z (by decide), fun z => absurd z (by omega)⟩
      · show fm_G SR Y_R_worksOn X M (fm_rv (bI (decide (fa_wk (P.2.2 m i) r))) M) 56 [some (.inr 0), some (.inl (nI m)), some (.inl (nI i)), some (.inl (nI r)), some (.inl (nI (24 * m + i))), some (.inl (nI ((P.2.2 m i).1))), some (.inl (bI b41)), none] [] M
        refine fm_iload (pq := 58) hX d_R_worksOn_56 rfl rfl ?_
        refine fm_bipush (pq := 60) (v := nI 10) hX d_R_worksOn_58 (by decide) rfl ?_
        refine fm_n_eq (tgt := 70) (pq := 63) hX d_R_worksOn_60 rfl rfl (by omega) (by omega) (fun h60 => ?_) (fun h60 => ?_)
        · show fm_G SR Y_R_worksOn X M (fm_rv (bI (decide (fa_wk (P.2.2 m i) r))) M) 70 [some (.inr 0), some (.inl (nI m)), some (.inl (nI i)), some (.inl (nI r)), some (.inl (nI (24 * m + i))), some (.inl (nI ((P.2.2 m i).1))), some (.inl (bI b41)), none] [] M
          refine fm_iconst (pq := 71) (v := nI 1) hX d_R_worksOn_70 (by decide) rfl ?_
          refine fm_goto (tgt := 75) hX d_R_worksOn_71 rfl ?_
          first | exact L75 true ⟨fun _ => by omega, fun _ => rfl⟩ | exact L75 false ⟨fun z => absurd z (by decide), fun z => absurd z (by omega)⟩
        · show fm_G SR Y_R_worksOn X M (fm_rv (bI (decide (fa_wk (P.2.2 m i) r))) M) 63 [some (.inr 0), some (.inl (nI m)), some (.inl (nI i)), some (.inl (nI r)), some (.inl (nI (24 * m + i))), some (.inl (nI ((P.2.2 m i).1))), some (.inl (bI b41)), none] [] M
          refine fm_iload (pq := 65) hX d_R_worksOn_63 rfl rfl ?_
          refine fm_bipush (pq := 67) (v := nI 11) hX d_R_worksOn_65 (by decide) rfl ?_
          refine fm_n_ne (tgt := 74) (pq := 70) hX d_R_worksOn_67 rfl rfl (by omega) (by omega) (fun h67 => ?_) (fun h67 => ?_)
          · show fm_G SR Y_R_worksOn X M (fm_rv (bI (decide (fa_wk (P.2.2 m i) r))) M) 74 [some (.inr 0), some (.inl (nI m)), some (.inl (nI i)), some (.inl (nI r)), some (.inl (nI (24 * m + i))), some (.inl (nI ((P.2.2 m i).1))), some (.inl (bI b41)), none] [] M
            refine fm_iconst (pq := 75) (v := nI 0) hX d_R_worksOn_74 (by decide) rfl ?_
            first | exact L75 true ⟨fun _ => by omega, fun _ => rfl⟩ | exact L75 false ⟨fun z => absurd z (by decide), fun z => absurd z (by omega)⟩
          · show fm_G SR Y_R_worksOn X M (fm_rv (bI (decide (fa_wk (P.2.2 m i) r))) M) 70 [some (.inr 0), some (.inl (nI m)), some (.inl (nI i)), some (.inl (nI r)), some (.inl (nI (24 * m + i))), some (.inl (nI ((P.2.2 m i).1))), some (.inl (bI b41)), none] [] M
            refine fm_iconst (pq := 71) (v := nI 1) hX d_R_worksOn_70 (by decide) rfl ?_
            refine fm_goto (tgt := 75) hX d_R_worksOn_71 rfl ?_
            first | exact L75 true ⟨fun _ => by omega, fun _ => rfl⟩ | exact L75 false ⟨fun z => absurd z (by decide), fun z => absurd z (by omega)⟩
  refine fm_iload (pq := 19) hX d_R_worksOn_17 rfl rfl ?_
  refine fm_iconst (pq := 20) (v := nI 3) hX d_R_worksOn_19 (by decide) rfl ?_
  refine fm_n_eq (tgt := 36) (pq := 23) hX d_R_worksOn_20 rfl rfl (by omega) (by omega) (fun h20 => ?_) (fun h20 => ?_)
  · show fm_G SR Y_R_worksOn X M (fm_rv (bI (decide (fa_wk (P.2.2 m i) r))) M) 36 [some (.inr 0), some (.inl (nI m)), some (.inl (nI i)), some (.inl (nI r)), some (.inl (nI (24 * m + i))), some (.inl (nI ((P.2.2 m i).1))), none, none] [] M
    refine fm_iconst (pq := 37) (v := nI 1) hX d_R_worksOn_36 (by decide) rfl ?_
    refine fm_goto (tgt := 41) hX d_R_worksOn_37 rfl ?_
    first | exact L41 true ⟨fun _ => by omega, fun _ => rfl⟩ | exact L41 false ⟨fun z => absurd z (by decide), fun z => absurd z (by omega)⟩
  · show fm_G SR Y_R_worksOn X M (fm_rv (bI (decide (fa_wk (P.2.2 m i) r))) M) 23 [some (.inr 0), some (.inl (nI m)), some (.inl (nI i)), some (.inl (nI r)), some (.inl (nI (24 * m + i))), some (.inl (nI ((P.2.2 m i).1))), none, none] [] M
    refine fm_iload (pq := 25) hX d_R_worksOn_23 rfl rfl ?_
    refine fm_iconst (pq := 26) (v := nI 5) hX d_R_worksOn_25 (by decide) rfl ?_
    refine fm_n_eq (tgt := 36) (pq := 29) hX d_R_worksOn_26 rfl rfl (by omega) (by omega) (fun h26 => ?_) (fun h26 => ?_)
    · show fm_G SR Y_R_worksOn X M (fm_rv (bI (decide (fa_wk (P.2.2 m i) r))) M) 36 [some (.inr 0), some (.inl (nI m)), some (.inl (nI i)), some (.inl (nI r)), some (.inl (nI (24 * m + i))), some (.inl (nI ((P.2.2 m i).1))), none, none] [] M
      refine fm_iconst (pq := 37) (v := nI 1) hX d_R_worksOn_36 (by decide) rfl ?_
      refine fm_goto (tgt := 41) hX d_R_worksOn_37 rfl ?_
      first | exact L41 true ⟨fun _ => by omega, fun _ => rfl⟩ | exact L41 false ⟨fun z => absurd z (by decide), fun z => absurd z (by omega)⟩
    · show fm_G SR Y_R_worksOn X M (fm_rv (bI (decide (fa_wk (P.2.2 m i) r))) M) 29 [some (.inr 0), some (.inl (nI m)), some (.inl (nI i)), some (.inl (nI r)), some (.inl (nI (24 * m + i))), some (.inl (nI ((P.2.2 m i).1))), none, none] [] M
      refine fm_iload (pq := 31) hX d_R_worksOn_29 rfl rfl ?_
      refine fm_bipush (pq := 33) (v := nI 9) hX d_R_worksOn_31 (by decide) rfl ?_
      refine fm_n_ne (tgt := 40) (pq := 36) hX d_R_worksOn_33 rfl rfl (by omega) (by omega) (fun h33 => ?_) (fun h33 => ?_)
      · show fm_G SR Y_R_worksOn X M (fm_rv (bI (decide (fa_wk (P.2.2 m i) r))) M) 40 [some (.inr 0), some (.inl (nI m)), some (.inl (nI i)), some (.inl (nI r)), some (.inl (nI (24 * m + i))), some (.inl (nI ((P.2.2 m i).1))), none, none] [] M
        refine fm_iconst (pq := 41) (v := nI 0) hX d_R_worksOn_40 (by decide) rfl ?_
        first | exact L41 true ⟨fun _ => by omega, fun _ => rfl⟩ | exact L41 false ⟨fun z => absurd z (by decide), fun z => absurd z (by omega)⟩
      · show fm_G SR Y_R_worksOn X M (fm_rv (bI (decide (fa_wk (P.2.2 m i) r))) M) 36 [some (.inr 0), some (.inl (nI m)), some (.inl (nI i)), some (.inl (nI r)), some (.inl (nI (24 * m + i))), some (.inl (nI ((P.2.2 m i).1))), none, none] [] M
        refine fm_iconst (pq := 37) (v := nI 1) hX d_R_worksOn_36 (by decide) rfl ?_
        refine fm_goto (tgt := 41) hX d_R_worksOn_37 rfl ?_
        first | exact L41 true ⟨fun _ => by omega, fun _ => rfl⟩ | exact L41 false ⟨fun z => absurd z (by decide), fun z => absurd z (by omega)⟩
