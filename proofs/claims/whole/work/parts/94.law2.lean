/-! THE LAW: its turn, its loop, its start -/
theorem and15 (x : Int32) : ∃ k, k < 16 ∧ x &&& nI 15 = nI k := by
  refine ⟨x.toBitVec.toNat &&& 15, Nat.lt_succ_of_le Nat.and_le_right, ?_⟩
  apply Int32.toBitVec_inj.mp
  apply BitVec.eq_of_toNat_eq
  have hle : x.toBitVec.toNat &&& 15 ≤ 15 := Nat.and_le_right
  have e2 : (nI (x.toBitVec.toNat &&& 15)).toBitVec.toNat = x.toBitVec.toNat &&& 15 := by
    show (Int32.ofNat _).toBitVec.toNat = _
    rw [Int32.toBitVec_ofNat', BitVec.toNat_ofNat]
    exact Nat.mod_eq_of_lt (by omega)
  rw [e2, Int32.toBitVec_and, BitVec.toNat_and]
  rfl
theorem sub7 {L i : Nat} (hL : L < 2 ^ 30) (hi : i < 2 ^ 30) : nI L - nI 7 < nI i ↔ L < i + 7 := by
  rw [Int32.lt_iff_toInt_lt, Int32.toInt_sub, nI_toInt (by omega), nI_toInt (by omega), nI_toInt (by omega), Int.bmod_def]
  split <;> omega
section LT
variable {xs : Nat → Int32} {L b : Nat} {tL : ClassId} {X : cn_X} {la : Array Slot} {cells slots i : Nat} {adC adR : Nat → Nat} {o : Nat} {f : Nat → Int64} {P : pr_T} {Mc Mr : fm_M}
set_option maxRecDepth 100000 in
set_option maxHeartbeats 4000000 in
theorem law_turn (C : ll_C xs L b tL X) (J : jI P Mc Mr) (hl : lv_has la 7 (ll_lv adC adR o b (nI i))) (hi : i + 7 ≤ L) (hL : L < 2 ^ 30) (hcc : cells + 1 ≤ (cn_R X).cells) (hss : slots + 6 ≤ (cn_R X).slots) (next : ∀ (P1 : pr_T) (Mc1 Mr1 : fm_M) (f1 : Nat → Int64) (la1 : Array Slot), jI P1 Mc1 Mr1 → lv_has la1 7 (ll_lv adC adR o b (nI (i + 7))) → cn_G X 23 la1 [] (LW adC adR (cn_tA X) o tL f1 Mc1 Mr1) (cells + 1) (slots + 6)) : cn_G X 23 la [] (LW adC adR (cn_tA X) o tL f Mc Mr) cells slots := by
  have nx : ∀ (P1 : pr_T) (Mc1 Mr1 : fm_M) (f1 : Nat → Int64) (la1 : Array Slot), jI P1 Mc1 Mr1 → lv_has la1 7 (ll_lv adC adR o b (nI i)) → cn_G X 644 la1 [] (LW adC adR (cn_tA X) o tL f1 Mc1 Mr1) (cells + 1) (slots + 6) := fun P1 Mc1 Mr1 f1 la1 J1 hl1 => by
    refine lc_iinc (k := 0) (v := nI (i + 7)) C.1.b d_L_law_644 hl1 rfl (nI_add i 7) (by decide) rfl (fun la2 hl2 => ?_)
    refine lc_goto (tgt := 23) C.1.b d_L_law_647 (by decide) ?_
    exact next P1 Mc1 Mr1 f1 la2 J1 hl2
  refine lc_iload C.1.b d_L_law_23 hl 0 rfl ?_
  refine lc_aload_n C.1.b d_L_law_25 rfl hl 4 rfl ?_
  refine ll_slen C d_L_law_26 ?_
  refine lc_bipush (v := nI 7) C.1.b d_L_law_27 (by decide) ?_
  refine lc_isub C.1.b d_L_law_29 rfl ?_
  refine lc_icmp_gt (tgt := 650) C.1.b d_L_law_30 (by decide) (fun z => absurd ((sub7 hL (by omega)).mp z) (by omega)) (fun _ => ?_)
  refine lc_aload_n C.1.b d_L_law_33 rfl hl 4 rfl ?_
  refine lc_iload C.1.b d_L_law_34 hl 0 rfl ?_
  refine ll_sld C d_L_law_36 (by omega) (by omega) rfl ?_
  refine lc_bipush (v := nI 15) C.1.b d_L_law_37 (by decide) ?_
  obtain ⟨k, hk, e⟩ := and15 (xs i)
  refine lc_iand (v := nI k) C.1.b d_L_law_39 e ?_
  rcases (by omega : k = 0 ∨ k = 1 ∨ k = 2 ∨ k = 3 ∨ k = 4 ∨ k = 5 ∨ k = 6 ∨ k = 7 ∨ k = 8 ∨ k = 9 ∨ k = 10 ∨ k = 11 ∨ k = 12 ∨ k = 13 ∨ k = 14 ∨ k = 15) with z | z | z | z | z | z | z | z | z | z | z | z | z | z | z | z <;> subst z
  · refine lc_table (off := 60) (tgt := 100) C.1.b d_L_law_40 (by decide) (by decide) (by decide) ?_
    exact law_0 C J hl hi hL hcc hss nx
  · refine lc_table (off := 135) (tgt := 175) C.1.b d_L_law_40 (by decide) (by decide) (by decide) ?_
    exact law_1 C J hl hi hL hcc hss nx
  · refine lc_table (off := 253) (tgt := 293) C.1.b d_L_law_40 (by decide) (by decide) (by decide) ?_
    exact law_2 C J hl hi hL hcc hss nx
  · refine lc_table (off := 309) (tgt := 349) C.1.b d_L_law_40 (by decide) (by decide) (by decide) ?_
    exact law_3 C J hl hi hL hcc hss nx
  · refine lc_table (off := 350) (tgt := 390) C.1.b d_L_law_40 (by decide) (by decide) (by decide) ?_
    exact law_4 C J hl hi hL hcc hss nx
  · refine lc_table (off := 406) (tgt := 446) C.1.b d_L_law_40 (by decide) (by decide) (by decide) ?_
    exact law_5 C J hl hi hL hcc hss nx
  · refine lc_table (off := 431) (tgt := 471) C.1.b d_L_law_40 (by decide) (by decide) (by decide) ?_
    exact law_6 C J hl hi hL hcc hss nx
  · refine lc_table (off := 468) (tgt := 508) C.1.b d_L_law_40 (by decide) (by decide) (by decide) ?_
    exact law_7 C J hl hi hL hcc hss nx
  · refine lc_table (off := 505) (tgt := 545) C.1.b d_L_law_40 (by decide) (by decide) (by decide) ?_
    exact law_8 C J hl hi hL hcc hss nx
  · refine lc_table (off := 542) (tgt := 582) C.1.b d_L_law_40 (by decide) (by decide) (by decide) ?_
    exact law_9 C J hl hi hL hcc hss nx
  · refine lc_table (off := 579) (tgt := 619) C.1.b d_L_law_40 (by decide) (by decide) (by decide) ?_
    exact law_10 C J hl hi hL hcc hss nx
  · refine lc_table (off := 604) (tgt := 644) C.1.b d_L_law_40 (by decide) (by decide) (by decide) ?_
    exact cn_wide (by omega) (by omega) (nx P Mc Mr f la J hl)
  · refine lc_table (off := 604) (tgt := 644) C.1.b d_L_law_40 (by decide) (by decide) (by decide) ?_
    exact cn_wide (by omega) (by omega) (nx P Mc Mr f la J hl)
  · refine lc_table (off := 604) (tgt := 644) C.1.b d_L_law_40 (by decide) (by decide) (by decide) ?_
    exact cn_wide (by omega) (by omega) (nx P Mc Mr f la J hl)
  · refine lc_table (off := 604) (tgt := 644) C.1.b d_L_law_40 (by decide) (by decide) (by decide) ?_
    exact cn_wide (by omega) (by omega) (nx P Mc Mr f la J hl)
  · refine lc_table (off := 604) (tgt := 644) C.1.b d_L_law_40 (by decide) (by decide) (by decide) ?_
    exact cn_wide (by omega) (by omega) (nx P Mc Mr f la J hl)
theorem law_loop (C : ll_C xs L b tL X) (hL : L < 2 ^ 30) (hret : ∀ (pc : Nat) (la : Array Slot) (ws : va_W) (cells slots : Nat), cells ≤ (cn_R X).cells → slots ≤ (cn_R X).slots → decode b_L_law pc = .ok (.ireturn, 1) → cn_G X pc la [.int 1] ws cells slots) :
    ∀ (d i cells slots : Nat) (P : pr_T) (Mc Mr : fm_M) (f : Nat → Int64) (la : Array Slot), i + 7 * d ≤ L → L < i + 7 * d + 7 → cells + d ≤ (cn_R X).cells → slots + 6 * d ≤ (cn_R X).slots → jI P Mc Mr → lv_has la 7 (ll_lv adC adR o b (nI i)) → cn_G X 23 la [] (LW adC adR (cn_tA X) o tL f Mc Mr) cells slots := by
  intro d
  induction d with
  | zero =>
    intro i cells slots P Mc Mr f la h1 h2 hc hs J hl
    refine lc_iload C.1.b d_L_law_23 hl 0 rfl ?_
    refine lc_aload_n C.1.b d_L_law_25 rfl hl 4 rfl ?_
    refine ll_slen C d_L_law_26 ?_
    refine lc_bipush (v := nI 7) C.1.b d_L_law_27 (by decide) ?_
    refine lc_isub C.1.b d_L_law_29 rfl ?_
    refine lc_icmp_gt (tgt := 650) C.1.b d_L_law_30 (by decide) (fun _ => ?_) (fun z => absurd ((sub7 hL (by omega)).mpr (by omega)) z)
    refine lc_iconst (v := 1) C.1.b d_L_law_650 (by decide) ?_
    exact hret _ _ _ _ _ (by omega) (by omega) d_L_law_651
  | succ d ih =>
    intro i cells slots P Mc Mr f la h1 h2 hc hs J hl
    refine law_turn C J hl (by omega) hL (by omega) (by omega) (fun P1 Mc1 Mr1 f1 la1 J1 hl1 => ?_)
    exact ih (i + 7) (cells + 1) (slots + 6) P1 Mc1 Mr1 f1 la1 (by omega) (by omega) (by omega) (by omega) J1 hl1
end LT
