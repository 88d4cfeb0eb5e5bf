/-! what is asked of the class from outside (written by program) -/
theorem op_f {o : Int32} (h3 : ¬ o = nI 3) (h4 : ¬ o = nI 4) (h5 : ¬ o = nI 5) (h6 : ¬ o = nI 6) : ¬ (nI 3 ≤ o ∧ o ≤ nI 6) := by
  rintro ⟨a, b⟩
  have h0 : ¬ o < 0 := fun q => absurd (Int32.le_trans a (Int32.le_of_lt q)) (by decide)
  obtain ⟨k, hk, e⟩ := nI_of h0
  subst e
  rw [nI_leI (by omega) hk] at a
  rw [nI_leI hk (by omega)] at b
  rw [nI_eq hk (by omega)] at h3 h4 h5 h6
  omega
theorem op_n {o : Int32} {q : Prop} (h : ¬ (nI 3 ≤ o ∧ o ≤ nI 6)) : o < nI 3 ∨ nI 6 < o ∨ q := by
  by_cases h1 : nI 3 ≤ o
  · exact Or.inr (Or.inl (Int32.not_le.mp (fun z => h ⟨h1, z⟩)))
  · exact Or.inl (Int32.not_le.mp h1)
def cp_app (M : fm_M) (P : pr_T) (m : Nat) (J : an_I) : fm_M :=
  fm_up (fm_up (fm_up (fm_up (fm_up (fm_up M (kCa m 0) (P.1 m) (nI J.1)) (kCa m 1) (P.1 m) (nI J.2.1)) (kCa m 2) (P.1 m) (nI J.2.2.1)) (kCa m 3) (P.1 m) (nI J.2.2.2.1)) (kCa m 4) (P.1 m) J.2.2.2.2) (kC m) 5 (nI (P.1 m + 1))
def cp_put (M : fm_M) (P : pr_T) (m : Nat) (J : an_I) : fm_M := cp_app (fm_up M 0 4 (nI 1)) P m J
def cp_par (M : fm_M) (m k : Nat) : fm_M := fm_up (fm_up M (kC m) 6 (nI k)) 0 4 (nI 1)
def cp_clr (M : fm_M) (m : Nat) : fm_M := fm_up (fm_up M (kC m) 5 (nI 0)) 0 4 (nI 1)
/-- what a run makes ready -/
def cK (P : pr_T) (ml : Bool) (M M1 : fm_M) : Prop := (ml = true → cT P M1 ∧ M1 0 4 = 0 ∧ cFr M M1) ∧ (ml = false → M1 = M)
def cFt (ml : Bool) (M : fm_M) : Nat → Nat → Int32 := fun m i => if ml = true then M (kPf m) i else 0
set_option maxRecDepth 100000 in
set_option maxHeartbeats 4000000 in
theorem k_E_isM (v : Int32) (M : fm_M) : fm_ct SC y_E_isMethod b_E_isMethod 1 (some .boolean) 1 [.inl v] M (fm_br (inR 5 v) M) := by
  refine fm_of (ls := [some (.inl v)]) (by decide) wsA_good (Nat.le_of_ble_eq_true rfl) rfl (fun X hX => ?_)
  show fm_G SC Y_E_isMethod X M (fm_br (inR 5 v) M) 0 [some (.inl v)] [] M
  refine fm_iload_n (pq := 1) hX d_E_isMethod_0 rfl rfl rfl ?_
  refine fm_if_lt (tgt := 13) (pq := 4) hX d_E_isMethod_1 rfl rfl (fun h1 => ?_) (fun h1 => ?_)
  · show fm_G SC Y_E_isMethod X M (fm_br (inR 5 v) M) 13 [some (.inl v)] [] M
    refine fm_iconst (pq := 14) (v := nI 0) hX d_E_isMethod_13 (by decide) rfl ?_
    refine fm_zret hX rfl (by decide) d_E_isMethod_14 ?_
    first | exact fm_br1 (inR_y (by decide) h1 (Int32.not_le.mp h6)) | exact fm_br0 (inR_n1 (by decide) (Int32.not_lt.mpr h6)) | exact fm_br0 (inR_n0 (by decide) h1)
  · show fm_G SC Y_E_isMethod X M (fm_br (inR 5 v) M) 4 [some (.inl v)] [] M
    refine fm_iload_n (pq := 5) hX d_E_isMethod_4 rfl rfl rfl ?_
    refine fm_iconst (pq := 6) (v := nI 5) hX d_E_isMethod_5 (by decide) rfl ?_
    refine fm_icmp_ge (tgt := 13) (pq := 9) hX d_E_isMethod_6 rfl rfl (fun h6 => ?_) (fun h6 => ?_)
    · show fm_G SC Y_E_isMethod X M (fm_br (inR 5 v) M) 13 [some (.inl v)] [] M
      refine fm_iconst (pq := 14) (v := nI 0) hX d_E_isMethod_13 (by decide) rfl ?_
      refine fm_zret hX rfl (by decide) d_E_isMethod_14 ?_
      first | exact fm_br1 (inR_y (by decide) h1 (Int32.not_le.mp h6)) | exact fm_br0 (inR_n1 (by decide) (Int32.not_lt.mpr h6)) | exact fm_br0 (inR_n0 (by decide) h1)
    · show fm_G SC Y_E_isMethod X M (fm_br (inR 5 v) M) 9 [some (.inl v)] [] M
      refine fm_iconst (pq := 10) (v := nI 1) hX d_E_isMethod_9 (by decide) rfl ?_
      refine fm_goto (tgt := 14) hX d_E_isMethod_10 rfl ?_
      refine fm_zret hX rfl (by decide) d_E_isMethod_14 ?_
      first | exact fm_br1 (inR_y (by decide) h1 (Int32.not_le.mp h6)) | exact fm_br0 (inR_n1 (by decide) (Int32.not_lt.mpr h6)) | exact fm_br0 (inR_n0 (by decide) h1)
abbrev Y_E_isInstruction : fm_Y := ("EscapeMill", b_E_isInstruction, 6, (some .boolean), 2)
set_option maxRecDepth 100000 in
set_option maxHeartbeats 4000000 in
theorem k_E_isInstruction (o x y z n : Int32) (M : fm_M) : fm_ct SC y_E_isInstruction b_E_isInstruction 6 (some .boolean) 2 [.inl o, .inl x, .inl y, .inl z, .inl n] M (fm_br (∃ J, okI o x y z n J) M) := by
  refine fm_of (ls := [some (.inl o), some (.inl x), some (.inl y), some (.inl z), some (.inl n), none]) (by decide) wsA_good (Nat.le_of_ble_eq_true rfl) rfl (fun X hX => ?_)
  show fm_G SC Y_E_isInstruction X M (fm_br (∃ J, okI o x y z n J) M) 0 [some (.inl o), some (.inl x), some (.inl y), some (.inl z), some (.inl n), none] [] M
  refine fm_iload_n (pq := 1) hX d_E_isInstruction_0 rfl rfl rfl ?_
  refine fm_if_lt (tgt := 31) (pq := 4) hX d_E_isInstruction_1 rfl rfl (fun h1 => ?_) (fun h1 => ?_)
  · show fm_G SC Y_E_isInstruction X M (fm_br (∃ J, okI o x y z n J) M) 31 [some (.inl o), some (.inl x), some (.inl y), some (.inl z), some (.inl n), none] [] M
    refine fm_iconst (pq := 32) (v := nI 0) hX d_E_isInstruction_31 (by decide) rfl ?_
    refine fm_zret hX rfl (by decide) d_E_isInstruction_32 ?_
    first
    | exact fm_br0 (fun ⟨J, q⟩ => inR_n0 (by decide) h1 (okI_o q))
    | exact fm_br0 (fun ⟨J, q⟩ => inR_n3 (n := 18) (by decide) h7 (okI_o q))
    | exact fm_br0 (fun ⟨J, q⟩ => h14 ((inR_iff (by decide)).mp (okI_x q)))
    | exact fm_br0 (fun ⟨J, q⟩ => h21 ((inR_iff (by decide)).mp (okI_y q)))
    | exact fm_br0 (fun ⟨J, q⟩ => h28 ((inR_iff (by decide)).mp (okI_z q)))
    | exact fm_br0 (fun ⟨J, q⟩ => okI_f q (Int32.not_lt.mpr (hb59.mp h63).1) (Int32.not_lt.mpr (hb59.mp h63).2) (nI_lt_le (i := 1) (by decide) |>.mpr (Int32.not_lt.mp h68)))
    | exact fm_br0 (fun ⟨J, q⟩ => absurd (c81.mpr (okI_c q (Decidable.not_not.mp h76))) (by rw [h84]; decide))
    | exact fm_br0 (fun ⟨J, q⟩ => absurd (c81.mpr (okI_c q h76)) (by rw [h84]; decide))
    | exact fm_br1 (okI_mk (inR_g (n := 18) (by decide) h1 h7) ((inR_iff (n := 4) (by decide)).mpr h14) ((inR_iff (n := 4) (by decide)).mpr h21) ((inR_iff (n := 4) (by decide)).mpr h28) (by
        first
        | exact op_n (fun z => absurd (hb59.mpr z) (by rw [h63]; decide))
        | exact Or.inr (Or.inr (fun z => Int32.not_le.mpr h68 (nI_lt_le (i := 1) (by decide) |>.mp z)))) (by first | exact Or.inl h76 | exact Or.inr (c81.mp h84)))
  · show fm_G SC Y_E_isInstruction X M (fm_br (∃ J, okI o x y z n J) M) 4 [some (.inl o), some (.inl x), some (.inl y), some (.inl z), some (.inl n), none] [] M
    refine fm_iload_n (pq := 5) hX d_E_isInstruction_4 rfl rfl rfl ?_
    refine fm_bipush (pq := 7) (v := nI 18) hX d_E_isInstruction_5 (by decide) rfl ?_
    refine fm_icmp_gt (tgt := 31) (pq := 10) hX d_E_isInstruction_7 rfl rfl (fun h7 => ?_) (fun h7 => ?_)
    · show fm_G SC Y_E_isInstruction X M (fm_br (∃ J, okI o x y z n J) M) 31 [some (.inl o), some (.inl x), some (.inl y), some (.inl z), some (.inl n), none] [] M
      refine fm_iconst (pq := 32) (v := nI 0) hX d_E_isInstruction_31 (by decide) rfl ?_
      refine fm_zret hX rfl (by decide) d_E_isInstruction_32 ?_
      first
      | exact fm_br0 (fun ⟨J, q⟩ => inR_n0 (by decide) h1 (okI_o q))
      | exact fm_br0 (fun ⟨J, q⟩ => inR_n3 (n := 18) (by decide) h7 (okI_o q))
      | exact fm_br0 (fun ⟨J, q⟩ => h14 ((inR_iff (by decide)).mp (okI_x q)))
      | exact fm_br0 (fun ⟨J, q⟩ => h21 ((inR_iff (by decide)).mp (okI_y q)))
      | exact fm_br0 (fun ⟨J, q⟩ => h28 ((inR_iff (by decide)).mp (okI_z q)))
      | exact fm_br0 (fun ⟨J, q⟩ => okI_f q (Int32.not_lt.mpr (hb59.mp h63).1) (Int32.not_lt.mpr (hb59.mp h63).2) (nI_lt_le (i := 1) (by decide) |>.mpr (Int32.not_lt.mp h68)))
      | exact fm_br0 (fun ⟨J, q⟩ => absurd (c81.mpr (okI_c q (Decidable.not_not.mp h76))) (by rw [h84]; decide))
      | exact fm_br0 (fun ⟨J, q⟩ => absurd (c81.mpr (okI_c q h76)) (by rw [h84]; decide))
      | exact fm_br1 (okI_mk (inR_g (n := 18) (by decide) h1 h7) ((inR_iff (n := 4) (by decide)).mpr h14) ((inR_iff (n := 4) (by decide)).mpr h21) ((inR_iff (n := 4) (by decide)).mpr h28) (by
          first
          | exact op_n (fun z => absurd (hb59.mpr z) (by rw [h63]; decide))
          | exact Or.inr (Or.inr (fun z => Int32.not_le.mpr h68 (nI_lt_le (i := 1) (by decide) |>.mp z)))) (by first | exact Or.inl h76 | exact Or.inr (c81.mp h84)))
    · show fm_G SC Y_E_isInstruction X M (fm_br (∃ J, okI o x y z n J) M) 10 [some (.inl o), some (.inl x), some (.inl y), some (.inl z), some (.inl n), none] [] M
      refine fm_iload_n (pq := 11) hX d_E_isInstruction_10 rfl rfl rfl ?_
      refine fm_callS_i (as := [.inl x]) (st := []) (pq := 14) hX cE_114 st_E_isVariable (k_E_isVariable x M) rfl rfl (Nat.le_of_ble_eq_true rfl) (Nat.le_of_ble_eq_true rfl) d_E_isInstruction_11 rfl ?_
      refine fm_p1_eq (tgt := 31) (pq := 17) hX d_E_isInstruction_14 rfl rfl (fun h14 => ?_) (fun h14 => ?_)
      · show fm_G SC Y_E_isInstruction X M (fm_br (∃ J, okI o x y z n J) M) 31 [some (.inl o), some (.inl x), some (.inl y), some (.inl z), some (.inl n), none] [] M
        refine fm_iconst (pq := 32) (v := nI 0) hX d_E_isInstruction_31 (by decide) rfl ?_
        refine fm_zret hX rfl (by decide) d_E_isInstruction_32 ?_
        first
        | exact fm_br0 (fun ⟨J, q⟩ => inR_n0 (by decide) h1 (okI_o q))
        | exact fm_br0 (fun ⟨J, q⟩ => inR_n3 (n := 18) (by decide) h7 (okI_o q))
        | exact fm_br0 (fun ⟨J, q⟩ => h14 ((inR_iff (by decide)).mp (okI_x q)))
        | exact fm_br0 (fun ⟨J, q⟩ => h21 ((inR_iff (by decide)).mp (okI_y q)))
        | exact fm_br0 (fun ⟨J, q⟩ => h28 ((inR_iff (by decide)).mp (okI_z q)))
        | exact fm_br0 (fun ⟨J, q⟩ => okI_f q (Int32.not_lt.mpr (hb59.mp h63).1) (Int32.not_lt.mpr (hb59.mp h63).2) (nI_lt_le (i := 1) (by decide) |>.mpr (Int32.not_lt.mp h68)))
        | exact fm_br0 (fun ⟨J, q⟩ => absurd (c81.mpr (okI_c q (Decidable.not_not.mp h76))) (by rw [h84]; decide))
        | exact fm_br0 (fun ⟨J, q⟩ => absurd (c81.mpr (okI_c q h76)) (by rw [h84]; decide))
        | exact fm_br1 (okI_mk (inR_g (n := 18) (by decide) h1 h7) ((inR_iff (n := 4) (by decide)).mpr h14) ((inR_iff (n := 4) (by decide)).mpr h21) ((inR_iff (n := 4) (by decide)).mpr h28) (by
            first
            | exact op_n (fun z => absurd (hb59.mpr z) (by rw [h63]; decide))
            | exact Or.inr (Or.inr (fun z => Int32.not_le.mpr h68 (nI_lt_le (i := 1) (by decide) |>.mp z)))) (by first | exact Or.inl h76 | exact Or.inr (c81.mp h84)))
      · show fm_G SC Y_E_isInstruction X M (fm_br (∃ J, okI o x y z n J) M) 17 [some (.inl o), some (.inl x), some (.inl y), some (.inl z), some (.inl n), none] [] M
        refine fm_iload_n (pq := 18) hX d_E_isInstruction_17 rfl rfl rfl ?_
        refine fm_callS_i (as := [.inl y]) (st := []) (pq := 21) hX cE_114 st_E_isVariable (k_E_isVariable y M) rfl rfl (Nat.le_of_ble_eq_true rfl) (Nat.le_of_ble_eq_true rfl) d_E_isInstruction_18 rfl ?_
        refine fm_p1_eq (tgt := 31) (pq := 24) hX d_E_isInstruction_21 rfl rfl (fun h21 => ?_) (fun h21 => ?_)
        · show fm_G SC Y_E_isInstruction X M (fm_br (∃ J, okI o x y z n J) M) 31 [some (.inl o), some (.inl x), some (.inl y), some (.inl z), some (.inl n), none] [] M
          refine fm_iconst (pq := 32) (v := nI 0) hX d_E_isInstruction_31 (by decide) rfl ?_
          refine fm_zret hX rfl (by decide) d_E_isInstruction_32 ?_
          first
          | exact fm_br0 (fun ⟨J, q⟩ => inR_n0 (by decide) h1 (okI_o q))
          | exact fm_br0 (fun ⟨J, q⟩ => inR_n3 (n := 18) (by decide) h7 (okI_o q))
          | exact fm_br0 (fun ⟨J, q⟩ => h14 ((inR_iff (by decide)).mp (okI_x q)))
          | exact fm_br0 (fun ⟨J, q⟩ => h21 ((inR_iff (by decide)).mp (okI_y q)))
          | exact fm_br0 (fun ⟨J, q⟩ => h28 ((inR_iff (by decide)).mp (okI_z q)))
          | exact fm_br0 (fun ⟨J, q⟩ => okI_f q (Int32.not_lt.mpr (hb59.mp h63).1) (Int32.not_lt.mpr (hb59.mp h63).2) (nI_lt_le (i := 1) (by decide) |>.mpr (Int32.not_lt.mp h68)))
          | exact fm_br0 (fun ⟨J, q⟩ => absurd (c81.mpr (okI_c q (Decidable.not_not.mp h76))) (by rw [h84]; decide))
          | exact fm_br0 (fun ⟨J, q⟩ => absurd (c81.mpr (okI_c q h76)) (by rw [h84]; decide))
          | exact fm_br1 (okI_mk (inR_g (n := 18) (by decide) h1 h7) ((inR_iff (n := 4) (by decide)).mpr h14) ((inR_iff (n := 4) (by decide)).mpr h21) ((inR_iff (n := 4) (by decide)).mpr h28) (by
              first
              | exact op_n (fun z => absurd (hb59.mpr z) (by rw [h63]; decide))
              | exact Or.inr (Or.inr (fun z => Int32.not_le.mpr h68 (nI_lt_le (i := 1) (by decide) |>.mp z)))) (by first | exact Or.inl h76 | exact Or.inr (c81.mp h84)))
        · show fm_G SC Y_E_isInstruction X M (fm_br (∃ J, okI o x y z n J) M) 24 [some (.inl o), some (.inl x), some (.inl y), some (.inl z), some (.inl n), none] [] M
          refine fm_iload_n (pq := 25) hX d_E_isInstruction_24 rfl rfl rfl ?_
          refine fm_callS_i (as := [.inl z]) (st := []) (pq := 28) hX cE_114 st_E_isVariable (k_E_isVariable z M) rfl rfl (Nat.le_of_ble_eq_true rfl) (Nat.le_of_ble_eq_true rfl) d_E_isInstruction_25 rfl ?_
          refine fm_p1_ne (tgt := 33) (pq := 31) hX d_E_isInstruction_28 rfl rfl (fun h28 => ?_) (fun h28 => ?_)
          · show fm_G SC Y_E_isInstruction X M (fm_br (∃ J, okI o x y z n J) M) 33 [some (.inl o), some (.inl x), some (.inl y), some (.inl z), some (.inl n), none] [] M
            have L59 : ∀ b : Bool, (b = true ↔ (nI 3 ≤ o ∧ o ≤ nI 6)) → fm_G SC Y_E_isInstruction X M (fm_br (∃ J, okI o x y z n J) M) 59 [some (.inl o), some (.inl x), some (.inl y), some (.inl z), some (.inl n), none] [.inl (bI b)] M := by
              intro b59 hb59
              refine fm_istore (pq := 61) (ls1 := [some (.inl o), some (.inl x), some (.inl y), some (.inl z), some (.inl n), some (.inl (bI b59))]) hX d_E_isInstruction_59 (by decide) rfl rfl ?_
              refine fm_iload (pq := 63) hX d_E_isInstruction_61 rfl rfl ?_
              refine fm_b1_eq (tgt := 73) (pq := 66) hX d_E_isInstruction_63 rfl rfl (fun h63 => ?_) (fun h63 => ?_)
              · show fm_G SC Y_E_isInstruction X M (fm_br (∃ J, okI o x y z n J) M) 73 [some (.inl o), some (.inl x), some (.inl y), some (.inl z), some (.inl n), some (.inl (bI b59))] [] M
                refine fm_iload_n (pq := 74) hX d_E_isInstruction_73 rfl rfl rfl ?_
                refine fm_bipush (pq := 76) (v := nI 16) hX d_E_isInstruction_74 (by decide) rfl ?_
                refine fm_icmp_ne (tgt := 87) (pq := 79) hX d_E_isInstruction_76 rfl rfl (fun h76 => ?_) (fun h76 => ?_)
                · show fm_G SC Y_E_isInstruction X M (fm_br (∃ J, okI o x y z n J) M) 87 [some (.inl o), some (.inl x), some (.inl y), some (.inl z), some (.inl n), some (.inl (bI b59))] [] M
                  refine fm_iconst (pq := 88) (v := nI 1) hX d_E_isInstruction_87 (by decide) rfl ?_
                  refine fm_goto (tgt := 92) hX d_E_isInstruction_88 rfl ?_
                  refine fm_zret hX rfl (by decide) d_E_isInstruction_92 ?_
                  first
                  | exact fm_br0 (fun ⟨J, q⟩ => inR_n0 (by decide) h1 (okI_o q))
                  | exact fm_br0 (fun ⟨J, q⟩ => inR_n3 (n := 18) (by decide) h7 (okI_o q))
                  | exact fm_br0 (fun ⟨J, q⟩ => h14 ((inR_iff (by decide)).mp (okI_x q)))
                  | exact fm_br0 (fun ⟨J, q⟩ => h21 ((inR_iff (by decide)).mp (okI_y q)))
                  | exact fm_br0 (fun ⟨J, q⟩ => h28 ((inR_iff (by decide)).mp (okI_z q)))
                  | exact fm_br0 (fun ⟨J, q⟩ => okI_f q (Int32.not_lt.mpr (hb59.mp h63).1) (Int32.not_lt.mpr (hb59.mp h63).2) (nI_lt_le (i := 1) (by decide) |>.mpr (Int32.not_lt.mp h68)))
                  | exact fm_br0 (fun ⟨J, q⟩ => absurd (c81.mpr (okI_c q (Decidable.not_not.mp h76))) (by rw [h84]; decide))
                  | exact fm_br0 (fun ⟨J, q⟩ => absurd (c81.mpr (okI_c q h76)) (by rw [h84]; decide))
                  | exact fm_br1 (okI_mk (inR_g (n := 18) (by decide) h1 h7) ((inR_iff (n := 4) (by decide)).mpr h14) ((inR_iff (n := 4) (by decide)).mpr h21) ((inR_iff (n := 4) (by decide)).mpr h28) (by
                      first
                      | exact op_n (fun z => absurd (hb59.mpr z) (by rw [h63]; decide))
                      | exact Or.inr (Or.inr (fun z => Int32.not_le.mpr h68 (nI_lt_le (i := 1) (by decide) |>.mp z)))) (by first | exact Or.inl h76 | exact Or.inr (c81.mp h84)))
                · show fm_G SC Y_E_isInstruction X M (fm_br (∃ J, okI o x y z n J) M) 79 [some (.inl o), some (.inl x), some (.inl y), some (.inl z), some (.inl n), some (.inl (bI b59))] [] M
                  refine fm_iload (pq := 81) hX d_E_isInstruction_79 rfl rfl ?_
                  refine fm_callS_b (as := [.inl n]) (st := []) (pq := 84) hX cE_41 st_E_isMethod (k_E_isM n M) rfl rfl (Nat.le_of_ble_eq_true rfl) (Nat.le_of_ble_eq_true rfl) d_E_isInstruction_81 rfl (fun b81 c81 => ?_)
                  refine fm_b1_eq (tgt := 91) (pq := 87) hX d_E_isInstruction_84 rfl rfl (fun h84 => ?_) (fun h84 => ?_)
                  · show fm_G SC Y_E_isInstruction X M (fm_br (∃ J, okI o x y z n J) M) 91 [some (.inl o), some (.inl x), some (.inl y), some (.inl z), some (.inl n), some (.inl (bI b59))] [] M
                    refine fm_iconst (pq := 92) (v := nI 0) hX d_E_isInstruction_91 (by decide) rfl ?_
                    refine fm_zret hX rfl (by decide) d_E_isInstruction_92 ?_
                    first
                    | exact fm_br0 (fun ⟨J, q⟩ => inR_n0 (by decide) h1 (okI_o q))
                    | exact fm_br0 (fun ⟨J, q⟩ => inR_n3 (n := 18) (by decide) h7 (okI_o q))
                    | exact fm_br0 (fun ⟨J, q⟩ => h14 ((inR_iff (by decide)).mp (okI_x q)))
                    | exact fm_br0 (fun ⟨J, q⟩ => h21 ((inR_iff (by decide)).mp (okI_y q)))
                    | exact fm_br0 (fun ⟨J, q⟩ => h28 ((inR_iff (by decide)).mp (okI_z q)))
                    | exact fm_br0 (fun ⟨J, q⟩ => okI_f q (Int32.not_lt.mpr (hb59.mp h63).1) (Int32.not_lt.mpr (hb59.mp h63).2) (nI_lt_le (i := 1) (by decide) |>.mpr (Int32.not_lt.mp h68)))
                    | exact fm_br0 (fun ⟨J, q⟩ => absurd (c81.mpr (okI_c q (Decidable.not_not.mp h76))) (by rw [h84]; decide))
                    | exact fm_br0 (fun ⟨J, q⟩ => absurd (c81.mpr (okI_c q h76)) (by rw [h84]; decide))
                    | exact fm_br1 (okI_mk (inR_g (n := 18) (by decide) h1 h7) ((inR_iff (n := 4) (by decide)).mpr h14) ((inR_iff (n := 4) (by decide)).mpr h21) ((inR_iff (n := 4) (by decide)).mpr h28) (by
                        first
                        | exact op_n (fun z => absurd (hb59.mpr z) (by rw [h63]; decide))
                        | exact Or.inr (Or.inr (fun z => Int32.not_le.mpr h68 (nI_lt_le (i := 1) (by decide) |>.mp z)))) (by first | exact Or.inl h76 | exact Or.inr (c81.mp h84)))
                  · show fm_G SC Y_E_isInstruction X M (fm_br (∃ J, okI o x y z n J) M) 87 [some (.inl o), some (.inl x), some (.inl y), some (.inl z), some (.inl n), some (.inl (bI b59))] [] M
                    refine fm_iconst (pq := 88) (v := nI 1) hX d_E_isInstruction_87 (by decide) rfl ?_
                    refine fm_goto (tgt := 92) hX d_E_isInstruction_88 rfl ?_
                    refine fm_zret hX rfl (by decide) d_E_isInstruction_92 ?_
                    first
                    | exact fm_br0 (fun ⟨J, q⟩ => inR_n0 (by decide) h1 (okI_o q))
                    | exact fm_br0 (fun ⟨J, q⟩ => inR_n3 (n := 18) (by decide) h7 (okI_o q))
                    | exact fm_br0 (fun ⟨J, q⟩ => h14 ((inR_iff (by decide)).mp (okI_x q)))
                    | exact fm_br0 (fun ⟨J, q⟩ => h21 ((inR_iff (by decide)).mp (okI_y q)))
                    | exact fm_br0 (fun ⟨J, q⟩ => h28 ((inR_iff (by decide)).mp (okI_z q)))
                    | exact fm_br0 (fun ⟨J, q⟩ => okI_f q (Int32.not_lt.mpr (hb59.mp h63).1) (Int32.not_lt.mpr (hb59.mp h63).2) (nI_lt_le (i := 1) (by decide) |>.mpr (Int32.not_lt.mp h68)))
                    | exact fm_br0 (fun ⟨J, q⟩ => absurd (c81.mpr (okI_c q (Decidable.not_not.mp h76))) (by rw [h84]; decide))
                    | exact fm_br0 (fun ⟨J, q⟩ => absurd (c81.mpr (okI_c q h76)) (by rw [h84]; decide))
                    | exact fm_br1 (okI_mk (inR_g (n := 18) (by decide) h1 h7) ((inR_iff (n := 4) (by decide)).mpr h14) ((inR_iff (n := 4) (by decide)).mpr h21) ((inR_iff (n := 4) (by decide)).mpr h28) (by
                        first
                        | exact op_n (fun z => absurd (hb59.mpr z) (by rw [h63]; decide))
                        | exact Or.inr (Or.inr (fun z => Int32.not_le.mpr h68 (nI_lt_le (i := 1) (by decide) |>.mp z)))) (by first | exact Or.inl h76 | exact Or.inr (c81.mp h84)))
              · show fm_G SC Y_E_isInstruction X M (fm_br (∃ J, okI o x y z n J) M) 66 [some (.inl o), some (.inl x), some (.inl y), some (.inl z), some (.inl n), some (.inl (bI b59))] [] M
                refine fm_iload_n (pq := 67) hX d_E_isInstruction_66 rfl rfl rfl ?_
                refine fm_iconst (pq := 68) (v := nI 2) hX d_E_isInstruction_67 (by decide) rfl ?_
                refine fm_icmp_lt (tgt := 73) (pq := 71) hX d_E_isInstruction_68 rfl rfl (fun h68 => ?_) (fun h68 => ?_)
                · show fm_G SC Y_E_isInstruction X M (fm_br (∃ J, okI o x y z n J) M) 73 [some (.inl o), some (.inl x), some (.inl y), some (.inl z), some (.inl n), some (.inl (bI b59))] [] M
                  refine fm_iload_n (pq := 74) hX d_E_isInstruction_73 rfl rfl rfl ?_
                  refine fm_bipush (pq := 76) (v := nI 16) hX d_E_isInstruction_74 (by decide) rfl ?_
                  refine fm_icmp_ne (tgt := 87) (pq := 79) hX d_E_isInstruction_76 rfl rfl (fun h76 => ?_) (fun h76 => ?_)
                  · show fm_G SC Y_E_isInstruction X M (fm_br (∃ J, okI o x y z n J) M) 87 [some (.inl o), some (.inl x), some (.inl y), some (.inl z), some (.inl n), some (.inl (bI b59))] [] M
                    refine fm_iconst (pq := 88) (v := nI 1) hX d_E_isInstruction_87 (by decide) rfl ?_
                    refine fm_goto (tgt := 92) hX d_E_isInstruction_88 rfl ?_
                    refine fm_zret hX rfl (by decide) d_E_isInstruction_92 ?_
                    first
                    | exact fm_br0 (fun ⟨J, q⟩ => inR_n0 (by decide) h1 (okI_o q))
                    | exact fm_br0 (fun ⟨J, q⟩ => inR_n3 (n := 18) (by decide) h7 (okI_o q))
                    | exact fm_br0 (fun ⟨J, q⟩ => h14 ((inR_iff (by decide)).mp (okI_x q)))
                    | exact fm_br0 (fun ⟨J, q⟩ => h21 ((inR_iff (by decide)).mp (okI_y q)))
                    | exact fm_br0 (fun ⟨J, q⟩ => h28 ((inR_iff (by decide)).mp (okI_z q)))
                    | exact fm_br0 (fun ⟨J, q⟩ => okI_f q (Int32.not_lt.mpr (hb59.mp h63).1) (Int32.not_lt.mpr (hb59.mp h63).2) (nI_lt_le (i := 1) (by decide) |>.mpr (Int32.not_lt.mp h68)))
                    | exact fm_br0 (fun ⟨J, q⟩ => absurd (c81.mpr (okI_c q (Decidable.not_not.mp h76))) (by rw [h84]; decide))
                    | exact fm_br0 (fun ⟨J, q⟩ => absurd (c81.mpr (okI_c q h76)) (by rw [h84]; decide))
                    | exact fm_br1 (okI_mk (inR_g (n := 18) (by decide) h1 h7) ((inR_iff (n := 4) (by decide)).mpr h14) ((inR_iff (n := 4) (by decide)).mpr h21) ((inR_iff (n := 4) (by decide)).mpr h28) (by
                        first
                        | exact op_n (fun z => absurd (hb59.mpr z) (by rw [h63]; decide))
                        | exact Or.inr (Or.inr (fun z => Int32.not_le.mpr h68 (nI_lt_le (i := 1) (by decide) |>.mp z)))) (by first | exact Or.inl h76 | exact Or.inr (c81.mp h84)))
                  · show fm_G SC Y_E_isInstruction X M (fm_br (∃ J, okI o x y z n J) M) 79 [some (.inl o), some (.inl x), some (.inl y), some (.inl z), some (.inl n), some (.inl (bI b59))] [] M
                    refine fm_iload (pq := 81) hX d_E_isInstruction_79 rfl rfl ?_
                    refine fm_callS_b (as := [.inl n]) (st := []) (pq := 84) hX cE_41 st_E_isMethod (k_E_isM n M) rfl rfl (Nat.le_of_ble_eq_true rfl) (Nat.le_of_ble_eq_true rfl) d_E_isInstruction_81 rfl (fun b81 c81 => ?_)
                    refine fm_b1_eq (tgt := 91) (pq := 87) hX d_E_isInstruction_84 rfl rfl (fun h84 => ?_) (fun h84 => ?_)
                    · show fm_G SC Y_E_isInstruction X M (fm_br (∃ J, okI o x y z n J) M) 91 [some (.inl o), some (.inl x), some (.inl y), some (.inl z), some (.inl n), some (.inl (bI b59))] [] M
                      refine fm_iconst (pq := 92) (v := nI 0) hX d_E_isInstruction_91 (by decide) rfl ?_
                      refine fm_zret hX rfl (by decide) d_E_isInstruction_92 ?_
                      first
                      | exact fm_br0 (fun ⟨J, q⟩ => inR_n0 (by decide) h1 (okI_o q))
                      | exact fm_br0 (fun ⟨J, q⟩ => inR_n3 (n := 18) (by decide) h7 (okI_o q))
                      | exact fm_br0 (fun ⟨J, q⟩ => h14 ((inR_iff (by decide)).mp (okI_x q)))
                      | exact fm_br0 (fun ⟨J, q⟩ => h21 ((inR_iff (by decide)).mp (okI_y q)))
                      | exact fm_br0 (fun ⟨J, q⟩ => h28 ((inR_iff (by decide)).mp (okI_z q)))
                      | exact fm_br0 (fun ⟨J, q⟩ => okI_f q (Int32.not_lt.mpr (hb59.mp h63).1) (Int32.not_lt.mpr (hb59.mp h63).2) (nI_lt_le (i := 1) (by decide) |>.mpr (Int32.not_lt.mp h68)))
                      | exact fm_br0 (fun ⟨J, q⟩ => absurd (c81.mpr (okI_c q (Decidable.not_not.mp h76))) (by rw [h84]; decide))
                      | exact fm_br0 (fun ⟨J, q⟩ => absurd (c81.mpr (okI_c q h76)) (by rw [h84]; decide))
                      | exact fm_br1 (okI_mk (inR_g (n := 18) (by decide) h1 h7) ((inR_iff (n := 4) (by decide)).mpr h14) ((inR_iff (n := 4) (by decide)).mpr h21) ((inR_iff (n := 4) (by decide)).mpr h28) (by
                          first
                          | exact op_n (fun z => absurd (hb59.mpr z) (by rw [h63]; decide))
                          | exact Or.inr (Or.inr (fun z => Int32.not_le.mpr h68 (nI_lt_le (i := 1) (by decide) |>.mp z)))) (by first | exact Or.inl h76 | exact Or.inr (c81.mp h84)))
                    · show fm_G SC Y_E_isInstruction X M (fm_br (∃ J, okI o x y z n J) M) 87 [some (.inl o), some (.inl x), some (.inl y), some (.inl z), some (.inl n), some (.inl (bI b59))] [] M
                      refine fm_iconst (pq := 88) (v := nI 1) hX d_E_isInstruction_87 (by decide) rfl ?_
                      refine fm_goto (tgt := 92) hX d_E_isInstruction_88 rfl ?_
                      refine fm_zret hX rfl (by decide) d_E_isInstruction_92 ?_
                      first
                      | exact fm_br0 (fun ⟨J, q⟩ => inR_n0 (by decide) h1 (okI_o q))
                      | exact fm_br0 (fun ⟨J, q⟩ => inR_n3 (n := 18) (by decide) h7 (okI_o q))
                      | exact fm_br0 (fun ⟨J, q⟩ => h14 ((inR_iff (by decide)).mp (okI_x q)))
                      | exact fm_br0 (fun ⟨J, q⟩ => h21 ((inR_iff (by decide)).mp (okI_y q)))
                      | exact fm_br0 (fun ⟨J, q⟩ => h28 ((inR_iff (by decide)).mp (okI_z q)))
                      | exact fm_br0 (fun ⟨J, q⟩ => okI_f q (Int32.not_lt.mpr (hb59.mp h63).1) (Int32.not_lt.mpr (hb59.mp h63).2) (nI_lt_le (i := 1) (by decide) |>.mpr (Int32.not_lt.mp h68)))
                      | exact fm_br0 (fun ⟨J, q⟩ => absurd (c81.mpr (okI_c q (Decidable.not_not.mp h76))) (by rw [h84]; decide))
                      | exact fm_br0 (fun ⟨J, q⟩ => absurd (c81.mpr (okI_c q h76)) (by rw [h84]; decide))
                      | exact fm_br1 (okI_mk (inR_g (n := 18) (by decide) h1 h7) ((inR_iff (n := 4) (by decide)).mpr h14) ((inR_iff (n := 4) (by decide)).mpr h21) ((inR_iff (n := 4) (by decide)).mpr h28) (by
                          first
                          | exact op_n (fun z => absurd (hb59.mpr z) (by rw [h63]; decide))
                          | exact Or.inr (Or.inr (fun z => Int32.not_le.mpr h68 (nI_lt_le (i := 1) (by decide) |>.mp z)))) (by first | exact Or.inl h76 | exact Or.inr (c81.mp h84)))
                · show fm_G SC Y_E_isInstruction X M (fm_br (∃ J, okI o x y z n J) M) 71 [some (.inl o), some (.inl x), some (.inl y), some (.inl z), some (.inl n), some (.inl (bI b59))] [] M
                  refine fm_iconst (pq := 72) (v := nI 0) hX d_E_isInstruction_71 (by decide) rfl ?_
                  refine fm_zret hX rfl (by decide) d_E_isInstruction_72 ?_
                  first
                  | exact fm_br0 (fun ⟨J, q⟩ => inR_n0 (by decide) h1 (okI_o q))
                  | exact fm_br0 (fun ⟨J, q⟩ => inR_n3 (n := 18) (by decide) h7 (okI_o q))
                  | exact fm_br0 (fun ⟨J, q⟩ => h14 ((inR_iff (by decide)).mp (okI_x q)))
                  | exact fm_br0 (fun ⟨J, q⟩ => h21 ((inR_iff (by decide)).mp (okI_y q)))
                  | exact fm_br0 (fun ⟨J, q⟩ => h28 ((inR_iff (by decide)).mp (okI_z q)))
                  | exact fm_br0 (fun ⟨J, q⟩ => okI_f q (Int32.not_lt.mpr (hb59.mp h63).1) (Int32.not_lt.mpr (hb59.mp h63).2) (nI_lt_le (i := 1) (by decide) |>.mpr (Int32.not_lt.mp h68)))
                  | exact fm_br0 (fun ⟨J, q⟩ => absurd (c81.mpr (okI_c q (Decidable.not_not.mp h76))) (by rw [h84]; decide))
                  | exact fm_br0 (fun ⟨J, q⟩ => absurd (c81.mpr (okI_c q h76)) (by rw [h84]; decide))
                  | exact fm_br1 (okI_mk (inR_g (n := 18) (by decide) h1 h7) ((inR_iff (n := 4) (by decide)).mpr h14) ((inR_iff (n := 4) (by decide)).mpr h21) ((inR_iff (n := 4) (by decide)).mpr h28) (by
                      first
                      | exact op_n (fun z => absurd (hb59.mpr z) (by rw [h63]; decide))
                      | exact Or.inr (Or.inr (fun z => Int32.not_le.mpr h68 (nI_lt_le (i := 1) (by decide) |>.mp z)))) (by first | exact Or.inl h76 | exact Or.inr (c81.mp h84)))
            refine fm_iload_n (pq := 34) hX d_E_isInstruction_33 rfl rfl rfl ?_
            refine fm_iconst (pq := 35) (v := nI 3) hX d_E_isInstruction_34 (by decide) rfl ?_
            refine fm_icmp_eq (tgt := 54) (pq := 38) hX d_E_isInstruction_35 rfl rfl (fun h35 => ?_) (fun h35 => ?_)
            · show fm_G SC Y_E_isInstruction X M (fm_br (∃ J, okI o x y z n J) M) 54 [some (.inl o), some (.inl x), some (.inl y), some (.inl z), some (.inl n), none] [] M
              refine fm_iconst (pq := 55) (v := nI 1) hX d_E_isInstruction_54 (by decide) rfl ?_
              refine fm_goto (tgt := 59) hX d_E_isInstruction_55 rfl ?_
              exact L59 true ⟨fun _ => (by first | exact ⟨by rw [h35]; decide, by rw [h35]; decide⟩ | exact ⟨by rw [h40]; decide, by rw [h40]; decide⟩ | exact ⟨by rw [h45]; decide, by rw [h45]; decide⟩ | exact ⟨by rw [h51]; decide, by rw [h51]; decide⟩ | exact ⟨by rw [Decidable.not_not.mp h51]; decide, by rw [Decidable.not_not.mp h51]; decide⟩), fun _ => rfl⟩
            · show fm_G SC Y_E_isInstruction X M (fm_br (∃ J, okI o x y z n J) M) 38 [some (.inl o), some (.inl x), some (.inl y), some (.inl z), some (.inl n), none] [] M
              refine fm_iload_n (pq := 39) hX d_E_isInstruction_38 rfl rfl rfl ?_
              refine fm_iconst (pq := 40) (v := nI 4) hX d_E_isInstruction_39 (by decide) rfl ?_
              refine fm_icmp_eq (tgt := 54) (pq := 43) hX d_E_isInstruction_40 rfl rfl (fun h40 => ?_) (fun h40 => ?_)
              · show fm_G SC Y_E_isInstruction X M (fm_br (∃ J, okI o x y z n J) M) 54 [some (.inl o), some (.inl x), some (.inl y), some (.inl z), some (.inl n), none] [] M
                refine fm_iconst (pq := 55) (v := nI 1) hX d_E_isInstruction_54 (by decide) rfl ?_
                refine fm_goto (tgt := 59) hX d_E_isInstruction_55 rfl ?_
                exact L59 true ⟨fun _ => (by first | exact ⟨by rw [h35]; decide, by rw [h35]; decide⟩ | exact ⟨by rw [h40]; decide, by rw [h40]; decide⟩ | exact ⟨by rw [h45]; decide, by rw [h45]; decide⟩ | exact ⟨by rw [h51]; decide, by rw [h51]; decide⟩ | exact ⟨by rw [Decidable.not_not.mp h51]; decide, by rw [Decidable.not_not.mp h51]; decide⟩), fun _ => rfl⟩
              · show fm_G SC Y_E_isInstruction X M (fm_br (∃ J, okI o x y z n J) M) 43 [some (.inl o), some (.inl x), some (.inl y), some (.inl z), some (.inl n), none] [] M
                refine fm_iload_n (pq := 44) hX d_E_isInstruction_43 rfl rfl rfl ?_
                refine fm_iconst (pq := 45) (v := nI 5) hX d_E_isInstruction_44 (by decide) rfl ?_
                refine fm_icmp_eq (tgt := 54) (pq := 48) hX d_E_isInstruction_45 rfl rfl (fun h45 => ?_) (fun h45 => ?_)
                · show fm_G SC Y_E_isInstruction X M (fm_br (∃ J, okI o x y z n J) M) 54 [some (.inl o), some (.inl x), some (.inl y), some (.inl z), some (.inl n), none] [] M
                  refine fm_iconst (pq := 55) (v := nI 1) hX d_E_isInstruction_54 (by decide) rfl ?_
                  refine fm_goto (tgt := 59) hX d_E_isInstruction_55 rfl ?_
                  exact L59 true ⟨fun _ => (by first | exact ⟨by rw [h35]; decide, by rw [h35]; decide⟩ | exact ⟨by rw [h40]; decide, by rw [h40]; decide⟩ | exact ⟨by rw [h45]; decide, by rw [h45]; decide⟩ | exact ⟨by rw [h51]; decide, by rw [h51]; decide⟩ | exact ⟨by rw [Decidable.not_not.mp h51]; decide, by rw [Decidable.not_not.mp h51]; decide⟩), fun _ => rfl⟩
                · show fm_G SC Y_E_isInstruction X M (fm_br (∃ J, okI o x y z n J) M) 48 [some (.inl o), some (.inl x), some (.inl y), some (.inl z), some (.inl n), none] [] M
                  refine fm_iload_n (pq := 49) hX d_E_isInstruction_48 rfl rfl rfl ?_
                  refine fm_bipush (pq := 51) (v := nI 6) hX d_E_isInstruction_49 (by decide) rfl ?_
                  refine fm_icmp_ne (tgt := 58) (pq := 54) hX d_E_isInstruction_51 rfl rfl (fun h51 => ?_) (fun h51 => ?_)
                  · show fm_G SC Y_E_isInstruction X M (fm_br (∃ J, okI o x y z n J) M) 58 [some (.inl o), some (.inl x), some (.inl y), some (.inl z), some (.inl n), none] [] M
                    refine fm_iconst (pq := 59) (v := nI 0) hX d_E_isInstruction_58 (by decide) rfl ?_
                    exact L59 false ⟨fun z => absurd z (by decide), fun z => absurd z (op_f h35 h40 h45 h51)⟩
                  · show fm_G SC Y_E_isInstruction X M (fm_br (∃ J, okI o x y z n J) M) 54 [some (.inl o), some (.inl x), some (.inl y), some (.inl z), some (.inl n), none] [] M
                    refine fm_iconst (pq := 55) (v := nI 1) hX d_E_isInstruction_54 (by decide) rfl ?_
                    refine fm_goto (tgt := 59) hX d_E_isInstruction_55 rfl ?_
                    exact L59 true ⟨fun _ => (by first | exact ⟨by rw [h35]; decide, by rw [h35]; decide⟩ | exact ⟨by rw [h40]; decide, by rw [h40]; decide⟩ | exact ⟨by rw [h45]; decide, by rw [h45]; decide⟩ | exact ⟨by rw [h51]; decide, by rw [h51]; decide⟩ | exact ⟨by rw [Decidable.not_not.mp h51]; decide, by rw [Decidable.not_not.mp h51]; decide⟩), fun _ => rfl⟩
          · show fm_G SC Y_E_isInstruction X M (fm_br (∃ J, okI o x y z n J) M) 31 [some (.inl o), some (.inl x), some (.inl y), some (.inl z), some (.inl n), none] [] M
            refine fm_iconst (pq := 32) (v := nI 0) hX d_E_isInstruction_31 (by decide) rfl ?_
            refine fm_zret hX rfl (by decide) d_E_isInstruction_32 ?_
            first
            | exact fm_br0 (fun ⟨J, q⟩ => inR_n0 (by decide) h1 (okI_o q))
            | exact fm_br0 (fun ⟨J, q⟩ => inR_n3 (n := 18) (by decide) h7 (okI_o q))
            | exact fm_br0 (fun ⟨J, q⟩ => h14 ((inR_iff (by decide)).mp (okI_x q)))
            | exact fm_br0 (fun ⟨J, q⟩ => h21 ((inR_iff (by decide)).mp (okI_y q)))
            | exact fm_br0 (fun ⟨J, q⟩ => h28 ((inR_iff (by decide)).mp (okI_z q)))
            | exact fm_br0 (fun ⟨J, q⟩ => okI_f q (Int32.not_lt.mpr (hb59.mp h63).1) (Int32.not_lt.mpr (hb59.mp h63).2) (nI_lt_le (i := 1) (by decide) |>.mpr (Int32.not_lt.mp h68)))
            | exact fm_br0 (fun ⟨J, q⟩ => absurd (c81.mpr (okI_c q (Decidable.not_not.mp h76))) (by rw [h84]; decide))
            | exact fm_br0 (fun ⟨J, q⟩ => absurd (c81.mpr (okI_c q h76)) (by rw [h84]; decide))
            | exact fm_br1 (okI_mk (inR_g (n := 18) (by decide) h1 h7) ((inR_iff (n := 4) (by decide)).mpr h14) ((inR_iff (n := 4) (by decide)).mpr h21) ((inR_iff (n := 4) (by decide)).mpr h28) (by
                first
                | exact op_n (fun z => absurd (hb59.mpr z) (by rw [h63]; decide))
                | exact Or.inr (Or.inr (fun z => Int32.not_le.mpr h68 (nI_lt_le (i := 1) (by decide) |>.mp z)))) (by first | exact Or.inl h76 | exact Or.inr (c81.mp h84)))
abbrev Y_C_append : fm_Y := ("EscapeMill$Code", b_C_append, 7, (some .int), 1)
set_option maxRecDepth 100000 in
set_option maxHeartbeats 4000000 in
theorem k_C_append {P : pr_T} (M : fm_M) (hP : cP M P) {m : Nat} (hm : m < 5) (h24 : P.1 m < 24) (J : an_I) : fm_ct SC y_C_append b_C_append 7 (some .int) 1 [.inr (kC m), .inl (nI J.1), .inl (nI J.2.1), .inl (nI J.2.2.1), .inl (nI J.2.2.2.1), .inl J.2.2.2.2] M (fm_rv (nI (P.1 m)) (cp_app M P m J)) := by
  refine fm_of (ls := [some (.inr (kC m)), some (.inl (nI J.1)), some (.inl (nI J.2.1)), some (.inl (nI J.2.2.1)), some (.inl (nI J.2.2.2.1)), some (.inl J.2.2.2.2), none]) (by decide) wsA_good (Nat.le_of_ble_eq_true rfl) rfl (fun X hX => ?_)
  show fm_G SC Y_C_append X M (fm_rv (nI (P.1 m)) (cp_app M P m J)) 0 [some (.inr (kC m)), some (.inl (nI J.1)), some (.inl (nI J.2.1)), some (.inl (nI J.2.2.1)), some (.inl (nI J.2.2.2.1)), some (.inl J.2.2.2.2), none] [] M
  refine fm_aload_n (pq := 1) hX d_C_append_0 rfl rfl rfl ?_
  refine fm_geti (pq := 4) (v := nI (P.1 m)) hX fC_27 (s_C (by omega)) rfl (hP m (by omega)).1 d_C_append_1 rfl ?_
  refine fm_istore (pq := 6) (ls1 := [some (.inr (kC m)), some (.inl (nI J.1)), some (.inl (nI J.2.1)), some (.inl (nI J.2.2.1)), some (.inl (nI J.2.2.2.1)), some (.inl J.2.2.2.2), some (.inl (nI (P.1 m)))]) hX d_C_append_4 (by decide) rfl rfl ?_
  refine fm_aload_n (pq := 7) hX d_C_append_6 rfl rfl rfl ?_
  refine fm_getr (pq := 10) (q := kCa m 0) hX fC_9 (s_C (by omega)) rfl d_C_append_7 rfl ?_
  refine fm_iload (pq := 12) hX d_C_append_10 rfl rfl ?_
  refine fm_iload_n (pq := 13) hX d_C_append_12 rfl rfl rfl ?_
  refine fm_iast (pq := 14) hX (s_Ca0 (by omega)) rfl rfl (by omega) (by decide) d_C_append_13 rfl ?_
  refine fm_aload_n (pq := 15) hX d_C_append_14 rfl rfl rfl ?_
  refine fm_getr (pq := 18) (q := kCa m 1) hX fC_15 (s_C (by omega)) rfl d_C_append_15 rfl ?_
  refine fm_iload (pq := 20) hX d_C_append_18 rfl rfl ?_
  refine fm_iload_n (pq := 21) hX d_C_append_20 rfl rfl rfl ?_
  refine fm_iast (pq := 22) hX (s_Ca1 (by omega)) rfl rfl (by omega) (by decide) d_C_append_21 rfl ?_
  refine fm_aload_n (pq := 23) hX d_C_append_22 rfl rfl rfl ?_
  refine fm_getr (pq := 26) (q := kCa m 2) hX fC_18 (s_C (by omega)) rfl d_C_append_23 rfl ?_
  refine fm_iload (pq := 28) hX d_C_append_26 rfl rfl ?_
  refine fm_iload_n (pq := 29) hX d_C_append_28 rfl rfl rfl ?_
  refine fm_iast (pq := 30) hX (s_Ca2 (by omega)) rfl rfl (by omega) (by decide) d_C_append_29 rfl ?_
  refine fm_aload_n (pq := 31) hX d_C_append_30 rfl rfl rfl ?_
  refine fm_getr (pq := 34) (q := kCa m 3) hX fC_21 (s_C (by omega)) rfl d_C_append_31 rfl ?_
  refine fm_iload (pq := 36) hX d_C_append_34 rfl rfl ?_
  refine fm_iload (pq := 38) hX d_C_append_36 rfl rfl ?_
  refine fm_iast (pq := 39) hX (s_Ca3 (by omega)) rfl rfl (by omega) (by decide) d_C_append_38 rfl ?_
  refine fm_aload_n (pq := 40) hX d_C_append_39 rfl rfl rfl ?_
  refine fm_getr (pq := 43) (q := kCa m 4) hX fC_24 (s_C (by omega)) rfl d_C_append_40 rfl ?_
  refine fm_iload (pq := 45) hX d_C_append_43 rfl rfl ?_
  refine fm_iload (pq := 47) hX d_C_append_45 rfl rfl ?_
  refine fm_iast (pq := 48) hX (s_Ca4 (by omega)) rfl rfl (by omega) (by decide) d_C_append_47 rfl ?_
  refine fm_aload_n (pq := 49) hX d_C_append_48 rfl rfl rfl ?_
  refine fm_iload (pq := 51) hX d_C_append_49 rfl rfl ?_
  refine fm_iconst (pq := 52) (v := nI 1) hX d_C_append_51 (by decide) rfl ?_
  refine fm_iadd (pq := 53) (v := nI (P.1 m + 1)) hX d_C_append_52 (nI_add _ _) rfl ?_
  refine fm_puti (pq := 56) hX fC_27 pC_5 (s_C (by omega)) rfl rfl rfl d_C_append_53 rfl ?_
  refine fm_iload (pq := 58) hX d_C_append_56 rfl rfl ?_
  refine fm_iret hX rfl d_C_append_58 ?_
  exact fm_rvi rfl
abbrev Y_E_put : fm_Y := ("EscapeMill", b_E_put, 7, (some .int), 3)
set_option maxRecDepth 100000 in
set_option maxHeartbeats 4000000 in
theorem k_E_put_y {P : pr_T} (M : fm_M) (hP : cP M P) (hw : pr_wf P) {m : Nat} (hm : m < 5) (h24 : P.1 m < 24) (J : an_I) (hJ : an_wf J) : fm_ct SC y_E_put b_E_put 7 (some .int) 3 [.inr 0, .inl (nI m), .inl (nI J.1), .inl (nI J.2.1), .inl (nI J.2.2.1), .inl (nI J.2.2.2.1), .inl J.2.2.2.2] M (fm_rv (nI (P.1 m)) (cp_put M P m J)) := by
  refine fm_of (ls := [some (.inr 0), some (.inl (nI m)), some (.inl (nI J.1)), some (.inl (nI J.2.1)), some (.inl (nI J.2.2.1)), some (.inl (nI J.2.2.2.1)), some (.inl J.2.2.2.2)]) (by decide) wsA_good (Nat.le_of_ble_eq_true rfl) rfl (fun X hX => ?_)
  show fm_G SC Y_E_put X M (fm_rv (nI (P.1 m)) (cp_put M P m J)) 0 [some (.inr 0), some (.inl (nI m)), some (.inl (nI J.1)), some (.inl (nI J.2.1)), some (.inl (nI J.2.2.1)), some (.inl (nI J.2.2.2.1)), some (.inl J.2.2.2.2)] [] M
  refine fm_iload_n (pq := 1) hX d_E_put_0 rfl rfl rfl ?_
  refine fm_callS_b (as := [.inl (nI m)]) (st := []) (pq := 4) hX cE_41 st_E_isMethod (k_E_isM (nI m) M) rfl rfl (Nat.le_of_ble_eq_true rfl) (Nat.le_of_ble_eq_true rfl) d_E_put_1 rfl (fun b1 c1 => ?_)
  refine fm_b1_eq (tgt := 21) (pq := 7) hX d_E_put_4 rfl rfl (fun h4 => ?_) (fun h4 => ?_)
  · exact absurd (c1.mpr ⟨m, hm, rfl⟩) (by rw [h4]; decide)
  · show fm_G SC Y_E_put X M (fm_rv (nI (P.1 m)) (cp_put M P m J)) 7 [some (.inr 0), some (.inl (nI m)), some (.inl (nI J.1)), some (.inl (nI J.2.1)), some (.inl (nI J.2.2.1)), some (.inl (nI J.2.2.2.1)), some (.inl J.2.2.2.2)] [] M
    refine fm_iload_n (pq := 8) hX d_E_put_7 rfl rfl rfl ?_
    refine fm_iload_n (pq := 9) hX d_E_put_8 rfl rfl rfl ?_
    refine fm_iload (pq := 11) hX d_E_put_9 rfl rfl ?_
    refine fm_iload (pq := 13) hX d_E_put_11 rfl rfl ?_
    refine fm_iload (pq := 15) hX d_E_put_13 rfl rfl ?_
    refine fm_callS_b (as := [.inl (nI J.1), .inl (nI J.2.1), .inl (nI J.2.2.1), .inl (nI J.2.2.2.1), .inl J.2.2.2.2]) (st := []) (pq := 18) hX cE_52 st_E_isInstruction (k_E_isInstruction (nI J.1) (nI J.2.1) (nI J.2.2.1) (nI J.2.2.2.1) J.2.2.2.2 M) rfl rfl (Nat.le_of_ble_eq_true rfl) (Nat.le_of_ble_eq_true rfl) d_E_put_15 rfl (fun b15 c15 => ?_)
    refine fm_b1_ne (tgt := 29) (pq := 21) hX d_E_put_18 rfl rfl (fun h18 => ?_) (fun h18 => ?_)
    · show fm_G SC Y_E_put X M (fm_rv (nI (P.1 m)) (cp_put M P m J)) 29 [some (.inr 0), some (.inl (nI m)), some (.inl (nI J.1)), some (.inl (nI J.2.1)), some (.inl (nI J.2.2.1)), some (.inl (nI J.2.2.2.1)), some (.inl J.2.2.2.2)] [] M
      refine fm_aload_n (pq := 30) hX d_E_put_29 rfl rfl rfl ?_
      refine fm_getr (pq := 33) (q := 1) hX fE_11 rfl rfl d_E_put_30 rfl ?_
      refine fm_iload_n (pq := 34) hX d_E_put_33 rfl rfl rfl ?_
      refine fm_aald (pq := 35) (q := kC m) hX rfl (by decide) rfl rfl rfl (by omega) (by decide) (r_C (by omega)) d_E_put_34 rfl ?_
      refine fm_geti (pq := 38) (v := nI (P.1 m)) hX fE_56 (s_C (by omega)) rfl (hP m (by omega)).1 d_E_put_35 rfl ?_
      refine fm_bipush (pq := 40) (v := nI 24) hX d_E_put_38 (by decide) rfl ?_
      refine fm_n_lt (tgt := 51) (pq := 43) hX d_E_put_40 rfl rfl (by omega) (by omega) (fun h40 => ?_) (fun h40 => ?_)
      · show fm_G SC Y_E_put X M (fm_rv (nI (P.1 m)) (cp_put M P m J)) 51 [some (.inr 0), some (.inl (nI m)), some (.inl (nI J.1)), some (.inl (nI J.2.1)), some (.inl (nI J.2.2.1)), some (.inl (nI J.2.2.2.1)), some (.inl J.2.2.2.2)] [] M
        refine fm_aload_n (pq := 52) hX d_E_put_51 rfl rfl rfl ?_
        refine fm_iconst (pq := 53) (v := nI 1) hX d_E_put_52 (by decide) rfl ?_
        refine fm_puti (pq := 56) hX fE_34 pE_4 rfl rfl (by decide) (by decide) d_E_put_53 rfl ?_
        refine fm_aload_n (pq := 57) hX d_E_put_56 rfl rfl rfl ?_
        refine fm_getr (pq := 60) (q := 1) hX fE_11 rfl rfl d_E_put_57 rfl ?_
        refine fm_iload_n (pq := 61) hX d_E_put_60 rfl rfl rfl ?_
        refine fm_aald (pq := 62) (q := kC m) hX rfl (by decide) rfl rfl rfl (by omega) (by decide) (r_C (by omega)) d_E_put_61 rfl ?_
        refine fm_iload_n (pq := 63) hX d_E_put_62 rfl rfl rfl ?_
        refine fm_iload_n (pq := 64) hX d_E_put_63 rfl rfl rfl ?_
        refine fm_iload (pq := 66) hX d_E_put_64 rfl rfl ?_
        refine fm_iload (pq := 68) hX d_E_put_66 rfl rfl ?_
        refine fm_iload (pq := 70) hX d_E_put_68 rfl rfl ?_
        refine fm_callV_i (as := [.inl (nI J.1), .inl (nI J.2.1), .inl (nI J.2.2.1), .inl (nI J.2.2.2.1), .inl J.2.2.2.2]) (st := []) (pq := 73) hX (s_C (by omega)) rfl cE_62 rfl im_C_append se_C_append (k_C_append (fm_up M 0 4 (nI 1)) (cP_m hP (fun a j h => fm_up_a (by omega))) (m := m) hm h24 J) rfl rfl (Nat.le_of_ble_eq_true rfl) (Nat.le_of_ble_eq_true rfl) d_E_put_70 rfl ?_
        refine fm_iret hX rfl d_E_put_73 ?_
        exact fm_rvi rfl
      · exact absurd h24 h40
    · exact absurd (c15.mpr ⟨J, rfl, rfl, rfl, rfl, rfl, hJ⟩) (by rw [h18]; decide)
abbrev Y_E_parameters : fm_Y := ("EscapeMill", b_E_parameters, 3, (some .boolean), 2)
set_option maxRecDepth 100000 in
set_option maxHeartbeats 4000000 in
theorem k_E_parameters_y {P : pr_T} (M : fm_M) (hP : cP M P) {m k : Nat} (hm : m < 5) (hk : k ≤ 2) : fm_ct SC y_E_parameters b_E_parameters 3 (some .boolean) 2 [.inr 0, .inl (nI m), .inl (nI k)] M (fm_rv (nI 1) (cp_par M m k)) := by
  refine fm_of (ls := [some (.inr 0), some (.inl (nI m)), some (.inl (nI k))]) (by decide) wsA_good (Nat.le_of_ble_eq_true rfl) rfl (fun X hX => ?_)
  show fm_G SC Y_E_parameters X M (fm_rv (nI 1) (cp_par M m k)) 0 [some (.inr 0), some (.inl (nI m)), some (.inl (nI k))] [] M
  refine fm_iload_n (pq := 1) hX d_E_parameters_0 rfl rfl rfl ?_
  refine fm_callS_b (as := [.inl (nI m)]) (st := []) (pq := 4) hX cE_41 st_E_isMethod (k_E_isM (nI m) M) rfl rfl (Nat.le_of_ble_eq_true rfl) (Nat.le_of_ble_eq_true rfl) d_E_parameters_1 rfl (fun b1 c1 => ?_)
  refine fm_b1_eq (tgt := 16) (pq := 7) hX d_E_parameters_4 rfl rfl (fun h4 => ?_) (fun h4 => ?_)
  · exact absurd (c1.mpr ⟨m, hm, rfl⟩) (by rw [h4]; decide)
  · show fm_G SC Y_E_parameters X M (fm_rv (nI 1) (cp_par M m k)) 7 [some (.inr 0), some (.inl (nI m)), some (.inl (nI k))] [] M
    refine fm_iload_n (pq := 8) hX d_E_parameters_7 rfl rfl rfl ?_
    refine fm_z_lt (tgt := 16) (pq := 11) hX d_E_parameters_8 rfl rfl (by omega) (fun h8 => ?_) (fun h8 => ?_)
    · exact absurd h8 (by omega)
    · show fm_G SC Y_E_parameters X M (fm_rv (nI 1) (cp_par M m k)) 11 [some (.inr 0), some (.inl (nI m)), some (.inl (nI k))] [] M
      refine fm_iload_n (pq := 12) hX d_E_parameters_11 rfl rfl rfl ?_
      refine fm_iconst (pq := 13) (v := nI 2) hX d_E_parameters_12 (by decide) rfl ?_
      refine fm_n_le (tgt := 24) (pq := 16) hX d_E_parameters_13 rfl rfl (by omega) (by omega) (fun h13 => ?_) (fun h13 => ?_)
      · show fm_G SC Y_E_parameters X M (fm_rv (nI 1) (cp_par M m k)) 24 [some (.inr 0), some (.inl (nI m)), some (.inl (nI k))] [] M
        refine fm_aload_n (pq := 25) hX d_E_parameters_24 rfl rfl rfl ?_
        refine fm_getr (pq := 28) (q := 1) hX fE_11 rfl rfl d_E_parameters_25 rfl ?_
        refine fm_iload_n (pq := 29) hX d_E_parameters_28 rfl rfl rfl ?_
        refine fm_aald (pq := 30) (q := kC m) hX rfl (by decide) rfl rfl rfl (by omega) (by decide) (r_C (by omega)) d_E_parameters_29 rfl ?_
        refine fm_iload_n (pq := 31) hX d_E_parameters_30 rfl rfl rfl ?_
        refine fm_puti (pq := 34) hX fE_48 pC_6 (s_C (by omega)) rfl rfl rfl d_E_parameters_31 rfl ?_
        refine fm_aload_n (pq := 35) hX d_E_parameters_34 rfl rfl rfl ?_
        refine fm_iconst (pq := 36) (v := nI 1) hX d_E_parameters_35 (by decide) rfl ?_
        refine fm_puti (pq := 39) hX fE_34 pE_4 rfl rfl (by decide) (by decide) d_E_parameters_36 rfl ?_
        refine fm_iconst (pq := 40) (v := nI 1) hX d_E_parameters_39 (by decide) rfl ?_
        refine fm_zret hX rfl (by decide) d_E_parameters_40 ?_
        exact fm_rvi rfl
      · exact absurd hk h13
abbrev Y_E_clear : fm_Y := ("EscapeMill", b_E_clear, 3, (some .int), 2)
set_option maxRecDepth 100000 in
set_option maxHeartbeats 4000000 in
theorem k_E_clear_y {P : pr_T} (M : fm_M) (hP : cP M P) {m : Nat} (hm : m < 5) : fm_ct SC y_E_clear b_E_clear 3 (some .int) 2 [.inr 0, .inl (nI m)] M (fm_rv (nI (P.1 m)) (cp_clr M m)) := by
  refine fm_of (ls := [some (.inr 0), some (.inl (nI m)), none]) (by decide) wsA_good (Nat.le_of_ble_eq_true rfl) rfl (fun X hX => ?_)
  show fm_G SC Y_E_clear X M (fm_rv (nI (P.1 m)) (cp_clr M m)) 0 [some (.inr 0), some (.inl (nI m)), none] [] M
  refine fm_iload_n (pq := 1) hX d_E_clear_0 rfl rfl rfl ?_
  refine fm_callS_b (as := [.inl (nI m)]) (st := []) (pq := 4) hX cE_41 st_E_isMethod (k_E_isM (nI m) M) rfl rfl (Nat.le_of_ble_eq_true rfl) (Nat.le_of_ble_eq_true rfl) d_E_clear_1 rfl (fun b1 c1 => ?_)
  refine fm_b1_ne (tgt := 15) (pq := 7) hX d_E_clear_4 rfl rfl (fun h4 => ?_) (fun h4 => ?_)
  · show fm_G SC Y_E_clear X M (fm_rv (nI (P.1 m)) (cp_clr M m)) 15 [some (.inr 0), some (.inl (nI m)), none] [] M
    refine fm_aload_n (pq := 16) hX d_E_clear_15 rfl rfl rfl ?_
    refine fm_getr (pq := 19) (q := 1) hX fE_11 rfl rfl d_E_clear_16 rfl ?_
    refine fm_iload_n (pq := 20) hX d_E_clear_19 rfl rfl rfl ?_
    refine fm_aald (pq := 21) (q := kC m) hX rfl (by decide) rfl rfl rfl (by omega) (by decide) (r_C (by omega)) d_E_clear_20 rfl ?_
    refine fm_geti (pq := 24) (v := nI (P.1 m)) hX fE_56 (s_C (by omega)) rfl (hP m (by omega)).1 d_E_clear_21 rfl ?_
    refine fm_istore_n (pq := 25) (ls1 := [some (.inr 0), some (.inl (nI m)), some (.inl (nI (P.1 m)))]) hX d_E_clear_24 rfl (by decide) rfl rfl ?_
    refine fm_aload_n (pq := 26) hX d_E_clear_25 rfl rfl rfl ?_
    refine fm_getr (pq := 29) (q := 1) hX fE_11 rfl rfl d_E_clear_26 rfl ?_
    refine fm_iload_n (pq := 30) hX d_E_clear_29 rfl rfl rfl ?_
    refine fm_aald (pq := 31) (q := kC m) hX rfl (by decide) rfl rfl rfl (by omega) (by decide) (r_C (by omega)) d_E_clear_30 rfl ?_
    refine fm_iconst (pq := 32) (v := nI 0) hX d_E_clear_31 (by decide) rfl ?_
    refine fm_puti (pq := 35) hX fE_56 pC_5 (s_C (by omega)) rfl rfl rfl d_E_clear_32 rfl ?_
    refine fm_aload_n (pq := 36) hX d_E_clear_35 rfl rfl rfl ?_
    refine fm_iconst (pq := 37) (v := nI 1) hX d_E_clear_36 (by decide) rfl ?_
    refine fm_puti (pq := 40) hX fE_34 pE_4 rfl rfl (by decide) (by decide) d_E_clear_37 rfl ?_
    refine fm_iload_n (pq := 41) hX d_E_clear_40 rfl rfl rfl ?_
    refine fm_iret hX rfl d_E_clear_41 ?_
    exact fm_rvi rfl
  · exact absurd (c1.mpr ⟨m, hm, rfl⟩) (by rw [h4]; decide)
abbrev Y_E_shown : fm_Y := ("EscapeMill", b_E_shown, 2, (some .int), 1)
set_option maxRecDepth 100000 in
set_option maxHeartbeats 4000000 in
theorem k_E_shown_y (M : fm_M) {sh k : Nat} (hsh : M 4 12 = nI sh) (hs4 : sh < 1000) (hk : k < 32) (hks : k < sh) : fm_ct SC y_E_shown b_E_shown 2 (some .int) 1 [.inr 0, .inl (nI k)] M (fm_rv (M 14 k) M) := by
  refine fm_of (ls := [some (.inr 0), some (.inl (nI k))]) (by decide) wsA_good (Nat.le_of_ble_eq_true rfl) rfl (fun X hX => ?_)
  show fm_G SC Y_E_shown X M (fm_rv (M 14 k) M) 0 [some (.inr 0), some (.inl (nI k))] [] M
  refine fm_iload_n (pq := 1) hX d_E_shown_0 rfl rfl rfl ?_
  refine fm_z_lt (tgt := 21) (pq := 4) hX d_E_shown_1 rfl rfl (by omega) (fun h1 => ?_) (fun h1 => ?_)
  · exact absurd h1 (by omega)
  · show fm_G SC Y_E_shown X M (fm_rv (M 14 k) M) 4 [some (.inr 0), some (.inl (nI k))] [] M
    refine fm_iload_n (pq := 5) hX d_E_shown_4 rfl rfl rfl ?_
    refine fm_bipush (pq := 7) (v := nI 32) hX d_E_shown_5 (by decide) rfl ?_
    refine fm_n_ge (tgt := 21) (pq := 10) hX d_E_shown_7 rfl rfl (by omega) (by omega) (fun h7 => ?_) (fun h7 => ?_)
    · exact absurd h7 (by omega)
    · show fm_G SC Y_E_shown X M (fm_rv (M 14 k) M) 10 [some (.inr 0), some (.inl (nI k))] [] M
      refine fm_iload_n (pq := 11) hX d_E_shown_10 rfl rfl rfl ?_
      refine fm_aload_n (pq := 12) hX d_E_shown_11 rfl rfl rfl ?_
      refine fm_getr (pq := 15) (q := 4) hX fE_30 rfl rfl d_E_shown_12 rfl ?_
      refine fm_geti (pq := 18) (v := nI sh) hX fE_73 rfl rfl hsh d_E_shown_15 rfl ?_
      refine fm_n_lt (tgt := 29) (pq := 21) hX d_E_shown_18 rfl rfl (by omega) (by omega) (fun h18 => ?_) (fun h18 => ?_)
      · show fm_G SC Y_E_shown X M (fm_rv (M 14 k) M) 29 [some (.inr 0), some (.inl (nI k))] [] M
        refine fm_aload_n (pq := 30) hX d_E_shown_29 rfl rfl rfl ?_
        refine fm_getr (pq := 33) (q := 4) hX fE_30 rfl rfl d_E_shown_30 rfl ?_
        refine fm_getr (pq := 36) (q := 14) hX fE_79 rfl rfl d_E_shown_33 rfl ?_
        refine fm_iload_n (pq := 37) hX d_E_shown_36 rfl rfl rfl ?_
        refine fm_iald (pq := 38) (v := M 14 k) hX rfl rfl rfl (by omega) (by decide) rfl d_E_shown_37 rfl ?_
        refine fm_iret hX rfl d_E_shown_38 ?_
        exact fm_rvi rfl
      · exact absurd hks h18
abbrev Y_E_latest : fm_Y := ("EscapeMill", b_E_latest, 2, (some .int), 1)
set_option maxRecDepth 100000 in
set_option maxHeartbeats 4000000 in
theorem k_E_latest (M : fm_M) (v : Int32) : fm_ct SC y_E_latest b_E_latest 2 (some .int) 1 [.inr 0, .inl v] M (fm_ir (fun x M' => M' = M ∧ ((∃ k, k < 5 ∧ v = nI k ∧ x = M 4 (11 + k)) ∨ (¬ inR 5 v ∧ x = -1)))) := by
  refine fm_of (ls := [some (.inr 0), some (.inl v)]) (by decide) wsA_good (Nat.le_of_ble_eq_true rfl) rfl (fun X hX => ?_)
  show fm_G SC Y_E_latest X M (fm_ir (fun x M' => M' = M ∧ ((∃ k, k < 5 ∧ v = nI k ∧ x = M 4 (11 + k)) ∨ (¬ inR 5 v ∧ x = -1)))) 0 [some (.inr 0), some (.inl v)] [] M
  refine fm_iload_n (pq := 1) hX d_E_latest_0 rfl rfl rfl ?_
  by_cases hv : inR 5 v
  · obtain ⟨k, hk, ev⟩ := hv
    rcases (by omega : k = 0 ∨ k = 1 ∨ k = 2 ∨ k = 3 ∨ k = 4) with e | e | e | e | e
    · refine fm_table (tgt := 36) (off := 35) hX d_E_latest_1 (by decide) (by rw [ev, e]; decide) (by decide) ?_
      refine fm_aload_n (pq := 37) hX d_E_latest_36 rfl rfl rfl ?_
      refine fm_getr (pq := 40) (q := 4) hX fE_30 rfl rfl d_E_latest_37 rfl ?_
      refine fm_geti (pq := 43) (v := M 4 11) hX fE_83 rfl rfl rfl d_E_latest_40 rfl ?_
      refine fm_iret hX rfl d_E_latest_43 ?_
      first | exact ⟨_, rfl, rfl, Or.inr ⟨hv, rfl⟩⟩ | exact ⟨_, rfl, rfl, Or.inl ⟨k, hk, ev, by rw [e]⟩⟩
    · refine fm_table (tgt := 44) (off := 43) hX d_E_latest_1 (by decide) (by rw [ev, e]; decide) (by decide) ?_
      refine fm_aload_n (pq := 45) hX d_E_latest_44 rfl rfl rfl ?_
      refine fm_getr (pq := 48) (q := 4) hX fE_30 rfl rfl d_E_latest_45 rfl ?_
      refine fm_geti (pq := 51) (v := M 4 12) hX fE_73 rfl rfl rfl d_E_latest_48 rfl ?_
      refine fm_iret hX rfl d_E_latest_51 ?_
      first | exact ⟨_, rfl, rfl, Or.inr ⟨hv, rfl⟩⟩ | exact ⟨_, rfl, rfl, Or.inl ⟨k, hk, ev, by rw [e]⟩⟩
    · refine fm_table (tgt := 52) (off := 51) hX d_E_latest_1 (by decide) (by rw [ev, e]; decide) (by decide) ?_
      refine fm_aload_n (pq := 53) hX d_E_latest_52 rfl rfl rfl ?_
      refine fm_getr (pq := 56) (q := 4) hX fE_30 rfl rfl d_E_latest_53 rfl ?_
      refine fm_geti (pq := 59) (v := M 4 13) hX fE_86 rfl rfl rfl d_E_latest_56 rfl ?_
      refine fm_iret hX rfl d_E_latest_59 ?_
      first | exact ⟨_, rfl, rfl, Or.inr ⟨hv, rfl⟩⟩ | exact ⟨_, rfl, rfl, Or.inl ⟨k, hk, ev, by rw [e]⟩⟩
    · refine fm_table (tgt := 60) (off := 59) hX d_E_latest_1 (by decide) (by rw [ev, e]; decide) (by decide) ?_
      refine fm_aload_n (pq := 61) hX d_E_latest_60 rfl rfl rfl ?_
      refine fm_getr (pq := 64) (q := 4) hX fE_30 rfl rfl d_E_latest_61 rfl ?_
      refine fm_geti (pq := 67) (v := M 4 14) hX fE_89 rfl rfl rfl d_E_latest_64 rfl ?_
      refine fm_iret hX rfl d_E_latest_67 ?_
      first | exact ⟨_, rfl, rfl, Or.inr ⟨hv, rfl⟩⟩ | exact ⟨_, rfl, rfl, Or.inl ⟨k, hk, ev, by rw [e]⟩⟩
    · refine fm_table (tgt := 68) (off := 67) hX d_E_latest_1 (by decide) (by rw [ev, e]; decide) (by decide) ?_
      refine fm_aload_n (pq := 69) hX d_E_latest_68 rfl rfl rfl ?_
      refine fm_getr (pq := 72) (q := 4) hX fE_30 rfl rfl d_E_latest_69 rfl ?_
      refine fm_geti (pq := 75) (v := M 4 15) hX fE_92 rfl rfl rfl d_E_latest_72 rfl ?_
      refine fm_iret hX rfl d_E_latest_75 ?_
      first | exact ⟨_, rfl, rfl, Or.inr ⟨hv, rfl⟩⟩ | exact ⟨_, rfl, rfl, Or.inl ⟨k, hk, ev, by rw [e]⟩⟩
  · refine fm_tableOut (tgt := 76) hX d_E_latest_1 (inR_out hv) (by decide) ?_
    refine fm_iconst (pq := 77) (v := (-1)) hX d_E_latest_76 (by decide) rfl ?_
    refine fm_iret hX rfl d_E_latest_77 ?_
    first | exact ⟨_, rfl, rfl, Or.inr ⟨hv, rfl⟩⟩ | exact ⟨_, rfl, rfl, Or.inl ⟨k, hk, ev, by rw [e]⟩⟩
abbrev Y_E_run : fm_Y := ("EscapeMill", b_E_run, 2, (some .int), 7)
set_option maxRecDepth 100000 in
set_option maxHeartbeats 4000000 in
theorem k_E_run {P : pr_T} (M : fm_M) (hP : cP M P) (hw : pr_wf P) (b : Bool) (hb : M 0 4 = bI b) (hT : b = false → cT P M) (ml : Bool) (hV : ∀ M1, cK P ml M M1 → ∀ t, (∀ u, u < t → cm_live (cm_it P (cFt ml M1) u (cm_begin M1))) → cV (cm_it P (cFt ml M1) t (cm_begin M1))) : fm_ct SC y_E_run b_E_run 2 (some .int) 7 [.inr 0, .inl (bI ml)] M (fm_ir (fun v M' => ∃ M1, cK P ml M M1 ∧ ∃ T, T ≤ 802 ∧ M' = cm_it P (cFt ml M1) T (cm_begin M1) ∧ (∀ u, u < T → cm_live (cm_it P (cFt ml M1) u (cm_begin M1))) ∧ (T = 802 ∨ ¬ cm_live M') ∧ v = M' 4 11)) := by
  refine fm_of (ls := [some (.inr 0), some (.inl (bI ml))]) (by decide) wsA_good (Nat.le_of_ble_eq_true rfl) rfl (fun X hX => ?_)
  show fm_G SC Y_E_run X M (fm_ir (fun v M' => ∃ M1, cK P ml M M1 ∧ ∃ T, T ≤ 802 ∧ M' = cm_it P (cFt ml M1) T (cm_begin M1) ∧ (∀ u, u < T → cm_live (cm_it P (cFt ml M1) u (cm_begin M1))) ∧ (T = 802 ∨ ¬ cm_live M') ∧ v = M' 4 11)) 0 [some (.inr 0), some (.inl (bI ml))] [] M
  refine fm_iload_n (pq := 1) hX d_E_run_0 rfl rfl rfl ?_
  refine fm_b1_eq (tgt := 8) (pq := 4) hX d_E_run_1 rfl rfl (fun h1 => ?_) (fun h1 => ?_)
  · show fm_G SC Y_E_run X M (fm_ir (fun v M' => ∃ M1, cK P ml M M1 ∧ ∃ T, T ≤ 802 ∧ M' = cm_it P (cFt ml M1) T (cm_begin M1) ∧ (∀ u, u < T → cm_live (cm_it P (cFt ml M1) u (cm_begin M1))) ∧ (T = 802 ∨ ¬ cm_live M') ∧ v = M' 4 11)) 8 [some (.inr 0), some (.inl (bI ml))] [] M
    refine fm_aload_n (pq := 9) hX d_E_run_8 rfl rfl rfl ?_
    refine fm_getr (pq := 12) (q := 4) hX fE_30 rfl rfl d_E_run_9 rfl ?_
    refine fm_aload_n (pq := 13) hX d_E_run_12 rfl rfl rfl ?_
    refine fm_getr (pq := 16) (q := 1) hX fE_11 rfl rfl d_E_run_13 rfl ?_
    refine fm_aload_n (pq := 17) hX d_E_run_16 rfl rfl rfl ?_
    refine fm_getr (pq := 20) (q := 3) hX fE_23 rfl rfl d_E_run_17 rfl ?_
    refine fm_iload_n (pq := 21) hX d_E_run_20 rfl rfl rfl ?_
    refine fm_callV_x (as := [.inr 1, .inr 3, .inl (bI ml)]) (st := []) (pq := 24) hX rfl rfl cE_69 rfl im_M_go se_M_go (k_M_go (P := P) M hP hw ml (cFt ml M) (fun _ _ _ _ => rfl) (hV M ⟨fun z => absurd (h1.symm.trans z) (by decide), fun _ => rfl⟩)) rfl rfl (Nat.le_of_ble_eq_true rfl) (Nat.le_of_ble_eq_true rfl) d_E_run_21 rfl (fun v21 M21 c21 => ?_)
    refine fm_iret hX rfl d_E_run_24 ?_
    first | exact ⟨_, rfl, M, ⟨fun z => absurd (h1.symm.trans z) (by decide), fun _ => rfl⟩, c21⟩ | exact ⟨_, rfl, M5, hK5, c21⟩
  · show fm_G SC Y_E_run X M (fm_ir (fun v M' => ∃ M1, cK P ml M M1 ∧ ∃ T, T ≤ 802 ∧ M' = cm_it P (cFt ml M1) T (cm_begin M1) ∧ (∀ u, u < T → cm_live (cm_it P (cFt ml M1) u (cm_begin M1))) ∧ (T = 802 ∨ ¬ cm_live M') ∧ v = M' 4 11)) 4 [some (.inr 0), some (.inl (bI ml))] [] M
    refine fm_aload_n (pq := 5) hX d_E_run_4 rfl rfl rfl ?_
    refine fm_callV_r (as := []) (st := []) (pq := 8) hX rfl rfl cE_66 rfl im_E_settle se_E_settle (k_E_settle M hP hw b hb hT) rfl rfl (Nat.le_of_ble_eq_true rfl) (Nat.le_of_ble_eq_true rfl) d_E_run_5 rfl (fun M5 c5 => ?_)
    have hP5 : cP M5 P := cP_cg hP (fun a j q => c5.2.2 a j (Or.inr q) (by obtain ⟨n, t, h1, h2, e⟩ := q; omega))
    have hK5 : cK P ml M M5 := ⟨fun _ => c5, fun z => absurd (h1.symm.trans z) (by decide)⟩
    refine fm_aload_n (pq := 9) hX d_E_run_8 rfl rfl rfl ?_
    refine fm_getr (pq := 12) (q := 4) hX fE_30 rfl rfl d_E_run_9 rfl ?_
    refine fm_aload_n (pq := 13) hX d_E_run_12 rfl rfl rfl ?_
    refine fm_getr (pq := 16) (q := 1) hX fE_11 rfl rfl d_E_run_13 rfl ?_
    refine fm_aload_n (pq := 17) hX d_E_run_16 rfl rfl rfl ?_
    refine fm_getr (pq := 20) (q := 3) hX fE_23 rfl rfl d_E_run_17 rfl ?_
    refine fm_iload_n (pq := 21) hX d_E_run_20 rfl rfl rfl ?_
    refine fm_callV_x (as := [.inr 1, .inr 3, .inl (bI ml)]) (st := []) (pq := 24) hX rfl rfl cE_69 rfl im_M_go se_M_go (k_M_go (P := P) M5 hP5 hw ml (cFt ml M5) (fun _ _ _ _ => rfl) (hV M5 hK5)) rfl rfl (Nat.le_of_ble_eq_true rfl) (Nat.le_of_ble_eq_true rfl) d_E_run_21 rfl (fun v21 M21 c21 => ?_)
    refine fm_iret hX rfl d_E_run_24 ?_
    first | exact ⟨_, rfl, M, ⟨fun z => absurd (h1.symm.trans z) (by decide), fun _ => rfl⟩, c21⟩ | exact ⟨_, rfl, M5, hK5, c21⟩
