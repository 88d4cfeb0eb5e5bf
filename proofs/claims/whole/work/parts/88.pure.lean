/-! which answers no memory is asked for (written by program) -/
def S0 : fm_S := (vwA, [], tyA, wsA)
set_option maxRecDepth 100000 in
set_option maxHeartbeats 4000000 in
theorem k_E_isM_0 (v : Int32) (M : fm_M) : fm_ct S0 y_E_isMethod b_E_isMethod 1 (some .boolean) 1 [.inl v] M (fm_br (inR 5 v) M) := by
  refine fm_of (ls := [some (.inl v)]) (by decide) wsA_good (Nat.le_of_ble_eq_true rfl) rfl (fun X hX => ?_)
  show fm_G S0 Y_E_isMethod X M (fm_br (inR 5 v) M) 0 [some (.inl v)] [] M
  refine fm_iload_n (pq := 1) hX d_E_isMethod_0 rfl rfl rfl ?_
  refine fm_if_lt (tgt := 13) (pq := 4) hX d_E_isMethod_1 rfl rfl (fun h1 => ?_) (fun h1 => ?_)
  · show fm_G S0 Y_E_isMethod X M (fm_br (inR 5 v) M) 13 [some (.inl v)] [] M
    refine fm_iconst (pq := 14) (v := nI 0) hX d_E_isMethod_13 (by decide) rfl ?_
    refine fm_zret hX rfl (by decide) d_E_isMethod_14 ?_
    first | exact fm_br1 (inR_y (by decide) h1 (Int32.not_le.mp h6)) | exact fm_br0 (inR_n1 (by decide) (Int32.not_lt.mpr h6)) | exact fm_br0 (inR_n0 (by decide) h1)
  · show fm_G S0 Y_E_isMethod X M (fm_br (inR 5 v) M) 4 [some (.inl v)] [] M
    refine fm_iload_n (pq := 5) hX d_E_isMethod_4 rfl rfl rfl ?_
    refine fm_iconst (pq := 6) (v := nI 5) hX d_E_isMethod_5 (by decide) rfl ?_
    refine fm_icmp_ge (tgt := 13) (pq := 9) hX d_E_isMethod_6 rfl rfl (fun h6 => ?_) (fun h6 => ?_)
    · show fm_G S0 Y_E_isMethod X M (fm_br (inR 5 v) M) 13 [some (.inl v)] [] M
      refine fm_iconst (pq := 14) (v := nI 0) hX d_E_isMethod_13 (by decide) rfl ?_
      refine fm_zret hX rfl (by decide) d_E_isMethod_14 ?_
      first | exact fm_br1 (inR_y (by decide) h1 (Int32.not_le.mp h6)) | exact fm_br0 (inR_n1 (by decide) (Int32.not_lt.mpr h6)) | exact fm_br0 (inR_n0 (by decide) h1)
    · show fm_G S0 Y_E_isMethod X M (fm_br (inR 5 v) M) 9 [some (.inl v)] [] M
      refine fm_iconst (pq := 10) (v := nI 1) hX d_E_isMethod_9 (by decide) rfl ?_
      refine fm_goto (tgt := 14) hX d_E_isMethod_10 rfl ?_
      refine fm_zret hX rfl (by decide) d_E_isMethod_14 ?_
      first | exact fm_br1 (inR_y (by decide) h1 (Int32.not_le.mp h6)) | exact fm_br0 (inR_n1 (by decide) (Int32.not_lt.mpr h6)) | exact fm_br0 (inR_n0 (by decide) h1)
set_option maxRecDepth 100000 in
set_option maxHeartbeats 4000000 in
theorem k_E_isVariable_0 (v : Int32) (M : fm_M) : fm_ct S0 y_E_isVariable b_E_isVariable 1 (some .boolean) 1 [.inl v] M (fm_rv (bI (decide (0 ≤ v ∧ v < nI 4))) M) := by
  refine fm_of (ls := [some (.inl v)]) (by decide) wsA_good (Nat.le_of_ble_eq_true rfl) rfl (fun X hX => ?_)
  show fm_G S0 Y_E_isVariable X M (fm_rv (bI (decide (0 ≤ v ∧ v < nI 4))) M) 0 [some (.inl v)] [] M
  refine fm_iload_n hX d_E_isVariable_0 rfl rfl rfl ?_
  refine fm_if_lt (tgt := 13) (pq := 4) hX d_E_isVariable_1 rfl rfl (fun h1 => ?_) (fun h1 => ?_)
  · show fm_G S0 Y_E_isVariable X M (fm_rv (bI (decide (0 ≤ v ∧ v < nI 4))) M) 13 [some (.inl v)] [] M
    refine fm_iconst (v := nI 0) hX d_E_isVariable_13 (by decide) rfl ?_
    refine fm_zret hX rfl (by decide) d_E_isVariable_14 ?_
    first | exact fm_rvi (fm_b1 ⟨Int32.not_lt.mp h1, Int32.not_le.mp h6⟩) | exact fm_rvi (fm_b0 (fun z => Int32.not_le.mpr z.2 h6)) | exact fm_rvi (fm_b0 (fun z => Int32.not_lt.mpr z.1 h1))
  · show fm_G S0 Y_E_isVariable X M (fm_rv (bI (decide (0 ≤ v ∧ v < nI 4))) M) 4 [some (.inl v)] [] M
    refine fm_iload_n hX d_E_isVariable_4 rfl rfl rfl ?_
    refine fm_iconst (v := nI 4) hX d_E_isVariable_5 (by decide) rfl ?_
    refine fm_icmp_ge (tgt := 13) (pq := 9) hX d_E_isVariable_6 rfl rfl (fun h6 => ?_) (fun h6 => ?_)
    · show fm_G S0 Y_E_isVariable X M (fm_rv (bI (decide (0 ≤ v ∧ v < nI 4))) M) 13 [some (.inl v)] [] M
      refine fm_iconst (v := nI 0) hX d_E_isVariable_13 (by decide) rfl ?_
      refine fm_zret hX rfl (by decide) d_E_isVariable_14 ?_
      first | exact fm_rvi (fm_b1 ⟨Int32.not_lt.mp h1, Int32.not_le.mp h6⟩) | exact fm_rvi (fm_b0 (fun z => Int32.not_le.mpr z.2 h6)) | exact fm_rvi (fm_b0 (fun z => Int32.not_lt.mpr z.1 h1))
    · show fm_G S0 Y_E_isVariable X M (fm_rv (bI (decide (0 ≤ v ∧ v < nI 4))) M) 9 [some (.inl v)] [] M
      refine fm_iconst (v := nI 1) hX d_E_isVariable_9 (by decide) rfl ?_
      refine fm_goto (tgt := 14) hX d_E_isVariable_10 rfl ?_
      refine fm_zret hX rfl (by decide) d_E_isVariable_14 ?_
      first | exact fm_rvi (fm_b1 ⟨Int32.not_lt.mp h1, Int32.not_le.mp h6⟩) | exact fm_rvi (fm_b0 (fun z => Int32.not_le.mpr z.2 h6)) | exact fm_rvi (fm_b0 (fun z => Int32.not_lt.mpr z.1 h1))
set_option maxRecDepth 100000 in
set_option maxHeartbeats 4000000 in
theorem k_E_isInstruction_0 (o x y z n : Int32) (M : fm_M) : fm_ct S0 y_E_isInstruction b_E_isInstruction 6 (some .boolean) 2 [.inl o, .inl x, .inl y, .inl z, .inl n] M (fm_br (∃ J, okI o x y z n J) M) := by
  refine fm_of (ls := [some (.inl o), some (.inl x), some (.inl y), some (.inl z), some (.inl n), none]) (by decide) wsA_good (Nat.le_of_ble_eq_true rfl) rfl (fun X hX => ?_)
  show fm_G S0 Y_E_isInstruction X M (fm_br (∃ J, okI o x y z n J) M) 0 [some (.inl o), some (.inl x), some (.inl y), some (.inl z), some (.inl n), none] [] M
  refine fm_iload_n (pq := 1) hX d_E_isInstruction_0 rfl rfl rfl ?_
  refine fm_if_lt (tgt := 31) (pq := 4) hX d_E_isInstruction_1 rfl rfl (fun h1 => ?_) (fun h1 => ?_)
  · show fm_G S0 Y_E_isInstruction X M (fm_br (∃ J, okI o x y z n J) M) 31 [some (.inl o), some (.inl x), some (.inl y), some (.inl z), some (.inl n), none] [] M
    refine fm_iconst (pq := 32) (v := nI 0) hX d_E_isInstruction_31 (by decide) rfl ?_
    refine fm_zret hX rfl (by decide) d_E_isInstruction_32 ?_
    first
    | exact fm_br0 (fun ⟨J, q⟩ => inR_n0 (by decide) h1 (okI_o q))
    | exact fm_br0 (fun ⟨J, q⟩ => inR_n3 (n := 18) (by decide) h7 (okI_o q))
    | exact fm_br0 (fun ⟨J, q⟩ => h14 ((inR_iff (by decide)).mp (okI_x q)))
    | exact fm_br0 (fun ⟨J, q⟩ => h21 ((inR_iff (by decide)).mp (okI_y q)))
    | exact fm_br0 (fun ⟨J, q⟩ => h28 ((inR_iff (by decide)).mp (okI_z q)))
    | exact fm_br0 (fun ⟨J, q⟩ => okI_f q (Int32.not_lt.mpr (hb59.mp h63).1) (Int32.not_lt.mpr (hb59.mp h63).2) (nI_lt_le (i := 1) (by decide) |>.mpr (Int32.not_lt.mp h68)))
    | exact fm_br0 (fun ⟨J, q⟩ => absurd (c81.mpr (okI_c q (Decidable.not_not.mp h76))) (by rw [h84]; decide))
    | exact fm_br0 (fun ⟨J, q⟩ => absurd (c81.mpr (okI_c q h76)) (by rw [h84]; decide))
    | exact fm_br1 (okI_mk (inR_g (n := 18) (by decide) h1 h7) ((inR_iff (n := 4) (by decide)).mpr h14) ((inR_iff (n := 4) (by decide)).mpr h21) ((inR_iff (n := 4) (by decide)).mpr h28) (by
        first
        | exact op_n (fun z => absurd (hb59.mpr z) (by rw [h63]; decide))
        | exact Or.inr (Or.inr (fun z => Int32.not_le.mpr h68 (nI_lt_le (i := 1) (by decide) |>.mp z)))) (by first | exact Or.inl h76 | exact Or.inr (c81.mp h84)))
  · show fm_G S0 Y_E_isInstruction X M (fm_br (∃ J, okI o x y z n J) M) 4 [some (.inl o), some (.inl x), some (.inl y), some (.inl z), some (.inl n), none] [] M
    refine fm_iload_n (pq := 5) hX d_E_isInstruction_4 rfl rfl rfl ?_
    refine fm_bipush (pq := 7) (v := nI 18) hX d_E_isInstruction_5 (by decide) rfl ?_
    refine fm_icmp_gt (tgt := 31) (pq := 10) hX d_E_isInstruction_7 rfl rfl (fun h7 => ?_) (fun h7 => ?_)
    · show fm_G S0 Y_E_isInstruction X M (fm_br (∃ J, okI o x y z n J) M) 31 [some (.inl o), some (.inl x), some (.inl y), some (.inl z), some (.inl n), none] [] M
      refine fm_iconst (pq := 32) (v := nI 0) hX d_E_isInstruction_31 (by decide) rfl ?_
      refine fm_zret hX rfl (by decide) d_E_isInstruction_32 ?_
      first
      | exact fm_br0 (fun ⟨J, q⟩ => inR_n0 (by decide) h1 (okI_o q))
      | exact fm_br0 (fun ⟨J, q⟩ => inR_n3 (n := 18) (by decide) h7 (okI_o q))
      | exact fm_br0 (fun ⟨J, q⟩ => h14 ((inR_iff (by decide)).mp (okI_x q)))
      | exact fm_br0 (fun ⟨J, q⟩ => h21 ((inR_iff (by decide)).mp (okI_y q)))
      | exact fm_br0 (fun ⟨J, q⟩ => h28 ((inR_iff (by decide)).mp (okI_z q)))
      | exact fm_br0 (fun ⟨J, q⟩ => okI_f q (Int32.not_lt.mpr (hb59.mp h63).1) (Int32.not_lt.mpr (hb59.mp h63).2) (nI_lt_le (i := 1) (by decide) |>.mpr (Int32.not_lt.mp h68)))
      | exact fm_br0 (fun ⟨J, q⟩ => absurd (c81.mpr (okI_c q (Decidable.not_not.mp h76))) (by rw [h84]; decide))
      | exact fm_br0 (fun ⟨J, q⟩ => absurd (c81.mpr (okI_c q h76)) (by rw [h84]; decide))
      | exact fm_br1 (okI_mk (inR_g (n := 18) (by decide) h1 h7) ((inR_iff (n := 4) (by decide)).mpr h14) ((inR_iff (n := 4) (by decide)).mpr h21) ((inR_iff (n := 4) (by decide)).mpr h28) (by
          first
          | exact op_n (fun z => absurd (hb59.mpr z) (by rw [h63]; decide))
          | exact Or.inr (Or.inr (fun z => Int32.not_le.mpr h68 (nI_lt_le (i := 1) (by decide) |>.mp z)))) (by first | exact Or.inl h76 | exact Or.inr (c81.mp h84)))
    · show fm_G S0 Y_E_isInstruction X M (fm_br (∃ J, okI o x y z n J) M) 10 [some (.inl o), some (.inl x), some (.inl y), some (.inl z), some (.inl n), none] [] M
      refine fm_iload_n (pq := 11) hX d_E_isInstruction_10 rfl rfl rfl ?_
      refine fm_callS_i (as := [.inl x]) (st := []) (pq := 14) hX cE_114 st_E_isVariable (k_E_isVariable_0 x M) rfl rfl (Nat.le_of_ble_eq_true rfl) (Nat.le_of_ble_eq_true rfl) d_E_isInstruction_11 rfl ?_
      refine fm_p1_eq (tgt := 31) (pq := 17) hX d_E_isInstruction_14 rfl rfl (fun h14 => ?_) (fun h14 => ?_)
      · show fm_G S0 Y_E_isInstruction X M (fm_br (∃ J, okI o x y z n J) M) 31 [some (.inl o), some (.inl x), some (.inl y), some (.inl z), some (.inl n), none] [] M
        refine fm_iconst (pq := 32) (v := nI 0) hX d_E_isInstruction_31 (by decide) rfl ?_
        refine fm_zret hX rfl (by decide) d_E_isInstruction_32 ?_
        first
        | exact fm_br0 (fun ⟨J, q⟩ => inR_n0 (by decide) h1 (okI_o q))
        | exact fm_br0 (fun ⟨J, q⟩ => inR_n3 (n := 18) (by decide) h7 (okI_o q))
        | exact fm_br0 (fun ⟨J, q⟩ => h14 ((inR_iff (by decide)).mp (okI_x q)))
        | exact fm_br0 (fun ⟨J, q⟩ => h21 ((inR_iff (by decide)).mp (okI_y q)))
        | exact fm_br0 (fun ⟨J, q⟩ => h28 ((inR_iff (by decide)).mp (okI_z q)))
        | exact fm_br0 (fun ⟨J, q⟩ => okI_f q (Int32.not_lt.mpr (hb59.mp h63).1) (Int32.not_lt.mpr (hb59.mp h63).2) (nI_lt_le (i := 1) (by decide) |>.mpr (Int32.not_lt.mp h68)))
        | exact fm_br0 (fun ⟨J, q⟩ => absurd (c81.mpr (okI_c q (Decidable.not_not.mp h76))) (by rw [h84]; decide))
        | exact fm_br0 (fun ⟨J, q⟩ => absurd (c81.mpr (okI_c q h76)) (by rw [h84]; decide))
        | exact fm_br1 (okI_mk (inR_g (n := 18) (by decide) h1 h7) ((inR_iff (n := 4) (by decide)).mpr h14) ((inR_iff (n := 4) (by decide)).mpr h21) ((inR_iff (n := 4) (by decide)).mpr h28) (by
            first
            | exact op_n (fun z => absurd (hb59.mpr z) (by rw [h63]; decide))
            | exact Or.inr (Or.inr (fun z => Int32.not_le.mpr h68 (nI_lt_le (i := 1) (by decide) |>.mp z)))) (by first | exact Or.inl h76 | exact Or.inr (c81.mp h84)))
      · show fm_G S0 Y_E_isInstruction X M (fm_br (∃ J, okI o x y z n J) M) 17 [some (.inl o), some (.inl x), some (.inl y), some (.inl z), some (.inl n), none] [] M
        refine fm_iload_n (pq := 18) hX d_E_isInstruction_17 rfl rfl rfl ?_
        refine fm_callS_i (as := [.inl y]) (st := []) (pq := 21) hX cE_114 st_E_isVariable (k_E_isVariable_0 y M) rfl rfl (Nat.le_of_ble_eq_true rfl) (Nat.le_of_ble_eq_true rfl) d_E_isInstruction_18 rfl ?_
        refine fm_p1_eq (tgt := 31) (pq := 24) hX d_E_isInstruction_21 rfl rfl (fun h21 => ?_) (fun h21 => ?_)
        · show fm_G S0 Y_E_isInstruction X M (fm_br (∃ J, okI o x y z n J) M) 31 [some (.inl o), some (.inl x), some (.inl y), some (.inl z), some (.inl n), none] [] M
          refine fm_iconst (pq := 32) (v := nI 0) hX d_E_isInstruction_31 (by decide) rfl ?_
          refine fm_zret hX rfl (by decide) d_E_isInstruction_32 ?_
          first
          | exact fm_br0 (fun ⟨J, q⟩ => inR_n0 (by decide) h1 (okI_o q))
          | exact fm_br0 (fun ⟨J, q⟩ => inR_n3 (n := 18) (by decide) h7 (okI_o q))
          | exact fm_br0 (fun ⟨J, q⟩ => h14 ((inR_iff (by decide)).mp (okI_x q)))
          | exact fm_br0 (fun ⟨J, q⟩ => h21 ((inR_iff (by decide)).mp (okI_y q)))
          | exact fm_br0 (fun ⟨J, q⟩ => h28 ((inR_iff (by decide)).mp (okI_z q)))
          | exact fm_br0 (fun ⟨J, q⟩ => okI_f q (Int32.not_lt.mpr (hb59.mp h63).1) (Int32.not_lt.mpr (hb59.mp h63).2) (nI_lt_le (i := 1) (by decide) |>.mpr (Int32.not_lt.mp h68)))
          | exact fm_br0 (fun ⟨J, q⟩ => absurd (c81.mpr (okI_c q (Decidable.not_not.mp h76))) (by rw [h84]; decide))
          | exact fm_br0 (fun ⟨J, q⟩ => absurd (c81.mpr (okI_c q h76)) (by rw [h84]; decide))
          | exact fm_br1 (okI_mk (inR_g (n := 18) (by decide) h1 h7) ((inR_iff (n := 4) (by decide)).mpr h14) ((inR_iff (n := 4) (by decide)).mpr h21) ((inR_iff (n := 4) (by decide)).mpr h28) (by
              first
              | exact op_n (fun z => absurd (hb59.mpr z) (by rw [h63]; decide))
              | exact Or.inr (Or.inr (fun z => Int32.not_le.mpr h68 (nI_lt_le (i := 1) (by decide) |>.mp z)))) (by first | exact Or.inl h76 | exact Or.inr (c81.mp h84)))
        · show fm_G S0 Y_E_isInstruction X M (fm_br (∃ J, okI o x y z n J) M) 24 [some (.inl o), some (.inl x), some (.inl y), some (.inl z), some (.inl n), none] [] M
          refine fm_iload_n (pq := 25) hX d_E_isInstruction_24 rfl rfl rfl ?_
          refine fm_callS_i (as := [.inl z]) (st := []) (pq := 28) hX cE_114 st_E_isVariable (k_E_isVariable_0 z M) rfl rfl (Nat.le_of_ble_eq_true rfl) (Nat.le_of_ble_eq_true rfl) d_E_isInstruction_25 rfl ?_
          refine fm_p1_ne (tgt := 33) (pq := 31) hX d_E_isInstruction_28 rfl rfl (fun h28 => ?_) (fun h28 => ?_)
          · show fm_G S0 Y_E_isInstruction X M (fm_br (∃ J, okI o x y z n J) M) 33 [some (.inl o), some (.inl x), some (.inl y), some (.inl z), some (.inl n), none] [] M
            have L59 : ∀ b : Bool, (b = true ↔ (nI 3 ≤ o ∧ o ≤ nI 6)) → fm_G S0 Y_E_isInstruction X M (fm_br (∃ J, okI o x y z n J) M) 59 [some (.inl o), some (.inl x), some (.inl y), some (.inl z), some (.inl n), none] [.inl (bI b)] M := by
              intro b59 hb59
              refine fm_istore (pq := 61) (ls1 := [some (.inl o), some (.inl x), some (.inl y), some (.inl z), some (.inl n), some (.inl (bI b59))]) hX d_E_isInstruction_59 (by decide) rfl rfl ?_
              refine fm_iload (pq := 63) hX d_E_isInstruction_61 rfl rfl ?_
              refine fm_b1_eq (tgt := 73) (pq := 66) hX d_E_isInstruction_63 rfl rfl (fun h63 => ?_) (fun h63 => ?_)
              · show fm_G S0 Y_E_isInstruction X M (fm_br (∃ J, okI o x y z n J) M) 73 [some (.inl o), some (.inl x), some (.inl y), some (.inl z), some (.inl n), some (.inl (bI b59))] [] M
                refine fm_iload_n (pq := 74) hX d_E_isInstruction_73 rfl rfl rfl ?_
                refine fm_bipush (pq := 76) (v := nI 16) hX d_E_isInstruction_74 (by decide) rfl ?_
                refine fm_icmp_ne (tgt := 87) (pq := 79) hX d_E_isInstruction_76 rfl rfl (fun h76 => ?_) (fun h76 => ?_)
                · show fm_G S0 Y_E_isInstruction X M (fm_br (∃ J, okI o x y z n J) M) 87 [some (.inl o), some (.inl x), some (.inl y), some (.inl z), some (.inl n), some (.inl (bI b59))] [] M
                  refine fm_iconst (pq := 88) (v := nI 1) hX d_E_isInstruction_87 (by decide) rfl ?_
                  refine fm_goto (tgt := 92) hX d_E_isInstruction_88 rfl ?_
                  refine fm_zret hX rfl (by decide) d_E_isInstruction_92 ?_
                  first
                  | exact fm_br0 (fun ⟨J, q⟩ => inR_n0 (by decide) h1 (okI_o q))
                  | exact fm_br0 (fun ⟨J, q⟩ => inR_n3 (n := 18) (by decide) h7 (okI_o q))
                  | exact fm_br0 (fun ⟨J, q⟩ => h14 ((inR_iff (by decide)).mp (okI_x q)))
                  | exact fm_br0 (fun ⟨J, q⟩ => h21 ((inR_iff (by decide)).mp (okI_y q)))
                  | exact fm_br0 (fun ⟨J, q⟩ => h28 ((inR_iff (by decide)).mp (okI_z q)))
                  | exact fm_br0 (fun ⟨J, q⟩ => okI_f q (Int32.not_lt.mpr (hb59.mp h63).1) (Int32.not_lt.mpr (hb59.mp h63).2) (nI_lt_le (i := 1) (by decide) |>.mpr (Int32.not_lt.mp h68)))
                  | exact fm_br0 (fun ⟨J, q⟩ => absurd (c81.mpr (okI_c q (Decidable.not_not.mp h76))) (by rw [h84]; decide))
                  | exact fm_br0 (fun ⟨J, q⟩ => absurd (c81.mpr (okI_c q h76)) (by rw [h84]; decide))
                  | exact fm_br1 (okI_mk (inR_g (n := 18) (by decide) h1 h7) ((inR_iff (n := 4) (by decide)).mpr h14) ((inR_iff (n := 4) (by decide)).mpr h21) ((inR_iff (n := 4) (by decide)).mpr h28) (by
                      first
                      | exact op_n (fun z => absurd (hb59.mpr z) (by rw [h63]; decide))
                      | exact Or.inr (Or.inr (fun z => Int32.not_le.mpr h68 (nI_lt_le (i := 1) (by decide) |>.mp z)))) (by first | exact Or.inl h76 | exact Or.inr (c81.mp h84)))
                · show fm_G S0 Y_E_isInstruction X M (fm_br (∃ J, okI o x y z n J) M) 79 [some (.inl o), some (.inl x), some (.inl y), some (.inl z), some (.inl n), some (.inl (bI b59))] [] M
                  refine fm_iload (pq := 81) hX d_E_isInstruction_79 rfl rfl ?_
                  refine fm_callS_b (as := [.inl n]) (st := []) (pq := 84) hX cE_41 st_E_isMethod (k_E_isM_0 n M) rfl rfl (Nat.le_of_ble_eq_true rfl) (Nat.le_of_ble_eq_true rfl) d_E_isInstruction_81 rfl (fun b81 c81 => ?_)
                  refine fm_b1_eq (tgt := 91) (pq := 87) hX d_E_isInstruction_84 rfl rfl (fun h84 => ?_) (fun h84 => ?_)
                  · show fm_G S0 Y_E_isInstruction X M (fm_br (∃ J, okI o x y z n J) M) 91 [some (.inl o), some (.inl x), some (.inl y), some (.inl z), some (.inl n), some (.inl (bI b59))] [] M
                    refine fm_iconst (pq := 92) (v := nI 0) hX d_E_isInstruction_91 (by decide) rfl ?_
                    refine fm_zret hX rfl (by decide) d_E_isInstruction_92 ?_
                    first
                    | exact fm_br0 (fun ⟨J, q⟩ => inR_n0 (by decide) h1 (okI_o q))
                    | exact fm_br0 (fun ⟨J, q⟩ => inR_n3 (n := 18) (by decide) h7 (okI_o q))
                    | exact fm_br0 (fun ⟨J, q⟩ => h14 ((inR_iff (by decide)).mp (okI_x q)))
                    | exact fm_br0 (fun ⟨J, q⟩ => h21 ((inR_iff (by decide)).mp (okI_y q)))
                    | exact fm_br0 (fun ⟨J, q⟩ => h28 ((inR_iff (by decide)).mp (okI_z q)))
                    | exact fm_br0 (fun ⟨J, q⟩ => okI_f q (Int32.not_lt.mpr (hb59.mp h63).1) (Int32.not_lt.mpr (hb59.mp h63).2) (nI_lt_le (i := 1) (by decide) |>.mpr (Int32.not_lt.mp h68)))
                    | exact fm_br0 (fun ⟨J, q⟩ => absurd (c81.mpr (okI_c q (Decidable.not_not.mp h76))) (by rw [h84]; decide))
                    | exact fm_br0 (fun ⟨J, q⟩ => absurd (c81.mpr (okI_c q h76)) (by rw [h84]; decide))
                    | exact fm_br1 (okI_mk (inR_g (n := 18) (by decide) h1 h7) ((inR_iff (n := 4) (by decide)).mpr h14) ((inR_iff (n := 4) (by decide)).mpr h21) ((inR_iff (n := 4) (by decide)).mpr h28) (by
                        first
                        | exact op_n (fun z => absurd (hb59.mpr z) (by rw [h63]; decide))
                        | exact Or.inr (Or.inr (fun z => Int32.not_le.mpr h68 (nI_lt_le (i := 1) (by decide) |>.mp z)))) (by first | exact Or.inl h76 | exact Or.inr (c81.mp h84)))
                  · show fm_G S0 Y_E_isInstruction X M (fm_br (∃ J, okI o x y z n J) M) 87 [some (.inl o), some (.inl x), some (.inl y), some (.inl z), some (.inl n), some (.inl (bI b59))] [] M
                    refine fm_iconst (pq := 88) (v := nI 1) hX d_E_isInstruction_87 (by decide) rfl ?_
                    refine fm_goto (tgt := 92) hX d_E_isInstruction_88 rfl ?_
                    refine fm_zret hX rfl (by decide) d_E_isInstruction_92 ?_
                    first
                    | exact fm_br0 (fun ⟨J, q⟩ => inR_n0 (by decide) h1 (okI_o q))
                    | exact fm_br0 (fun ⟨J, q⟩ => inR_n3 (n := 18) (by decide) h7 (okI_o q))
                    | exact fm_br0 (fun ⟨J, q⟩ => h14 ((inR_iff (by decide)).mp (okI_x q)))
                    | exact fm_br0 (fun ⟨J, q⟩ => h21 ((inR_iff (by decide)).mp (okI_y q)))
                    | exact fm_br0 (fun ⟨J, q⟩ => h28 ((inR_iff (by decide)).mp (okI_z q)))
                    | exact fm_br0 (fun ⟨J, q⟩ => okI_f q (Int32.not_lt.mpr (hb59.mp h63).1) (Int32.not_lt.mpr (hb59.mp h63).2) (nI_lt_le (i := 1) (by decide) |>.mpr (Int32.not_lt.mp h68)))
                    | exact fm_br0 (fun ⟨J, q⟩ => absurd (c81.mpr (okI_c q (Decidable.not_not.mp h76))) (by rw [h84]; decide))
                    | exact fm_br0 (fun ⟨J, q⟩ => absurd (c81.mpr (okI_c q h76)) (by rw [h84]; decide))
                    | exact fm_br1 (okI_mk (inR_g (n := 18) (by decide) h1 h7) ((inR_iff (n := 4) (by decide)).mpr h14) ((inR_iff (n := 4) (by decide)).mpr h21) ((inR_iff (n := 4) (by decide)).mpr h28) (by
                        first
                        | exact op_n (fun z => absurd (hb59.mpr z) (by rw [h63]; decide))
                        | exact Or.inr (Or.inr (fun z => Int32.not_le.mpr h68 (nI_lt_le (i := 1) (by decide) |>.mp z)))) (by first | exact Or.inl h76 | exact Or.inr (c81.mp h84)))
              · show fm_G S0 Y_E_isInstruction X M (fm_br (∃ J, okI o x y z n J) M) 66 [some (.inl o), some (.inl x), some (.inl y), some (.inl z), some (.inl n), some (.inl (bI b59))] [] M
                refine fm_iload_n (pq := 67) hX d_E_isInstruction_66 rfl rfl rfl ?_
                refine fm_iconst (pq := 68) (v := nI 2) hX d_E_isInstruction_67 (by decide) rfl ?_
                refine fm_icmp_lt (tgt := 73) (pq := 71) hX d_E_isInstruction_68 rfl rfl (fun h68 => ?_) (fun h68 => ?_)
                · show fm_G S0 Y_E_isInstruction X M (fm_br (∃ J, okI o x y z n J) M) 73 [some (.inl o), some (.inl x), some (.inl y), some (.inl z), some (.inl n), some (.inl (bI b59))] [] M
                  refine fm_iload_n (pq := 74) hX d_E_isInstruction_73 rfl rfl rfl ?_
                  refine fm_bipush (pq := 76) (v := nI 16) hX d_E_isInstruction_74 (by decide) rfl ?_
                  refine fm_icmp_ne (tgt := 87) (pq := 79) hX d_E_isInstruction_76 rfl rfl (fun h76 => ?_) (fun h76 => ?_)
                  · show fm_G S0 Y_E_isInstruction X M (fm_br (∃ J, okI o x y z n J) M) 87 [some (.inl o), some (.inl x), some (.inl y), some (.inl z), some (.inl n), some (.inl (bI b59))] [] M
                    refine fm_iconst (pq := 88) (v := nI 1) hX d_E_isInstruction_87 (by decide) rfl ?_
                    refine fm_goto (tgt := 92) hX d_E_isInstruction_88 rfl ?_
                    refine fm_zret hX rfl (by decide) d_E_isInstruction_92 ?_
                    first
                    | exact fm_br0 (fun ⟨J, q⟩ => inR_n0 (by decide) h1 (okI_o q))
                    | exact fm_br0 (fun ⟨J, q⟩ => inR_n3 (n := 18) (by decide) h7 (okI_o q))
                    | exact fm_br0 (fun ⟨J, q⟩ => h14 ((inR_iff (by decide)).mp (okI_x q)))
                    | exact fm_br0 (fun ⟨J, q⟩ => h21 ((inR_iff (by decide)).mp (okI_y q)))
                    | exact fm_br0 (fun ⟨J, q⟩ => h28 ((inR_iff (by decide)).mp (okI_z q)))
                    | exact fm_br0 (fun ⟨J, q⟩ => okI_f q (Int32.not_lt.mpr (hb59.mp h63).1) (Int32.not_lt.mpr (hb59.mp h63).2) (nI_lt_le (i := 1) (by decide) |>.mpr (Int32.not_lt.mp h68)))
                    | exact fm_br0 (fun ⟨J, q⟩ => absurd (c81.mpr (okI_c q (Decidable.not_not.mp h76))) (by rw [h84]; decide))
                    | exact fm_br0 (fun ⟨J, q⟩ => absurd (c81.mpr (okI_c q h76)) (by rw [h84]; decide))
                    | exact fm_br1 (okI_mk (inR_g (n := 18) (by decide) h1 h7) ((inR_iff (n := 4) (by decide)).mpr h14) ((inR_iff (n := 4) (by decide)).mpr h21) ((inR_iff (n := 4) (by decide)).mpr h28) (by
                        first
                        | exact op_n (fun z => absurd (hb59.mpr z) (by rw [h63]; decide))
                        | exact Or.inr (Or.inr (fun z => Int32.not_le.mpr h68 (nI_lt_le (i := 1) (by decide) |>.mp z)))) (by first | exact Or.inl h76 | exact Or.inr (c81.mp h84)))
                  · show fm_G S0 Y_E_isInstruction X M (fm_br (∃ J, okI o x y z n J) M) 79 [some (.inl o), some (.inl x), some (.inl y), some (.inl z), some (.inl n), some (.inl (bI b59))] [] M
                    refine fm_iload (pq := 81) hX d_E_isInstruction_79 rfl rfl ?_
                    refine fm_callS_b (as := [.inl n]) (st := []) (pq := 84) hX cE_41 st_E_isMethod (k_E_isM_0 n M) rfl rfl (Nat.le_of_ble_eq_true rfl) (Nat.le_of_ble_eq_true rfl) d_E_isInstruction_81 rfl (fun b81 c81 => ?_)
                    refine fm_b1_eq (tgt := 91) (pq := 87) hX d_E_isInstruction_84 rfl rfl (fun h84 => ?_) (fun h84 => ?_)
                    · show fm_G S0 Y_E_isInstruction X M (fm_br (∃ J, okI o x y z n J) M) 91 [some (.inl o), some (.inl x), some (.inl y), some (.inl z), some (.inl n), some (.inl (bI b59))] [] M
                      refine fm_iconst (pq := 92) (v := nI 0) hX d_E_isInstruction_91 (by decide) rfl ?_
                      refine fm_zret hX rfl (by decide) d_E_isInstruction_92 ?_
                      first
                      | exact fm_br0 (fun ⟨J, q⟩ => inR_n0 (by decide) h1 (okI_o q))
                      | exact fm_br0 (fun ⟨J, q⟩ => inR_n3 (n := 18) (by decide) h7 (okI_o q))
                      | exact fm_br0 (fun ⟨J, q⟩ => h14 ((inR_iff (by decide)).mp (okI_x q)))
                      | exact fm_br0 (fun ⟨J, q⟩ => h21 ((inR_iff (by decide)).mp (okI_y q)))
                      | exact fm_br0 (fun ⟨J, q⟩ => h28 ((inR_iff (by decide)).mp (okI_z q)))
                      | exact fm_br0 (fun ⟨J, q⟩ => okI_f q (Int32.not_lt.mpr (hb59.mp h63).1) (Int32.not_lt.mpr (hb59.mp h63).2) (nI_lt_le (i := 1) (by decide) |>.mpr (Int32.not_lt.mp h68)))
                      | exact fm_br0 (fun ⟨J, q⟩ => absurd (c81.mpr (okI_c q (Decidable.not_not.mp h76))) (by rw [h84]; decide))
                      | exact fm_br0 (fun ⟨J, q⟩ => absurd (c81.mpr (okI_c q h76)) (by rw [h84]; decide))
                      | exact fm_br1 (okI_mk (inR_g (n := 18) (by decide) h1 h7) ((inR_iff (n := 4) (by decide)).mpr h14) ((inR_iff (n := 4) (by decide)).mpr h21) ((inR_iff (n := 4) (by decide)).mpr h28) (by
                          first
                          | exact op_n (fun z => absurd (hb59.mpr z) (by rw [h63]; decide))
                          | exact Or.inr (Or.inr (fun z => Int32.not_le.mpr h68 (nI_lt_le (i := 1) (by decide) |>.mp z)))) (by first | exact Or.inl h76 | exact Or.inr (c81.mp h84)))
                    · show fm_G S0 Y_E_isInstruction X M (fm_br (∃ J, okI o x y z n J) M) 87 [some (.inl o), some (.inl x), some (.inl y), some (.inl z), some (.inl n), some (.inl (bI b59))] [] M
                      refine fm_iconst (pq := 88) (v := nI 1) hX d_E_isInstruction_87 (by decide) rfl ?_
                      refine fm_goto (tgt := 92) hX d_E_isInstruction_88 rfl ?_
                      refine fm_zret hX rfl (by decide) d_E_isInstruction_92 ?_
                      first
                      | exact fm_br0 (fun ⟨J, q⟩ => inR_n0 (by decide) h1 (okI_o q))
                      | exact fm_br0 (fun ⟨J, q⟩ => inR_n3 (n := 18) (by decide) h7 (okI_o q))
                      | exact fm_br0 (fun ⟨J, q⟩ => h14 ((inR_iff (by decide)).mp (okI_x q)))
                      | exact fm_br0 (fun ⟨J, q⟩ => h21 ((inR_iff (by decide)).mp (okI_y q)))
                      | exact fm_br0 (fun ⟨J, q⟩ => h28 ((inR_iff (by decide)).mp (okI_z q)))
                      | exact fm_br0 (fun ⟨J, q⟩ => okI_f q (Int32.not_lt.mpr (hb59.mp h63).1) (Int32.not_lt.mpr (hb59.mp h63).2) (nI_lt_le (i := 1) (by decide) |>.mpr (Int32.not_lt.mp h68)))
                      | exact fm_br0 (fun ⟨J, q⟩ => absurd (c81.mpr (okI_c q (Decidable.not_not.mp h76))) (by rw [h84]; decide))
                      | exact fm_br0 (fun ⟨J, q⟩ => absurd (c81.mpr (okI_c q h76)) (by rw [h84]; decide))
                      | exact fm_br1 (okI_mk (inR_g (n := 18) (by decide) h1 h7) ((inR_iff (n := 4) (by decide)).mpr h14) ((inR_iff (n := 4) (by decide)).mpr h21) ((inR_iff (n := 4) (by decide)).mpr h28) (by
                          first
                          | exact op_n (fun z => absurd (hb59.mpr z) (by rw [h63]; decide))
                          | exact Or.inr (Or.inr (fun z => Int32.not_le.mpr h68 (nI_lt_le (i := 1) (by decide) |>.mp z)))) (by first | exact Or.inl h76 | exact Or.inr (c81.mp h84)))
                · show fm_G S0 Y_E_isInstruction X M (fm_br (∃ J, okI o x y z n J) M) 71 [some (.inl o), some (.inl x), some (.inl y), some (.inl z), some (.inl n), some (.inl (bI b59))] [] M
                  refine fm_iconst (pq := 72) (v := nI 0) hX d_E_isInstruction_71 (by decide) rfl ?_
                  refine fm_zret hX rfl (by decide) d_E_isInstruction_72 ?_
                  first
                  | exact fm_br0 (fun ⟨J, q⟩ => inR_n0 (by decide) h1 (okI_o q))
                  | exact fm_br0 (fun ⟨J, q⟩ => inR_n3 (n := 18) (by decide) h7 (okI_o q))
                  | exact fm_br0 (fun ⟨J, q⟩ => h14 ((inR_iff (by decide)).mp (okI_x q)))
                  | exact fm_br0 (fun ⟨J, q⟩ => h21 ((inR_iff (by decide)).mp (okI_y q)))
                  | exact fm_br0 (fun ⟨J, q⟩ => h28 ((inR_iff (by decide)).mp (okI_z q)))
                  | exact fm_br0 (fun ⟨J, q⟩ => okI_f q (Int32.not_lt.mpr (hb59.mp h63).1) (Int32.not_lt.mpr (hb59.mp h63).2) (nI_lt_le (i := 1) (by decide) |>.mpr (Int32.not_lt.mp h68)))
                  | exact fm_br0 (fun ⟨J, q⟩ => absurd (c81.mpr (okI_c q (Decidable.not_not.mp h76))) (by rw [h84]; decide))
                  | exact fm_br0 (fun ⟨J, q⟩ => absurd (c81.mpr (okI_c q h76)) (by rw [h84]; decide))
                  | exact fm_br1 (okI_mk (inR_g (n := 18) (by decide) h1 h7) ((inR_iff (n := 4) (by decide)).mpr h14) ((inR_iff (n := 4) (by decide)).mpr h21) ((inR_iff (n := 4) (by decide)).mpr h28) (by
                      first
                      | exact op_n (fun z => absurd (hb59.mpr z) (by rw [h63]; decide))
                      | exact Or.inr (Or.inr (fun z => Int32.not_le.mpr h68 (nI_lt_le (i := 1) (by decide) |>.mp z)))) (by first | exact Or.inl h76 | exact Or.inr (c81.mp h84)))
            refine fm_iload_n (pq := 34) hX d_E_isInstruction_33 rfl rfl rfl ?_
            refine fm_iconst (pq := 35) (v := nI 3) hX d_E_isInstruction_34 (by decide) rfl ?_
            refine fm_icmp_eq (tgt := 54) (pq := 38) hX d_E_isInstruction_35 rfl rfl (fun h35 => ?_) (fun h35 => ?_)
            · show fm_G S0 Y_E_isInstruction X M (fm_br (∃ J, okI o x y z n J) M) 54 [some (.inl o), some (.inl x), some (.inl y), some (.inl z), some (.inl n), none] [] M
              refine fm_iconst (pq := 55) (v := nI 1) hX d_E_isInstruction_54 (by decide) rfl ?_
              refine fm_goto (tgt := 59) hX d_E_isInstruction_55 rfl ?_
              exact L59 true ⟨fun _ => (by first | exact ⟨by rw [h35]; decide, by rw [h35]; decide⟩ | exact ⟨by rw [h40]; decide, by rw [h40]; decide⟩ | exact ⟨by rw [h45]; decide, by rw [h45]; decide⟩ | exact ⟨by rw [h51]; decide, by rw [h51]; decide⟩ | exact ⟨by rw [Decidable.not_not.mp h51]; decide, by rw [Decidable.not_not.mp h51]; decide⟩), fun _ => rfl⟩
            · show fm_G S0 Y_E_isInstruction X M (fm_br (∃ J, okI o x y z n J) M) 38 [some (.inl o), some (.inl x), some (.inl y), some (.inl z), some (.inl n), none] [] M
              refine fm_iload_n (pq := 39) hX d_E_isInstruction_38 rfl rfl rfl ?_
              refine fm_iconst (pq := 40) (v := nI 4) hX d_E_isInstruction_39 (by decide) rfl ?_
              refine fm_icmp_eq (tgt := 54) (pq := 43) hX d_E_isInstruction_40 rfl rfl (fun h40 => ?_) (fun h40 => ?_)
              · show fm_G S0 Y_E_isInstruction X M (fm_br (∃ J, okI o x y z n J) M) 54 [some (.inl o), some (.inl x), some (.inl y), some (.inl z), some (.inl n), none] [] M
                refine fm_iconst (pq := 55) (v := nI 1) hX d_E_isInstruction_54 (by decide) rfl ?_
                refine fm_goto (tgt := 59) hX d_E_isInstruction_55 rfl ?_
                exact L59 true ⟨fun _ => (by first | exact ⟨by rw [h35]; decide, by rw [h35]; decide⟩ | exact ⟨by rw [h40]; decide, by rw [h40]; decide⟩ | exact ⟨by rw [h45]; decide, by rw [h45]; decide⟩ | exact ⟨by rw [h51]; decide, by rw [h51]; decide⟩ | exact ⟨by rw [Decidable.not_not.mp h51]; decide, by rw [Decidable.not_not.mp h51]; decide⟩), fun _ => rfl⟩
              · show fm_G S0 Y_E_isInstruction X M (fm_br (∃ J, okI o x y z n J) M) 43 [some (.inl o), some (.inl x), some (.inl y), some (.inl z), some (.inl n), none] [] M
                refine fm_iload_n (pq := 44) hX d_E_isInstruction_43 rfl rfl rfl ?_
                refine fm_iconst (pq := 45) (v := nI 5) hX d_E_isInstruction_44 (by decide) rfl ?_
                refine fm_icmp_eq (tgt := 54) (pq := 48) hX d_E_isInstruction_45 rfl rfl (fun h45 => ?_) (fun h45 => ?_)
                · show fm_G S0 Y_E_isInstruction X M (fm_br (∃ J, okI o x y z n J) M) 54 [some (.inl o), some (.inl x), some (.inl y), some (.inl z), some (.inl n), none] [] M
                  refine fm_iconst (pq := 55) (v := nI 1) hX d_E_isInstruction_54 (by decide) rfl ?_
                  refine fm_goto (tgt := 59) hX d_E_isInstruction_55 rfl ?_
                  exact L59 true ⟨fun _ => (by first | exact ⟨by rw [h35]; decide, by rw [h35]; decide⟩ | exact ⟨by rw [h40]; decide, by rw [h40]; decide⟩ | exact ⟨by rw [h45]; decide, by rw [h45]; decide⟩ | exact ⟨by rw [h51]; decide, by rw [h51]; decide⟩ | exact ⟨by rw [Decidable.not_not.mp h51]; decide, by rw [Decidable.not_not.mp h51]; decide⟩), fun _ => rfl⟩
                · show fm_G S0 Y_E_isInstruction X M (fm_br (∃ J, okI o x y z n J) M) 48 [some (.inl o), some (.inl x), some (.inl y), some (.inl z), some (.inl n), none] [] M
                  refine fm_iload_n (pq := 49) hX d_E_isInstruction_48 rfl rfl rfl ?_
                  refine fm_bipush (pq := 51) (v := nI 6) hX d_E_isInstruction_49 (by decide) rfl ?_
                  refine fm_icmp_ne (tgt := 58) (pq := 54) hX d_E_isInstruction_51 rfl rfl (fun h51 => ?_) (fun h51 => ?_)
                  · show fm_G S0 Y_E_isInstruction X M (fm_br (∃ J, okI o x y z n J) M) 58 [some (.inl o), some (.inl x), some (.inl y), some (.inl z), some (.inl n), none] [] M
                    refine fm_iconst (pq := 59) (v := nI 0) hX d_E_isInstruction_58 (by decide) rfl ?_
                    exact L59 false ⟨fun z => absurd z (by decide), fun z => absurd z (op_f h35 h40 h45 h51)⟩
                  · show fm_G S0 Y_E_isInstruction X M (fm_br (∃ J, okI o x y z n J) M) 54 [some (.inl o), some (.inl x), some (.inl y), some (.inl z), some (.inl n), none] [] M
                    refine fm_iconst (pq := 55) (v := nI 1) hX d_E_isInstruction_54 (by decide) rfl ?_
                    refine fm_goto (tgt := 59) hX d_E_isInstruction_55 rfl ?_
                    exact L59 true ⟨fun _ => (by first | exact ⟨by rw [h35]; decide, by rw [h35]; decide⟩ | exact ⟨by rw [h40]; decide, by rw [h40]; decide⟩ | exact ⟨by rw [h45]; decide, by rw [h45]; decide⟩ | exact ⟨by rw [h51]; decide, by rw [h51]; decide⟩ | exact ⟨by rw [Decidable.not_not.mp h51]; decide, by rw [Decidable.not_not.mp h51]; decide⟩), fun _ => rfl⟩
          · show fm_G S0 Y_E_isInstruction X M (fm_br (∃ J, okI o x y z n J) M) 31 [some (.inl o), some (.inl x), some (.inl y), some (.inl z), some (.inl n), none] [] M
            refine fm_iconst (pq := 32) (v := nI 0) hX d_E_isInstruction_31 (by decide) rfl ?_
            refine fm_zret hX rfl (by decide) d_E_isInstruction_32 ?_
            first
            | exact fm_br0 (fun ⟨J, q⟩ => inR_n0 (by decide) h1 (okI_o q))
            | exact fm_br0 (fun ⟨J, q⟩ => inR_n3 (n := 18) (by decide) h7 (okI_o q))
            | exact fm_br0 (fun ⟨J, q⟩ => h14 ((inR_iff (by decide)).mp (okI_x q)))
            | exact fm_br0 (fun ⟨J, q⟩ => h21 ((inR_iff (by decide)).mp (okI_y q)))
            | exact fm_br0 (fun ⟨J, q⟩ => h28 ((inR_iff (by decide)).mp (okI_z q)))
            | exact fm_br0 (fun ⟨J, q⟩ => okI_f q (Int32.not_lt.mpr (hb59.mp h63).1) (Int32.not_lt.mpr (hb59.mp h63).2) (nI_lt_le (i := 1) (by decide) |>.mpr (Int32.not_lt.mp h68)))
            | exact fm_br0 (fun ⟨J, q⟩ => absurd (c81.mpr (okI_c q (Decidable.not_not.mp h76))) (by rw [h84]; decide))
            | exact fm_br0 (fun ⟨J, q⟩ => absurd (c81.mpr (okI_c q h76)) (by rw [h84]; decide))
            | exact fm_br1 (okI_mk (inR_g (n := 18) (by decide) h1 h7) ((inR_iff (n := 4) (by decide)).mpr h14) ((inR_iff (n := 4) (by decide)).mpr h21) ((inR_iff (n := 4) (by decide)).mpr h28) (by
                first
                | exact op_n (fun z => absurd (hb59.mpr z) (by rw [h63]; decide))
                | exact Or.inr (Or.inr (fun z => Int32.not_le.mpr h68 (nI_lt_le (i := 1) (by decide) |>.mp z)))) (by first | exact Or.inl h76 | exact Or.inr (c81.mp h84)))
